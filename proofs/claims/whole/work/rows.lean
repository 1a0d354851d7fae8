section
-- ===== PART A: goes FIRST, ahead of the names: the tables' words, and 'selects' of the private methods out of them =====
/-- a private method of a class that the tables say can be made, by its rows of tables_1 -/
def lw_okq (q : MethodName × Nat) : Prop := (q.1.cls ≠ "java/lang/invoke/MethodHandle" ∧ q.1.cls ≠ "java/lang/invoke/VarHandle") ∧ Cond.instantiable q.1.cls q.2 ∈ tables_1 ∧ Cond.privateMethod q.1 ∈ tables_1 ∧ Cond.instanceMethod q.1 ∈ tables_1
theorem lw_p0 : lw_okq (⟨"java/lang/Throwable", "fillInStackTrace", "(I)Ljava/lang/Throwable;"⟩, 6) := ⟨⟨by decide +kernel, by decide +kernel⟩, List.mem_of_getElem? (i := 423) (by decide +kernel), List.mem_of_getElem? (i := 421) (by decide +kernel), List.mem_of_getElem? (i := 422) (by decide +kernel)⟩
theorem lw_p1 : lw_okq (⟨"Fishclock", "countWaitingBoxes", "()V"⟩, 12) := ⟨⟨by decide +kernel, by decide +kernel⟩, List.mem_of_getElem? (i := 20) (by decide +kernel), List.mem_of_getElem? (i := 598) (by decide +kernel), List.mem_of_getElem? (i := 599) (by decide +kernel)⟩
theorem lw_p2 : lw_okq (⟨"Fishclock", "offerBoats", "(Z)V"⟩, 12) := ⟨⟨by decide +kernel, by decide +kernel⟩, List.mem_of_getElem? (i := 20) (by decide +kernel), List.mem_of_getElem? (i := 605) (by decide +kernel), List.mem_of_getElem? (i := 606) (by decide +kernel)⟩
theorem lw_p3 : lw_okq (⟨"Fishclock", "offerBoat", "(I)V"⟩, 12) := ⟨⟨by decide +kernel, by decide +kernel⟩, List.mem_of_getElem? (i := 20) (by decide +kernel), List.mem_of_getElem? (i := 622) (by decide +kernel), List.mem_of_getElem? (i := 623) (by decide +kernel)⟩
theorem lw_p4 : lw_okq (⟨"Fishclock", "bringToClock", "(II)V"⟩, 12) := ⟨⟨by decide +kernel, by decide +kernel⟩, List.mem_of_getElem? (i := 20) (by decide +kernel), List.mem_of_getElem? (i := 657) (by decide +kernel), List.mem_of_getElem? (i := 658) (by decide +kernel)⟩
theorem lw_p5 : lw_okq (⟨"Fishclock", "beginRound", "(I)V"⟩, 12) := ⟨⟨by decide +kernel, by decide +kernel⟩, List.mem_of_getElem? (i := 20) (by decide +kernel), List.mem_of_getElem? (i := 661) (by decide +kernel), List.mem_of_getElem? (i := 662) (by decide +kernel)⟩
theorem lw_p6 : lw_okq (⟨"Fishclock", "withdrawRest", "(I)I"⟩, 12) := ⟨⟨by decide +kernel, by decide +kernel⟩, List.mem_of_getElem? (i := 20) (by decide +kernel), List.mem_of_getElem? (i := 680) (by decide +kernel), List.mem_of_getElem? (i := 681) (by decide +kernel)⟩
theorem lw_p7 : lw_okq (⟨"Fishclock", "withdraw", "(I)V"⟩, 12) := ⟨⟨by decide +kernel, by decide +kernel⟩, List.mem_of_getElem? (i := 20) (by decide +kernel), List.mem_of_getElem? (i := 692) (by decide +kernel), List.mem_of_getElem? (i := 693) (by decide +kernel)⟩
theorem lw_p8 : lw_okq (⟨"Fishclock", "costOfFirst", "(II)I"⟩, 12) := ⟨⟨by decide +kernel, by decide +kernel⟩, List.mem_of_getElem? (i := 20) (by decide +kernel), List.mem_of_getElem? (i := 735) (by decide +kernel), List.mem_of_getElem? (i := 736) (by decide +kernel)⟩
theorem lw_p9 : lw_okq (⟨"Fishclock", "sellFirst", "(II)V"⟩, 12) := ⟨⟨by decide +kernel, by decide +kernel⟩, List.mem_of_getElem? (i := 20) (by decide +kernel), List.mem_of_getElem? (i := 744) (by decide +kernel), List.mem_of_getElem? (i := 745) (by decide +kernel)⟩
theorem lw_p10 : lw_okq (⟨"Fishclock", "goOn", "(I)V"⟩, 12) := ⟨⟨by decide +kernel, by decide +kernel⟩, List.mem_of_getElem? (i := 20) (by decide +kernel), List.mem_of_getElem? (i := 752) (by decide +kernel), List.mem_of_getElem? (i := 753) (by decide +kernel)⟩
theorem lw_p11 : lw_okq (⟨"Fishclock", "tickHalls", "()V"⟩, 12) := ⟨⟨by decide +kernel, by decide +kernel⟩, List.mem_of_getElem? (i := 20) (by decide +kernel), List.mem_of_getElem? (i := 763) (by decide +kernel), List.mem_of_getElem? (i := 764) (by decide +kernel)⟩
theorem lw_p12 : lw_okq (⟨"Fishclock", "tickFalling", "(I)V"⟩, 12) := ⟨⟨by decide +kernel, by decide +kernel⟩, List.mem_of_getElem? (i := 20) (by decide +kernel), List.mem_of_getElem? (i := 767) (by decide +kernel), List.mem_of_getElem? (i := 768) (by decide +kernel)⟩
theorem lw_p13 : lw_okq (⟨"Fishclock", "tickStanding", "(I)V"⟩, 12) := ⟨⟨by decide +kernel, by decide +kernel⟩, List.mem_of_getElem? (i := 20) (by decide +kernel), List.mem_of_getElem? (i := 796) (by decide +kernel), List.mem_of_getElem? (i := 797) (by decide +kernel)⟩
theorem lw_p14 : lw_okq (⟨"Fishclock", "findWinner", "(I)I"⟩, 12) := ⟨⟨by decide +kernel, by decide +kernel⟩, List.mem_of_getElem? (i := 20) (by decide +kernel), List.mem_of_getElem? (i := 800) (by decide +kernel), List.mem_of_getElem? (i := 801) (by decide +kernel)⟩
theorem lw_p15 : lw_okq (⟨"Fishclock", "tickTaking", "(I)V"⟩, 12) := ⟨⟨by decide +kernel, by decide +kernel⟩, List.mem_of_getElem? (i := 20) (by decide +kernel), List.mem_of_getElem? (i := 814) (by decide +kernel), List.mem_of_getElem? (i := 815) (by decide +kernel)⟩
def lw_privs_1 : List (MethodName × Nat) := [(⟨"java/lang/Throwable", "fillInStackTrace", "(I)Ljava/lang/Throwable;"⟩, 6), (⟨"Fishclock", "countWaitingBoxes", "()V"⟩, 12), (⟨"Fishclock", "offerBoats", "(Z)V"⟩, 12), (⟨"Fishclock", "offerBoat", "(I)V"⟩, 12), (⟨"Fishclock", "bringToClock", "(II)V"⟩, 12), (⟨"Fishclock", "beginRound", "(I)V"⟩, 12), (⟨"Fishclock", "withdrawRest", "(I)I"⟩, 12), (⟨"Fishclock", "withdraw", "(I)V"⟩, 12), (⟨"Fishclock", "costOfFirst", "(II)I"⟩, 12), (⟨"Fishclock", "sellFirst", "(II)V"⟩, 12), (⟨"Fishclock", "goOn", "(I)V"⟩, 12), (⟨"Fishclock", "tickHalls", "()V"⟩, 12), (⟨"Fishclock", "tickFalling", "(I)V"⟩, 12), (⟨"Fishclock", "tickStanding", "(I)V"⟩, 12), (⟨"Fishclock", "findWinner", "(I)I"⟩, 12), (⟨"Fishclock", "tickTaking", "(I)V"⟩, 12)]
theorem lw_r1 : ∀ q ∈ lw_privs_1, lw_okq q := List.forall_mem_cons.mpr ⟨lw_p0, List.forall_mem_cons.mpr ⟨lw_p1, List.forall_mem_cons.mpr ⟨lw_p2, List.forall_mem_cons.mpr ⟨lw_p3, List.forall_mem_cons.mpr ⟨lw_p4, List.forall_mem_cons.mpr ⟨lw_p5, List.forall_mem_cons.mpr ⟨lw_p6, List.forall_mem_cons.mpr ⟨lw_p7, List.forall_mem_cons.mpr ⟨lw_p8, List.forall_mem_cons.mpr ⟨lw_p9, List.forall_mem_cons.mpr ⟨lw_p10, List.forall_mem_cons.mpr ⟨lw_p11, List.forall_mem_cons.mpr ⟨lw_p12, List.forall_mem_cons.mpr ⟨lw_p13, List.forall_mem_cons.mpr ⟨lw_p14, List.forall_mem_cons.mpr ⟨lw_p15, fun _ h => absurd h List.not_mem_nil⟩⟩⟩⟩⟩⟩⟩⟩⟩⟩⟩⟩⟩⟩⟩⟩
theorem lw_p16 : lw_okq (⟨"Fishclock", "sendLorries", "()V"⟩, 12) := ⟨⟨by decide +kernel, by decide +kernel⟩, List.mem_of_getElem? (i := 20) (by decide +kernel), List.mem_of_getElem? (i := 818) (by decide +kernel), List.mem_of_getElem? (i := 819) (by decide +kernel)⟩
theorem lw_p17 : lw_okq (⟨"Fishclock", "fetch", "(I)V"⟩, 12) := ⟨⟨by decide +kernel, by decide +kernel⟩, List.mem_of_getElem? (i := 20) (by decide +kernel), List.mem_of_getElem? (i := 822) (by decide +kernel), List.mem_of_getElem? (i := 823) (by decide +kernel)⟩
theorem lw_p18 : lw_okq (⟨"FishclockModel", "begins", "(I)V"⟩, 55) := ⟨⟨by decide +kernel, by decide +kernel⟩, List.mem_of_getElem? (i := 938) (by decide +kernel), List.mem_of_getElem? (i := 944) (by decide +kernel), List.mem_of_getElem? (i := 945) (by decide +kernel)⟩
theorem lw_p19 : lw_okq (⟨"FishclockModel", "fails", "(I)Z"⟩, 55) := ⟨⟨by decide +kernel, by decide +kernel⟩, List.mem_of_getElem? (i := 938) (by decide +kernel), List.mem_of_getElem? (i := 1133) (by decide +kernel), List.mem_of_getElem? (i := 1134) (by decide +kernel)⟩
theorem lw_p20 : lw_okq (⟨"FishclockModel", "ready", "(Z)I"⟩, 55) := ⟨⟨by decide +kernel, by decide +kernel⟩, List.mem_of_getElem? (i := 938) (by decide +kernel), List.mem_of_getElem? (i := 1177) (by decide +kernel), List.mem_of_getElem? (i := 1178) (by decide +kernel)⟩
theorem lw_p21 : lw_okq (⟨"FishclockModel", "isToSell", "(I)Z"⟩, 55) := ⟨⟨by decide +kernel, by decide +kernel⟩, List.mem_of_getElem? (i := 938) (by decide +kernel), List.mem_of_getElem? (i := 1181) (by decide +kernel), List.mem_of_getElem? (i := 1182) (by decide +kernel)⟩
theorem lw_p22 : lw_okq (⟨"FishclockModel", "drawsAll", "(Z)V"⟩, 55) := ⟨⟨by decide +kernel, by decide +kernel⟩, List.mem_of_getElem? (i := 938) (by decide +kernel), List.mem_of_getElem? (i := 1185) (by decide +kernel), List.mem_of_getElem? (i := 1186) (by decide +kernel)⟩
theorem lw_p23 : lw_okq (⟨"FishclockModel", "drawn", "(I)I"⟩, 55) := ⟨⟨by decide +kernel, by decide +kernel⟩, List.mem_of_getElem? (i := 938) (by decide +kernel), List.mem_of_getElem? (i := 1189) (by decide +kernel), List.mem_of_getElem? (i := 1190) (by decide +kernel)⟩
theorem lw_p24 : lw_okq (⟨"FishclockModel", "parts", "(I)V"⟩, 55) := ⟨⟨by decide +kernel, by decide +kernel⟩, List.mem_of_getElem? (i := 938) (by decide +kernel), List.mem_of_getElem? (i := 1197) (by decide +kernel), List.mem_of_getElem? (i := 1198) (by decide +kernel)⟩
theorem lw_p25 : lw_okq (⟨"FishclockModel", "comes", "(I)V"⟩, 55) := ⟨⟨by decide +kernel, by decide +kernel⟩, List.mem_of_getElem? (i := 938) (by decide +kernel), List.mem_of_getElem? (i := 1201) (by decide +kernel), List.mem_of_getElem? (i := 1202) (by decide +kernel)⟩
theorem lw_p26 : lw_okq (⟨"FishclockModel", "withdrawsAll", "(I)I"⟩, 55) := ⟨⟨by decide +kernel, by decide +kernel⟩, List.mem_of_getElem? (i := 938) (by decide +kernel), List.mem_of_getElem? (i := 1209) (by decide +kernel), List.mem_of_getElem? (i := 1210) (by decide +kernel)⟩
theorem lw_p27 : lw_okq (⟨"FishclockModel", "withdraws", "(I)V"⟩, 55) := ⟨⟨by decide +kernel, by decide +kernel⟩, List.mem_of_getElem? (i := 938) (by decide +kernel), List.mem_of_getElem? (i := 1213) (by decide +kernel), List.mem_of_getElem? (i := 1214) (by decide +kernel)⟩
theorem lw_p28 : lw_okq (⟨"FishclockModel", "leftOf", "(I)I"⟩, 55) := ⟨⟨by decide +kernel, by decide +kernel⟩, List.mem_of_getElem? (i := 938) (by decide +kernel), List.mem_of_getElem? (i := 1225) (by decide +kernel), List.mem_of_getElem? (i := 1226) (by decide +kernel)⟩
theorem lw_p29 : lw_okq (⟨"FishclockModel", "costOf", "(III)I"⟩, 55) := ⟨⟨by decide +kernel, by decide +kernel⟩, List.mem_of_getElem? (i := 938) (by decide +kernel), List.mem_of_getElem? (i := 1229) (by decide +kernel), List.mem_of_getElem? (i := 1230) (by decide +kernel)⟩
theorem lw_p30 : lw_okq (⟨"FishclockModel", "canPay", "(II)Z"⟩, 55) := ⟨⟨by decide +kernel, by decide +kernel⟩, List.mem_of_getElem? (i := 938) (by decide +kernel), List.mem_of_getElem? (i := 1233) (by decide +kernel), List.mem_of_getElem? (i := 1234) (by decide +kernel)⟩
theorem lw_p31 : lw_okq (⟨"FishclockModel", "gets", "(II)V"⟩, 55) := ⟨⟨by decide +kernel, by decide +kernel⟩, List.mem_of_getElem? (i := 938) (by decide +kernel), List.mem_of_getElem? (i := 1237) (by decide +kernel), List.mem_of_getElem? (i := 1238) (by decide +kernel)⟩
def lw_privs_2 : List (MethodName × Nat) := [(⟨"Fishclock", "sendLorries", "()V"⟩, 12), (⟨"Fishclock", "fetch", "(I)V"⟩, 12), (⟨"FishclockModel", "begins", "(I)V"⟩, 55), (⟨"FishclockModel", "fails", "(I)Z"⟩, 55), (⟨"FishclockModel", "ready", "(Z)I"⟩, 55), (⟨"FishclockModel", "isToSell", "(I)Z"⟩, 55), (⟨"FishclockModel", "drawsAll", "(Z)V"⟩, 55), (⟨"FishclockModel", "drawn", "(I)I"⟩, 55), (⟨"FishclockModel", "parts", "(I)V"⟩, 55), (⟨"FishclockModel", "comes", "(I)V"⟩, 55), (⟨"FishclockModel", "withdrawsAll", "(I)I"⟩, 55), (⟨"FishclockModel", "withdraws", "(I)V"⟩, 55), (⟨"FishclockModel", "leftOf", "(I)I"⟩, 55), (⟨"FishclockModel", "costOf", "(III)I"⟩, 55), (⟨"FishclockModel", "canPay", "(II)Z"⟩, 55), (⟨"FishclockModel", "gets", "(II)V"⟩, 55)]
theorem lw_r2 : ∀ q ∈ lw_privs_2, lw_okq q := List.forall_mem_cons.mpr ⟨lw_p16, List.forall_mem_cons.mpr ⟨lw_p17, List.forall_mem_cons.mpr ⟨lw_p18, List.forall_mem_cons.mpr ⟨lw_p19, List.forall_mem_cons.mpr ⟨lw_p20, List.forall_mem_cons.mpr ⟨lw_p21, List.forall_mem_cons.mpr ⟨lw_p22, List.forall_mem_cons.mpr ⟨lw_p23, List.forall_mem_cons.mpr ⟨lw_p24, List.forall_mem_cons.mpr ⟨lw_p25, List.forall_mem_cons.mpr ⟨lw_p26, List.forall_mem_cons.mpr ⟨lw_p27, List.forall_mem_cons.mpr ⟨lw_p28, List.forall_mem_cons.mpr ⟨lw_p29, List.forall_mem_cons.mpr ⟨lw_p30, List.forall_mem_cons.mpr ⟨lw_p31, fun _ h => absurd h List.not_mem_nil⟩⟩⟩⟩⟩⟩⟩⟩⟩⟩⟩⟩⟩⟩⟩⟩
theorem lw_p32 : lw_okq (⟨"FishclockModel", "firstOf", "(I)I"⟩, 55) := ⟨⟨by decide +kernel, by decide +kernel⟩, List.mem_of_getElem? (i := 938) (by decide +kernel), List.mem_of_getElem? (i := 1241) (by decide +kernel), List.mem_of_getElem? (i := 1242) (by decide +kernel)⟩
theorem lw_p33 : lw_okq (⟨"FishclockModel", "ends", "(I)V"⟩, 55) := ⟨⟨by decide +kernel, by decide +kernel⟩, List.mem_of_getElem? (i := 938) (by decide +kernel), List.mem_of_getElem? (i := 1245) (by decide +kernel), List.mem_of_getElem? (i := 1246) (by decide +kernel)⟩
theorem lw_p34 : lw_okq (⟨"FishclockModel", "passes", "()V"⟩, 55) := ⟨⟨by decide +kernel, by decide +kernel⟩, List.mem_of_getElem? (i := 938) (by decide +kernel), List.mem_of_getElem? (i := 1253) (by decide +kernel), List.mem_of_getElem? (i := 1254) (by decide +kernel)⟩
theorem lw_p35 : lw_okq (⟨"FishclockModel", "falls", "(I)V"⟩, 55) := ⟨⟨by decide +kernel, by decide +kernel⟩, List.mem_of_getElem? (i := 938) (by decide +kernel), List.mem_of_getElem? (i := 1257) (by decide +kernel), List.mem_of_getElem? (i := 1258) (by decide +kernel)⟩
theorem lw_p36 : lw_okq (⟨"FishclockModel", "hears", "(I)Z"⟩, 55) := ⟨⟨by decide +kernel, by decide +kernel⟩, List.mem_of_getElem? (i := 938) (by decide +kernel), List.mem_of_getElem? (i := 1261) (by decide +kernel), List.mem_of_getElem? (i := 1262) (by decide +kernel)⟩
theorem lw_p37 : lw_okq (⟨"FishclockModel", "slowest", "()I"⟩, 55) := ⟨⟨by decide +kernel, by decide +kernel⟩, List.mem_of_getElem? (i := 938) (by decide +kernel), List.mem_of_getElem? (i := 1265) (by decide +kernel), List.mem_of_getElem? (i := 1266) (by decide +kernel)⟩
theorem lw_p38 : lw_okq (⟨"FishclockModel", "stands", "(I)V"⟩, 55) := ⟨⟨by decide +kernel, by decide +kernel⟩, List.mem_of_getElem? (i := 938) (by decide +kernel), List.mem_of_getElem? (i := 1269) (by decide +kernel), List.mem_of_getElem? (i := 1270) (by decide +kernel)⟩
theorem lw_p39 : lw_okq (⟨"FishclockModel", "isBefore", "(II)Z"⟩, 55) := ⟨⟨by decide +kernel, by decide +kernel⟩, List.mem_of_getElem? (i := 938) (by decide +kernel), List.mem_of_getElem? (i := 1273) (by decide +kernel), List.mem_of_getElem? (i := 1274) (by decide +kernel)⟩
theorem lw_p40 : lw_okq (⟨"FishclockModel", "waits", "(I)V"⟩, 55) := ⟨⟨by decide +kernel, by decide +kernel⟩, List.mem_of_getElem? (i := 938) (by decide +kernel), List.mem_of_getElem? (i := 1277) (by decide +kernel), List.mem_of_getElem? (i := 1278) (by decide +kernel)⟩
theorem lw_p41 : lw_okq (⟨"FishclockModel", "leaves", "(I)V"⟩, 55) := ⟨⟨by decide +kernel, by decide +kernel⟩, List.mem_of_getElem? (i := 938) (by decide +kernel), List.mem_of_getElem? (i := 1281) (by decide +kernel), List.mem_of_getElem? (i := 1282) (by decide +kernel)⟩
theorem lw_p42 : lw_okq (⟨"FishclockModel", "isBox", "(I)Z"⟩, 55) := ⟨⟨by decide +kernel, by decide +kernel⟩, List.mem_of_getElem? (i := 938) (by decide +kernel), List.mem_of_getElem? (i := 1300) (by decide +kernel), List.mem_of_getElem? (i := 1301) (by decide +kernel)⟩
theorem lw_p43 : lw_okq (⟨"FishclockModel", "lotsOf", "(I)I"⟩, 55) := ⟨⟨by decide +kernel, by decide +kernel⟩, List.mem_of_getElem? (i := 938) (by decide +kernel), List.mem_of_getElem? (i := 1335) (by decide +kernel), List.mem_of_getElem? (i := 1336) (by decide +kernel)⟩
def lw_privs_3 : List (MethodName × Nat) := [(⟨"FishclockModel", "firstOf", "(I)I"⟩, 55), (⟨"FishclockModel", "ends", "(I)V"⟩, 55), (⟨"FishclockModel", "passes", "()V"⟩, 55), (⟨"FishclockModel", "falls", "(I)V"⟩, 55), (⟨"FishclockModel", "hears", "(I)Z"⟩, 55), (⟨"FishclockModel", "slowest", "()I"⟩, 55), (⟨"FishclockModel", "stands", "(I)V"⟩, 55), (⟨"FishclockModel", "isBefore", "(II)Z"⟩, 55), (⟨"FishclockModel", "waits", "(I)V"⟩, 55), (⟨"FishclockModel", "leaves", "(I)V"⟩, 55), (⟨"FishclockModel", "isBox", "(I)Z"⟩, 55), (⟨"FishclockModel", "lotsOf", "(I)I"⟩, 55)]
theorem lw_r3 : ∀ q ∈ lw_privs_3, lw_okq q := List.forall_mem_cons.mpr ⟨lw_p32, List.forall_mem_cons.mpr ⟨lw_p33, List.forall_mem_cons.mpr ⟨lw_p34, List.forall_mem_cons.mpr ⟨lw_p35, List.forall_mem_cons.mpr ⟨lw_p36, List.forall_mem_cons.mpr ⟨lw_p37, List.forall_mem_cons.mpr ⟨lw_p38, List.forall_mem_cons.mpr ⟨lw_p39, List.forall_mem_cons.mpr ⟨lw_p40, List.forall_mem_cons.mpr ⟨lw_p41, List.forall_mem_cons.mpr ⟨lw_p42, List.forall_mem_cons.mpr ⟨lw_p43, fun _ h => absurd h List.not_mem_nil⟩⟩⟩⟩⟩⟩⟩⟩⟩⟩⟩⟩
def lw_privs : List (MethodName × Nat) := lw_privs_1 ++ (lw_privs_2 ++ (lw_privs_3))
def lw_tbl : List Cond := k2_sels lw_privs ++ tables_1
theorem lw_privs_ok : ∀ q ∈ lw_privs, lw_okq q := by
  show ∀ q ∈ lw_privs_1 ++ (lw_privs_2 ++ (lw_privs_3)), lw_okq q
  exact List.forall_mem_append.mpr ⟨lw_r1, List.forall_mem_append.mpr ⟨lw_r2, lw_r3⟩⟩
-- ===== end of PART A; then your names; then what follows =====
/-! ===== BEGIN words of one list among another's, by their places ===== -/
theorem goodIn_r {big : List Cond} (ws : List Cond) (ps : List Nat) (hp : ws = ps.filterMap (fun i => big[i]?)) (h : ws.all goodWord = true) : GoodIn big ws := by
  intro w hw
  have h1 := List.all_eq_true.mp h w hw
  rw [hp] at hw
  obtain ⟨i, -, hi⟩ := List.mem_filterMap.mp hw
  have hm : w ∈ big := by first | exact List.mem_of_getElem? hi | exact List.getElem?_mem hi
  exact ⟨hm, good_of_word h1⟩
theorem goodIn_app {big a b : List Cond} (ha : GoodIn big a) (hb : GoodIn big b) : GoodIn big (a ++ b) := fun w h => (List.mem_append.mp h).elim (ha w) (hb w)
theorem goodIn_ca {big a b : List Cond} {c : Cond} (ha : GoodIn big (c :: a)) (hb : GoodIn big b) : GoodIn big (c :: (a ++ b)) := fun w h => (List.mem_cons.mp h).elim (fun e => ha w (List.mem_cons.mpr (Or.inl e))) (fun h => (List.mem_append.mp h).elim (fun h => ha w (List.mem_cons.mpr (Or.inr h))) (hb w))
theorem goodIn_sub {big ws : List Cond} (hm : ∀ w ∈ ws, w ∈ big) (h : ws.all goodWord = true) : GoodIn big ws := fun w hw => ⟨hm w hw, good_of_word (List.all_eq_true.mp h w hw)⟩
/-! ===== END ===== -/

/-! ===== BEGIN exceptions that leave a method, and their catching by the caller (launches without stack traces) ===== -/
section VXA
/-! The laws vx_back, vx_callV, vx_callS, vx_callSW, vx_throw0, vx_throwS follow proofs of the library, with one case more: JvmDerived/Free/Laws.lean (Back.of_free), Shelf42/LK1.lean (callV, callS), Shelf/KitTraced.lean (throwNew0V, throwNewS). -/
/-- where a method has thrown q: the class by its name, the cell, what was written, the world -/
def vx_T (XC : String → State → State → Prop) (st : State) (q : Addr) (t : State) (mc ms : Nat) (free : Addr → Prop) : Prop :=
  ∃ (E : String) (ce : Cell) (L : List Loc), XC E st t ∧ t.heap[q]? = some ce ∧ ce.vm = .none ∧ st.vm.findClass E = some ce.cls ∧ st.WarmedH t.vm ∧ st.sameButNew ({ t with vm := st.vm } : State) L mc ms ∧ ∀ z ∈ L, free z.base
def vx_Q (Qc : Array Value → State → Outcome → State → Prop) (XC : String → State → State → Prop) (mc ms : Nat) (free : Addr → Prop) : Array Value → State → Outcome → State → Prop := fun a st o t =>
  (Qc a st o t ∧ ∃ L, FrameEnd st o t L mc ms ∧ ∀ q ∈ L, free q.base) ∨ ∃ q, o = .threw q ∧ vx_T XC st q t mc ms free
/-- a callee that returns or throws -/
def vx_Met (l : Launch) (y : MethodName) (ws : List Cond) (rm : Room) (Pc : Array Value → State → Prop) (Qc : Array Value → State → Outcome → State → Prop) (XC : String → State → State → Prop) (mc ms : Nat) (free : Addr → Prop) : Prop :=
  MetFree l y (headSpec ws rm) Pc (fun _ _ _ _ _ => True) (vx_Q Qc XC mc ms free)
def vx_Post (XC : String → State → State → Prop) (mc ms : Nat) (free : Addr → Prop) : Pt → Array Value → Addr → Pt → Prop := fun A a q B =>
  ∃ (g : JFrame) (mk : MethodId) (t : State) (L : List Loc) (E : String) (ce : Cell), B.U.heap = t.heap ∧ B.U.vm = t.vm ∧ XC E (A.U.calling g mk a) t ∧ t.heap[q]? = some ce ∧ ce.vm = .none ∧ A.U.vm.findClass E = some ce.cls ∧ B.locs = A.locs ++ L ∧ (∀ z ∈ L, free z.base) ∧ B.cells = A.cells + mc ∧ B.slots = A.slots + ms
def vx_Back (l : Launch) (R : Room) (p : Program) (e : Env) (below : List Frame) (s : State) (sargs : Array Value) (y : MethodName) (len W9 : Nat)
    (Pre : Pt → Array Value → Prop) (Post : Pt → Array Value → Option Value → Pt → Prop) (PostX : Pt → Array Value → Addr → Pt → Prop) : Prop :=
  ∀ (m : MethodId) (meth : Method) (c : Code) (A : Pt) (g : JFrame) (ig : Instr) (mk : MethodId) (a : Array Value),
    Stand p l e R s m sargs below meth c A.U A.locs A.cells A.slots → g.method = m → g.locals.size = c.maxLocals → decode c.code g.pc = .ok (ig, len) →
    2 * g.monitorRoom + (g.stack.map fun v => v.category).sum ≤ W9 → A.U.methodNamed? y = some mk → Pre A a →
    (∃ (v : Option Value) (B : Pt), Stand p l e R s m sargs below meth c B.U B.locs B.cells B.slots ∧ Post A a v B ∧
      Steps p.tables e below (doInvoke e (A.U.setTop g) [] mk a).1 (B.U.setTop { g with pc := g.pc + len, stack := v.toList ++ g.stack })) ∨
    (∃ (q : Addr) (B : Pt), Stand p l e R s m sargs below meth c B.U B.locs B.cells B.slots ∧ PostX A a q B ∧
      Steps p.tables e below (doInvoke e (A.U.setTop g) [] mk a).1 ((B.U.setTop g).pushFrame (.throwing q)))
section Payer
variable {l : Launch} {R : Room} {p : Program} {e : Env} {below : List Frame} {s : State} {sargs : Array Value} {y : MethodName} {len W9 : Nat}
theorem vx_back {ws : List Cond} {rm : Room} {Pc : Array Value → State → Prop} {Qc : Array Value → State → Outcome → State → Prop} {XC : String → State → State → Prop} {mc ms : Nat} {free : Addr → Prop} {bytes : ByteArray} {maxL : Nat} {ret : Option FieldType}
    (hM : vx_Met l y ws rm Pc Qc XC mc ms free) (hblind : FrameBlind Pc) (hrc : rm.cells = mc) (hrs : rm.slots = ms)
    (hframes : rm.frames + 1 ≤ R.frames) (hlocals : W9 + (maxL + 11) + rm.locals ≤ R.locals)
    (hws : ∀ w ∈ ws, ∀ a' U, s.WarmedH U.vm → w.before a' U = true) (hcode : Cond.code y bytes maxL ret ∈ ws) (hinit : ∀ a' U, s.WarmedH U.vm → (Cond.initialized y.cls).before a' U = true) :
    vx_Back l R p e below s sargs y len W9 (PreOf R mc ms Pc) (PostOf Qc mc ms free) (vx_Post XC mc ms free) := by
  intro m meth c A g ig mk a X hg hsize hdg hW hn hp
  have h1 : (headSpec ws rm).pre.before a A.U = true := atoms_intro fun w hw => hws w hw _ _ X.warmed
  have h2 : (Cond.code y bytes maxL ret).before a A.U = true := hws _ hcode _ _ X.warmed
  have h3 : (Cond.initialized y.cls).before a A.U = true := hinit _ _ X.warmed
  have h4 : A.cells + (headSpec ws rm).room.cells ≤ R.cells := by rw [show (headSpec ws rm).room.cells = mc from hrc]; exact hp.1
  have h5 : A.slots + (headSpec ws rm).room.slots ≤ R.slots := by rw [show (headSpec ws rm).room.slots = ms from hrs]; exact hp.2.1
  have hPc : Pc a (A.U.calling g mk a) := hblind _ _ _ _ hp.2.2
  obtain ⟨U, Ls, c0, s0⟩ := A
  dsimp only [Pt.U, Pt.locs, Pt.cells, Pt.slots] at h1 h2 h3 h4 h5 X hn hPc ⊢
  obtain ⟨methY, cY, hmY, hcY, -, hlY, -, -, -, -⟩ := Cond.code_spec hn h2
  obtain ⟨kY, hkY, -⟩ := className_of_methodNamed hn
  have hinitY : kY.init = .initialized := Cond.initialized_spec (findClass_of_methodNamed hn) hkY h3
  have h : At U g.method c below := by rw [hg]; exact X.here
  have hlocals9 : W9 + (maxL + 11) + (headSpec ws rm).room.locals ≤ R.locals := hlocals
  have happ : (headSpec ws rm).appliesLoose y e.platform (U.calling g mk a) = true :=
    Spec.appliesLoose_calling (g := g) h hdg hn hkY hinitY
      (X.room_calling (g := g) (R' := (headSpec ws rm).room) hsize hmY hcY hframes (by rw [hlY]; omega) h4 h5) h1
  obtain ⟨mid, hmid⟩ := h.above
  have hfr : (U.setTop g).frames = (.java g :: mid) ++ below := by rw [State.frames_setTop' g h.top, hmid]; rfl
  obtain ⟨o, s₂, hsteps, -, hend, hq⟩ := Steps.callFree hM p X.admits X.cas X.clock (acts := []) hfr happ hPc trivial
  have hq' : vx_Q Qc XC mc ms free a (U.calling g mk a) o s₂ := hq
  rw [State.frames_setTop' g h.top] at hend
  obtain ⟨g₀, hg0⟩ := Option.isSome_iff_exists.mp h.top
  obtain ⟨r, hr⟩ := State.topJava?_eq_some.mp hg0
  have hr' : (({ U with heap := s₂.heap, slotsUsed := s₂.slotsUsed } : State).setVm s₂.vm).frames = .java g₀ :: r := hr
  rcases hq' with ⟨hqc, L, hfe, hL⟩ | ⟨q, rfl, E, ce, L, hx, hce, hcv, hcl, hW₂, hsm, hL⟩
  · obtain ⟨⟨v, rfl⟩, hW₂, e2, q2, q3, q4, q5, q6⟩ := id hfe
    have e3 : s₂ = ({ (U.calling g mk a).setFrames s₂.frames with heap := s₂.heap, slotsUsed := s₂.slotsUsed } : State).setVm s₂.vm := by
      have : s₂ = ({ s₂ with vm := (U.calling g mk a).vm } : State).setVm s₂.vm := rfl
      rw [e2] at this
      exact this
    obtain ⟨c₂, i₂, len₂, hc₂, hd₂, hf₂⟩ := hend
    have hW' : U.WarmedH s₂.vm := hW₂
    have hcc : c₂ = c := by
      have h1 : s₂.code? g.method = U.code? g.method := by
        rw [State.code?_eq, State.code?_eq, hW'.alike.method?]
      exact Option.some.inj (hc₂.symm.trans (h1.trans h.code))
    subst hcc
    have hlen : len₂ = len := by rw [hdg] at hd₂; cases hd₂; rfl
    subst hlen
    have hs₂ : s₂ = (({ U with heap := s₂.heap, slotsUsed := s₂.slotsUsed } : State).setVm s₂.vm).setTop { g with pc := g.pc + len₂, stack := v.toList ++ g.stack } := by
      refine e3.trans ?_
      rw [hf₂, State.calling_eq h.top, State.setFrames_setFrames, State.setTop_of_frames _ hr', hr]
      rfl
    have hsame : U.sameButNew ({ U with heap := s₂.heap, slotsUsed := s₂.slotsUsed } : State) L mc ms := by
      refine ⟨?_, q2, q3, q4, q5, q6⟩
      obtain ⟨t, ht, -⟩ := State.frames_cons hr
      show ({ U with heap := s₂.heap, slotsUsed := s₂.slotsUsed } : State) = { U.setFrames U.frames with heap := s₂.heap, slotsUsed := s₂.slotsUsed }
      rw [State.setFrames_self ht]
    subst hg
    refine Or.inl ⟨v, ⟨(({ U with heap := s₂.heap, slotsUsed := s₂.slotsUsed } : State).setVm s₂.vm), Ls ++ L, c0 + mc, s0 + ms⟩,
      ⟨X.admits, X.cas, X.clock, X.frames, X.room, X.hears, X.method, X.code, (X.here.setHeapUsed s₂.heap s₂.slotsUsed).setVm hW'.alike, X.tail, State.WarmedH.trans X.warmed hW', X.limits, X.bytes, X.same.trans (hsame.setVm s.vm)⟩,
      ⟨g, mk, s₂, L, rfl, rfl, hqc, rfl, hL, rfl, rfl⟩, ?_⟩
    show Steps p.tables e below _ ((({ U with heap := s₂.heap, slotsUsed := s₂.slotsUsed } : State).setVm s₂.vm).setTop { g with pc := g.pc + len₂, stack := v.toList ++ g.stack })
    rw [← hs₂]
    exact hsteps
  · obtain ⟨e2, q2, q3, q4, q5, q6⟩ := id hsm
    have e3 : s₂ = ({ (U.calling g mk a).setFrames s₂.frames with heap := s₂.heap, slotsUsed := s₂.slotsUsed } : State).setVm s₂.vm := by
      have : s₂ = ({ s₂ with vm := (U.calling g mk a).vm } : State).setVm s₂.vm := rfl
      rw [e2] at this
      exact this
    have hf₂ : s₂.frames = .throwing q :: .java g :: U.frames.tail := hend
    have hW' : U.WarmedH s₂.vm := hW₂
    have hs₂ : s₂ = ((({ U with heap := s₂.heap, slotsUsed := s₂.slotsUsed } : State).setVm s₂.vm).setTop g).pushFrame (.throwing q) := by
      refine e3.trans ?_
      rw [hf₂, State.calling_eq h.top, State.setFrames_setFrames, State.pushFrame, State.frames_setTop _ hr', State.setTop_of_frames _ hr', State.setFrames_setFrames, hr]
      rfl
    have hsame : U.sameButNew ({ U with heap := s₂.heap, slotsUsed := s₂.slotsUsed } : State) L mc ms := by
      refine ⟨?_, q2, q3, q4, q5, q6⟩
      obtain ⟨t, ht, -⟩ := State.frames_cons hr
      show ({ U with heap := s₂.heap, slotsUsed := s₂.slotsUsed } : State) = { U.setFrames U.frames with heap := s₂.heap, slotsUsed := s₂.slotsUsed }
      rw [State.setFrames_self ht]
    subst hg
    refine Or.inr ⟨q, ⟨(({ U with heap := s₂.heap, slotsUsed := s₂.slotsUsed } : State).setVm s₂.vm), Ls ++ L, c0 + mc, s0 + ms⟩,
      ⟨X.admits, X.cas, X.clock, X.frames, X.room, X.hears, X.method, X.code, (X.here.setHeapUsed s₂.heap s₂.slotsUsed).setVm hW'.alike, X.tail, State.WarmedH.trans X.warmed hW', X.limits, X.bytes, X.same.trans (hsame.setVm s.vm)⟩,
      ⟨g, mk, s₂, L, E, ce, rfl, rfl, hx, hce, hcv, hcl, rfl, hL, rfl, rfl⟩, ?_⟩
    show Steps p.tables e below _ (((({ U with heap := s₂.heap, slotsUsed := s₂.slotsUsed } : State).setVm s₂.vm).setTop g).pushFrame (.throwing q))
    rw [← hs₂]
    exact hsteps
end Payer
section Calls
variable {p : Program} {l : Launch} {e : Env} {R : Room} {s : State} {m : MethodId} {args : Array Value} {below : List Frame} {meth : Method} {c : Code} {T : State} {locs : List Loc} {cells slots : Nat}
theorem vx_callV (X : Stand p l e R s m args below meth c T locs cells slots) (hexec : p.tables.exec = Jvm.exec) {own C : String} {index : Nat} {y : MethodName} {bytes : ByteArray} {maxL : Nat} {ret : Option FieldType}
    (hown : s.vm.findClass own = some m.cls) (hlink : (Cond.methodLink own index y).before args s = true) (hinst : (Cond.instanceMethod y).before args s = true) (hsel : (Cond.selects C y y).before args s = true)
    (hcode : (Cond.code y bytes maxL ret).before args s = true) (hy : y.cls ≠ "java/lang/invoke/MethodHandle" ∧ y.cls ≠ "java/lang/invoke/VarHandle")
    {W9 : Nat} {Pre : Pt → Array Value → Prop} {Post : Pt → Array Value → Option Value → Pt → Prop} {PostX : Pt → Array Value → Addr → Pt → Prop} (hK : vx_Back l R p e below s args y 3 W9 Pre Post PostX)
    {b : Addr} {cellB : Cell} (hcell : T.heap[b]? = some cellB) (hobj : cellB.vm.isStatics = false) (hcls : s.vm.findClass C = some cellB.cls)
    {g : JFrame} (hg : g.method = m) (hsize : g.locals.size = c.maxLocals) {argsL rest : List Value} (hlen : ∀ sig, parseMethodDescriptor y.desc = some sig → argsL.length = sig.parameters.length)
    (hstack : g.stack = argsL.reverse ++ .ref b :: rest) (hW : 2 * g.monitorRoom + (rest.map fun v => v.category).sum ≤ W9) (hdg : decode c.code g.pc = .ok (.invokevirtual index, 3))
    (hpre : ∀ vm₁, s.WarmedH vm₁ → Pre ⟨T.setVm vm₁, locs, cells, slots⟩ (Value.ref b :: argsL).toArray) :
    (∃ (v : Option Value) (vm₁ : Vm) (B : Pt), s.WarmedH vm₁ ∧ Stand p l e R s m args below meth c B.U B.locs B.cells B.slots ∧ Post ⟨T.setVm vm₁, locs, cells, slots⟩ (Value.ref b :: argsL).toArray v B ∧
      ∀ target, Steps p.tables e below (B.U.setTop { g with pc := g.pc + 3, stack := v.toList ++ rest }) target → Steps p.tables e below (T.setTop g) target) ∨
    (∃ (q : Addr) (vm₁ : Vm) (B : Pt), s.WarmedH vm₁ ∧ Stand p l e R s m args below meth c B.U B.locs B.cells B.slots ∧ PostX ⟨T.setVm vm₁, locs, cells, slots⟩ (Value.ref b :: argsL).toArray q B ∧
      Steps p.tables e below (T.setTop g) ((B.U.setTop { g with stack := rest }).pushFrame (.throwing q))) := by
  obtain ⟨mk, methM, hnamed, hmethM, hstM, habM⟩ := Cond.instanceMethod_spec hinst
  obtain ⟨methM', cM, hmethM', -, -, -, -, -, -, hsigM⟩ := Cond.code_spec hnamed hcode
  cases hmethM.symm.trans hmethM'
  obtain ⟨c2, r2, m2, q1, q2, q3, q4, kP, hkP, hkPi⟩ := Cond.selects_spec hsel
  cases hcls.symm.trans q1
  cases (State.methodFound?_of_named hnamed hy).symm.trans q2
  cases hnamed.symm.trans q3
  have hselP : selectMethod e.platform s.vm cellB.cls mk = .method mk := by rw [Launch.admits_selectMethod X.admits]; exact q4
  obtain ⟨vm₁, X₁, hstep₁⟩ := X.invokevirtual hexec hown hlink hnamed hmethM hstM hkP hkPi hy (a := b) (cell := cellB) hcell
    (fun z h => by rw [h] at hobj; cases hobj) hselP hmethM habM hkP hkPi (g := g) hg (argsL := argsL) (rest := rest) (hlen _ hsigM) hstack hdg
  rcases hK m meth c ⟨T.setVm vm₁, locs, cells, slots⟩ { g with stack := rest } (.invokevirtual index) mk (Value.ref b :: argsL).toArray X₁ hg hsize hdg hW (X₁.named hnamed) (hpre vm₁ X₁.warmed) with ⟨v, B, X', hpost, hsteps⟩ | ⟨q, B, X', hpost, hsteps⟩
  · exact Or.inl ⟨v, vm₁, B, X₁.warmed, X', hpost, fun target h => hstep₁ _ fun acts => by rw [doInvoke_state]; exact hsteps.trans h⟩
  · exact Or.inr ⟨q, vm₁, B, X₁.warmed, X', hpost, hstep₁ _ fun acts => by rw [doInvoke_state]; exact hsteps⟩
theorem vx_callS (X : Stand p l e R s m args below meth c T locs cells slots) (hexec : p.tables.exec = Jvm.exec) {own : String} {index : Nat} {y : MethodName} {bytes : ByteArray} {maxL : Nat} {ret : Option FieldType}
    (hown : s.vm.findClass own = some m.cls) (hlink : (Cond.methodLink own index y).before args s = true) (hstat : (Cond.static y).before args s = true) (hinit : (Cond.initialized y.cls).before args s = true)
    (hcode : (Cond.code y bytes maxL ret).before args s = true) (hy : y.cls ≠ "java/lang/invoke/MethodHandle" ∧ y.cls ≠ "java/lang/invoke/VarHandle")
    {W9 : Nat} {Pre : Pt → Array Value → Prop} {Post : Pt → Array Value → Option Value → Pt → Prop} {PostX : Pt → Array Value → Addr → Pt → Prop} (hK : vx_Back l R p e below s args y 3 W9 Pre Post PostX)
    {g : JFrame} (hg : g.method = m) (hsize : g.locals.size = c.maxLocals) {argsL rest : List Value} (hlen : ∀ sig, parseMethodDescriptor y.desc = some sig → argsL.length = sig.parameters.length)
    (hstack : g.stack = argsL.reverse ++ rest) (hW : 2 * g.monitorRoom + (rest.map fun v => v.category).sum ≤ W9) (hdg : decode c.code g.pc = .ok (.invokestatic index, 3))
    (hpre : ∀ vm₁, s.WarmedH vm₁ → Pre ⟨T.setVm vm₁, locs, cells, slots⟩ argsL.toArray) :
    (∃ (v : Option Value) (vm₁ : Vm) (B : Pt), s.WarmedH vm₁ ∧ Stand p l e R s m args below meth c B.U B.locs B.cells B.slots ∧ Post ⟨T.setVm vm₁, locs, cells, slots⟩ argsL.toArray v B ∧
      ∀ target, Steps p.tables e below (B.U.setTop { g with pc := g.pc + 3, stack := v.toList ++ rest }) target → Steps p.tables e below (T.setTop g) target) ∨
    (∃ (q : Addr) (vm₁ : Vm) (B : Pt), s.WarmedH vm₁ ∧ Stand p l e R s m args below meth c B.U B.locs B.cells B.slots ∧ PostX ⟨T.setVm vm₁, locs, cells, slots⟩ argsL.toArray q B ∧
      Steps p.tables e below (T.setTop g) ((B.U.setTop { g with stack := rest }).pushFrame (.throwing q))) := by
  obtain ⟨mk, hnamed⟩ := Cond.code_named hcode
  obtain ⟨methM, cM, hmethM, -, -, -, -, -, -, hsigM⟩ := Cond.code_spec hnamed hcode
  have hstatic : methM.isStatic = true := Cond.static_spec hnamed hmethM hstat
  obtain ⟨kP, hkP, -⟩ := className_of_methodNamed hnamed
  have hinitP : kP.init = .initialized := Cond.initialized_spec (findClass_of_methodNamed hnamed) hkP hinit
  obtain ⟨vm₁, X₁, hstep₁⟩ := X.invokestatic hexec hown hlink hnamed hmethM hstatic hkP hinitP hy (g := g) hg (argsL := argsL) (rest := rest) (hlen _ hsigM) hstack hdg
  rcases hK m meth c ⟨T.setVm vm₁, locs, cells, slots⟩ { g with stack := rest } (.invokestatic index) mk argsL.toArray X₁ hg hsize hdg hW (X₁.named hnamed) (hpre vm₁ X₁.warmed) with ⟨v, B, X', hpost, hsteps⟩ | ⟨q, B, X', hpost, hsteps⟩
  · exact Or.inl ⟨v, vm₁, B, X₁.warmed, X', hpost, fun target h => hstep₁ _ fun acts => by rw [doInvoke_state]; exact hsteps.trans h⟩
  · exact Or.inr ⟨q, vm₁, B, X₁.warmed, X', hpost, hstep₁ _ fun acts => by rw [doInvoke_state]; exact hsteps⟩
end Calls
theorem vx_cls {s : State} {T : State} {vm₁ : Vm} {E : String} {k : ClassId} (hW : s.WarmedH vm₁) (h : (T.setVm vm₁).vm.findClass E = some k) : s.vm.findClass E = some k := by
  have h1 : vm₁.findClass E = some k := h
  rw [hW.alike.findClass] at h1
  exact h1
/-- the method's frame g, with q thrown over it -/
def vx_W (p : Program) (l : Launch) (e : Env) (R : Room) (s : State) (m : MethodId) (args : Array Value) (below : List Frame) (meth : Method) (c : Code) (H : Heap) (locs : List Loc) (cells slots : Nat) (Q : State → Prop) (g : JFrame) (q : Addr) : Prop :=
  ∀ T : State, T.heap = H → Stand p l e R s m args below meth c T locs cells slots → ∃ t, Steps p.tables e below ((T.setTop g).pushFrame (.throwing q)) t ∧ Q t
def vx_Run (p : Program) (l : Launch) (e : Env) (R : Room) (s : State) (m : MethodId) (args : Array Value) (below : List Frame) (meth : Method) (c : Code) (H : Heap) (locs : List Loc) (cells slots mc ms : Nat) (g : JFrame) (rest : List Value) (Qa : State → Outcome → State → Prop) (XC : String → State → State → Prop) (free : Addr → Prop) : Prop :=
  ∀ T : State, T.heap = H → Stand p l e R s m args below meth c T locs cells slots →
    (∃ (v : Option Value) (st₀ t T' : State) (L : List Loc), st₀.heap = H ∧ Stand p l e R s m args below meth c T' (locs ++ L) (cells + mc) (slots + ms) ∧ (∀ q ∈ L, free q.base) ∧ T'.heap = t.heap ∧ T'.vm = t.vm ∧ Qa st₀ (.returned v) t ∧
      Goes p e below T g T' { g with pc := g.pc + 3, stack := v.toList ++ rest }) ∨
    (∃ (q : Addr) (st₀ t T' : State) (L : List Loc) (E : String) (ce : Cell), st₀.heap = H ∧ Stand p l e R s m args below meth c T' (locs ++ L) (cells + mc) (slots + ms) ∧ (∀ z ∈ L, free z.base) ∧ T'.heap = t.heap ∧ T'.vm = t.vm ∧ XC E st₀ t ∧ t.heap[q]? = some ce ∧ ce.vm = .none ∧ s.vm.findClass E = some ce.cls ∧
      Steps p.tables e below (T.setTop g) ((T'.setTop { g with stack := rest }).pushFrame (.throwing q)))
def vx_X {S : Type} (px : S → Prop) (B : String → S → State → Prop) (A : Nat → Prop) : String → State → State → Prop := fun E st t => ∃ u : S, px u ∧ B E u t ∧ va_F A st t
section Runs
variable {p : Program} {l : Launch} {e : Env} {R : Room} {s : State} {m : MethodId} {args : Array Value} {below : List Frame} {meth : Method} {c : Code} {H : Heap} {locs : List Loc} {cells slots : Nat}
variable {y : MethodName} {bytes cc : ByteArray} {maxL nL mc ms n index : Nat} {ret : Option FieldType} {ws : List Cond} {rm : Room} {Pc : Array Value → State → Prop} {Qc : Array Value → State → Outcome → State → Prop} {XC : String → State → State → Prop} {free : Addr → Prop} {Ts : List Cond} {own C : String} {b : Addr} {As rest : List Value} {g : JFrame}
theorem vx_callBack (cb : CallB R s args own index y bytes maxL ret ws rm mc ms n) (hM : vx_Met l y ws rm Pc Qc XC mc ms free) (hbl : FrameBlind Pc) : vx_Back l R p e below s args y 3 8 (PreOf R mc ms Pc) (PostOf Qc mc ms free) (vx_Post XC mc ms free) := by
  obtain ⟨hrc, hrs, hfr, hlo, hws, hcw, -, hini, -⟩ := cb
  exact vx_back (bytes := bytes) (maxL := maxL) (ret := ret) hM hbl hrc hrs hfr hlo hws hcw (fun a' U hW => word_at hW (Or.inl (by first | rfl | simp [Cond.onTables, Cond.keeps, Cond.steady])) hini)
theorem vx_runV (S : CallFix p m c cc nL s args Ts own) (hM : vx_Met l y ws rm Pc Qc XC mc ms free) (cw : CallW R s args own C index y bytes maxL ret ws rm mc ms n) (hp : PreV s H C b Pc As)
    (hg : g.method = m) (hn : As.length = n) (hsize : g.locals.size = nL) (hstack : g.stack = As.reverse ++ .ref b :: rest) (hW : 2 * g.monitorRoom + (rest.map fun v => v.category).sum ≤ 8) (hdg : decode cc g.pc = .ok (.invokevirtual index, 3)) (hf : cells + mc ≤ R.cells ∧ slots + ms ≤ R.slots) :
    vx_Run p l e R s m args below meth c H locs cells slots mc ms g rest (Qc (Value.ref b :: As).toArray) XC free := by
  have hK : vx_Back l R p e below s args y 3 8 (PreOf R mc ms Pc) (PostOf Qc mc ms free) (vx_Post XC mc ms free) := vx_callBack cw.1 hM hp.1
  obtain ⟨⟨-, -, -, -, -, -, hcode, -, hy, hlen, hl⟩, hin, hse⟩ := cw
  obtain ⟨hx, hb, hml, ho, -⟩ := S
  obtain ⟨-, ⟨cellB, hcB, hoB, hclB⟩, hPc⟩ := hp
  intro T hT X
  rcases vx_callV X hx (C := C) (bytes := bytes) (maxL := maxL) (ret := ret) ho hl hin hse hcode hy hK (by rw [hT]; exact hcB) hoB hclB hg (hsize.trans hml.symm) (argsL := As) (rest := rest) (fun sig h => hn.trans (hlen sig h)) hstack hW (by rw [hb]; exact hdg)
    (fun vm₁ hW₁ => ⟨hf.1, hf.2, hPc (T.setVm vm₁) hT hW₁⟩) with ⟨v, vm₁, ⟨U', l2, c2, s2⟩, hW₁, X', ⟨g', mk, t, L, e1, e2, hq, h1, hL, h2, h3⟩, st⟩ | ⟨q, vm₁, ⟨U', l2, c2, s2⟩, hW₁, X', ⟨g', mk, t, L, E, ce, e1, e2, hq, hce, hcv, hcl, h1, hL, h2, h3⟩, st⟩
  · dsimp only [Pt.U, Pt.locs, Pt.cells, Pt.slots] at X' e1 e2 h1 h2 h3 st
    subst h1; subst h2; subst h3
    exact Or.inl ⟨v, (T.setVm vm₁).calling g' mk (Value.ref b :: As).toArray, t, U', L, hT, X', hL, e1, e2, hq, st⟩
  · dsimp only [Pt.U, Pt.locs, Pt.cells, Pt.slots] at X' e1 e2 h1 h2 h3 st hcl
    subst h1; subst h2; subst h3
    exact Or.inr ⟨q, (T.setVm vm₁).calling g' mk (Value.ref b :: As).toArray, t, U', L, E, ce, hT, X', hL, e1, e2, hq, hce, hcv, vx_cls hW₁ hcl, st⟩
theorem vx_runS (S : CallFix p m c cc nL s args Ts own) (hM : vx_Met l y ws rm Pc Qc XC mc ms free) (cw : CallB R s args own index y bytes maxL ret ws rm mc ms n ∧ (Cond.static y).before args s = true) (hp : PreS s H Pc As)
    (hg : g.method = m) (hn : As.length = n) (hsize : g.locals.size = nL) (hstack : g.stack = As.reverse ++ rest) (hW : 2 * g.monitorRoom + (rest.map fun v => v.category).sum ≤ 8) (hdg : decode cc g.pc = .ok (.invokestatic index, 3)) (hf : cells + mc ≤ R.cells ∧ slots + ms ≤ R.slots) :
    vx_Run p l e R s m args below meth c H locs cells slots mc ms g rest (Qc As.toArray) XC free := by
  have hK : vx_Back l R p e below s args y 3 8 (PreOf R mc ms Pc) (PostOf Qc mc ms free) (vx_Post XC mc ms free) := vx_callBack cw.1 hM hp.1
  obtain ⟨⟨-, -, -, -, -, -, hcode, hini, hy, hlen, hl⟩, hstt⟩ := cw
  obtain ⟨hx, hb, hml, ho, -⟩ := S
  intro T hT X
  rcases vx_callS X hx (bytes := bytes) (maxL := maxL) (ret := ret) ho hl hstt hini hcode hy hK hg (hsize.trans hml.symm) (argsL := As) (rest := rest) (fun sig h => hn.trans (hlen sig h)) hstack hW (by rw [hb]; exact hdg)
    (fun vm₁ hW₁ => ⟨hf.1, hf.2, hp.2 (T.setVm vm₁) hT hW₁⟩) with ⟨v, vm₁, ⟨U', l2, c2, s2⟩, hW₁, X', ⟨g', mk, t, L, e1, e2, hq, h1, hL, h2, h3⟩, st⟩ | ⟨q, vm₁, ⟨U', l2, c2, s2⟩, hW₁, X', ⟨g', mk, t, L, E, ce, e1, e2, hq, hce, hcv, hcl, h1, hL, h2, h3⟩, st⟩
  · dsimp only [Pt.U, Pt.locs, Pt.cells, Pt.slots] at X' e1 e2 h1 h2 h3 st
    subst h1; subst h2; subst h3
    exact Or.inl ⟨v, (T.setVm vm₁).calling g' mk As.toArray, t, U', L, hT, X', hL, e1, e2, hq, st⟩
  · dsimp only [Pt.U, Pt.locs, Pt.cells, Pt.slots] at X' e1 e2 h1 h2 h3 st hcl
    subst h1; subst h2; subst h3
    exact Or.inr ⟨q, (T.setVm vm₁).calling g' mk As.toArray, t, U', L, E, ce, hT, X', hL, e1, e2, hq, hce, hcv, vx_cls hW₁ hcl, st⟩
end Runs
section Rows
variable {p : Program} {l : Launch} {e : Env} {R : Room} {s : State} {m : MethodId} {args : Array Value} {below : List Frame} {meth : Method} {c : Code} {H : Heap} {locs : List Loc} {cells slots : Nat} {Q : State → Prop}
variable {mc ms : Nat} {free : Addr → Prop} {A0 A1 : Nat → Prop} {H0 : Heap} {a : Array Value} {pc : Nat} {ls : Array Slot} {st0 rest : List Value}
theorem vx_keep {st₀ t T' : State} {L : List Loc} (h0 : st₀.heap = H) (e1 : T'.heap = t.heap) (hS : va_S A0 H0 H locs) (hA : ∀ q, q < H.size → A1 q → A0 q) (hf : ∀ q, free q → A0 q) (hL : ∀ q ∈ L, free q.base) (hF : va_F A1 st₀ t) :
    H.size ≤ T'.heap.size ∧ (∀ q : Nat, q < H.size → ¬ A1 q → T'.heap[q]? = H[q]?) ∧ va_S A0 H0 T'.heap (locs ++ L) := by
  obtain ⟨hz, hk⟩ := hF
  rw [h0] at hz hk
  exact ⟨by rw [e1]; exact hz, fun q h1 h2 => by rw [e1]; exact hk q h1 h2,
    ⟨Nat.le_trans hS.1 (by rw [e1]; exact hz), fun q h1 h2 => by rw [e1, hk q (Nat.lt_of_lt_of_le h1 hS.1) (fun z => h2 (hA q (Nat.lt_of_lt_of_le h1 hS.1) z))]; exact hS.2.1 q h1 h2, fun q hq => by
      rcases List.mem_append.mp hq with h | h
      · exact hS.2.2 q h
      · exact hf _ (hL q h)⟩⟩
theorem vx_calli {S SX : Type} {post : Int32 → S → Prop} {px : SX → Prop} {B : S → State → Prop} {BX : String → SX → State → Prop} {AX : Nat → Prop} (hr : vx_Run p l e R s m args below meth c H locs cells slots mc ms (F0 m pc ls st0) rest (va_Qi post B A1 a) (vx_X px BX AX) free) (hS : va_S A0 H0 H locs) (hA : ∀ q, q < H.size → A1 q → A0 q) (hf : ∀ q, free q → A0 q) (hAX : ∀ q, q < H.size → AX q → A0 q)
    (kx : ∀ (E : String) (ce : Cell) (q9 : Addr) (u : SX) (t : State) (H1 : Heap) (locs1 : List Loc), t.heap = H1 → s.vm.Alike t.vm → px u → BX E u t → H.size ≤ H1.size → (∀ q : Nat, q < H.size → ¬ AX q → H1[q]? = H[q]?) → va_S A0 H0 H1 locs1 → H1[q9]? = some ce → ce.vm = .none → s.vm.findClass E = some ce.cls → vx_W p l e R s m args below meth c H1 locs1 (cells + mc) (slots + ms) Q (F0 m pc ls rest) q9)
    (kk : ∀ (r : Int32) (u : S) (t : State) (H1 : Heap) (locs1 : List Loc), t.heap = H1 → s.vm.Alike t.vm → post r u → B u t → H.size ≤ H1.size → (∀ q : Nat, q < H.size → ¬ A1 q → H1[q]? = H[q]?) → va_S A0 H0 H1 locs1 → W p l e R s m args below meth c H1 locs1 (cells + mc) (slots + ms) Q (F0 m (pc + 3) ls (.int r :: rest))) : W p l e R s m args below meth c H locs cells slots Q (F0 m pc ls st0) := by
  intro T hT X
  rcases hr T hT X with ⟨v, st₀, t, T', L, h0, X', hL, e1, e2, ⟨⟨r, u, hv, hp, hb⟩, hF⟩, st⟩ | ⟨q, st₀, t, T', L, E, ce, h0, X', hL, e1, e2, ⟨u, hp, hb, hF⟩, hce, hcv, hcl, st⟩
  · cases hv
    obtain ⟨k1, k2, k3⟩ := vx_keep h0 e1 hS hA hf hL hF
    obtain ⟨t2, a1, b1⟩ := kk r u t T'.heap (locs ++ L) e1.symm (by rw [← e2]; exact X'.warmed.alike) hp hb k1 k2 k3 T' rfl X'
    exact ⟨t2, st t2 a1, b1⟩
  · obtain ⟨k1, k2, k3⟩ := vx_keep h0 e1 hS hAX hf hL hF
    obtain ⟨t2, a1, b1⟩ := kx E ce q u t T'.heap (locs ++ L) e1.symm (by rw [← e2]; exact X'.warmed.alike) hp hb k1 k2 k3 (by rw [e1]; exact hce) hcv hcl T' rfl X'
    exact ⟨t2, st.trans a1, b1⟩
theorem vx_calll {S SX : Type} {post : Int64 → S → Prop} {px : SX → Prop} {B : S → State → Prop} {BX : String → SX → State → Prop} {AX : Nat → Prop} (hr : vx_Run p l e R s m args below meth c H locs cells slots mc ms (F0 m pc ls st0) rest (va_Ql post B A1 a) (vx_X px BX AX) free) (hS : va_S A0 H0 H locs) (hA : ∀ q, q < H.size → A1 q → A0 q) (hf : ∀ q, free q → A0 q) (hAX : ∀ q, q < H.size → AX q → A0 q)
    (kx : ∀ (E : String) (ce : Cell) (q9 : Addr) (u : SX) (t : State) (H1 : Heap) (locs1 : List Loc), t.heap = H1 → s.vm.Alike t.vm → px u → BX E u t → H.size ≤ H1.size → (∀ q : Nat, q < H.size → ¬ AX q → H1[q]? = H[q]?) → va_S A0 H0 H1 locs1 → H1[q9]? = some ce → ce.vm = .none → s.vm.findClass E = some ce.cls → vx_W p l e R s m args below meth c H1 locs1 (cells + mc) (slots + ms) Q (F0 m pc ls rest) q9)
    (kk : ∀ (r : Int64) (u : S) (t : State) (H1 : Heap) (locs1 : List Loc), t.heap = H1 → s.vm.Alike t.vm → post r u → B u t → H.size ≤ H1.size → (∀ q : Nat, q < H.size → ¬ A1 q → H1[q]? = H[q]?) → va_S A0 H0 H1 locs1 → W p l e R s m args below meth c H1 locs1 (cells + mc) (slots + ms) Q (F0 m (pc + 3) ls (.long r :: rest))) : W p l e R s m args below meth c H locs cells slots Q (F0 m pc ls st0) := by
  intro T hT X
  rcases hr T hT X with ⟨v, st₀, t, T', L, h0, X', hL, e1, e2, ⟨⟨r, u, hv, hp, hb⟩, hF⟩, st⟩ | ⟨q, st₀, t, T', L, E, ce, h0, X', hL, e1, e2, ⟨u, hp, hb, hF⟩, hce, hcv, hcl, st⟩
  · cases hv
    obtain ⟨k1, k2, k3⟩ := vx_keep h0 e1 hS hA hf hL hF
    obtain ⟨t2, a1, b1⟩ := kk r u t T'.heap (locs ++ L) e1.symm (by rw [← e2]; exact X'.warmed.alike) hp hb k1 k2 k3 T' rfl X'
    exact ⟨t2, st t2 a1, b1⟩
  · obtain ⟨k1, k2, k3⟩ := vx_keep h0 e1 hS hAX hf hL hF
    obtain ⟨t2, a1, b1⟩ := kx E ce q u t T'.heap (locs ++ L) e1.symm (by rw [← e2]; exact X'.warmed.alike) hp hb k1 k2 k3 (by rw [e1]; exact hce) hcv hcl T' rfl X'
    exact ⟨t2, st.trans a1, b1⟩
theorem vx_callf {S SX : Type} {post : UInt32 → S → Prop} {px : SX → Prop} {B : S → State → Prop} {BX : String → SX → State → Prop} {AX : Nat → Prop} (hr : vx_Run p l e R s m args below meth c H locs cells slots mc ms (F0 m pc ls st0) rest (va_Qf post B A1 a) (vx_X px BX AX) free) (hS : va_S A0 H0 H locs) (hA : ∀ q, q < H.size → A1 q → A0 q) (hf : ∀ q, free q → A0 q) (hAX : ∀ q, q < H.size → AX q → A0 q)
    (kx : ∀ (E : String) (ce : Cell) (q9 : Addr) (u : SX) (t : State) (H1 : Heap) (locs1 : List Loc), t.heap = H1 → s.vm.Alike t.vm → px u → BX E u t → H.size ≤ H1.size → (∀ q : Nat, q < H.size → ¬ AX q → H1[q]? = H[q]?) → va_S A0 H0 H1 locs1 → H1[q9]? = some ce → ce.vm = .none → s.vm.findClass E = some ce.cls → vx_W p l e R s m args below meth c H1 locs1 (cells + mc) (slots + ms) Q (F0 m pc ls rest) q9)
    (kk : ∀ (r : UInt32) (u : S) (t : State) (H1 : Heap) (locs1 : List Loc), t.heap = H1 → s.vm.Alike t.vm → post r u → B u t → H.size ≤ H1.size → (∀ q : Nat, q < H.size → ¬ A1 q → H1[q]? = H[q]?) → va_S A0 H0 H1 locs1 → W p l e R s m args below meth c H1 locs1 (cells + mc) (slots + ms) Q (F0 m (pc + 3) ls (.float r :: rest))) : W p l e R s m args below meth c H locs cells slots Q (F0 m pc ls st0) := by
  intro T hT X
  rcases hr T hT X with ⟨v, st₀, t, T', L, h0, X', hL, e1, e2, ⟨⟨r, u, hv, hp, hb⟩, hF⟩, st⟩ | ⟨q, st₀, t, T', L, E, ce, h0, X', hL, e1, e2, ⟨u, hp, hb, hF⟩, hce, hcv, hcl, st⟩
  · cases hv
    obtain ⟨k1, k2, k3⟩ := vx_keep h0 e1 hS hA hf hL hF
    obtain ⟨t2, a1, b1⟩ := kk r u t T'.heap (locs ++ L) e1.symm (by rw [← e2]; exact X'.warmed.alike) hp hb k1 k2 k3 T' rfl X'
    exact ⟨t2, st t2 a1, b1⟩
  · obtain ⟨k1, k2, k3⟩ := vx_keep h0 e1 hS hAX hf hL hF
    obtain ⟨t2, a1, b1⟩ := kx E ce q u t T'.heap (locs ++ L) e1.symm (by rw [← e2]; exact X'.warmed.alike) hp hb k1 k2 k3 (by rw [e1]; exact hce) hcv hcl T' rfl X'
    exact ⟨t2, st.trans a1, b1⟩
theorem vx_calld {S SX : Type} {post : UInt64 → S → Prop} {px : SX → Prop} {B : S → State → Prop} {BX : String → SX → State → Prop} {AX : Nat → Prop} (hr : vx_Run p l e R s m args below meth c H locs cells slots mc ms (F0 m pc ls st0) rest (va_Qd post B A1 a) (vx_X px BX AX) free) (hS : va_S A0 H0 H locs) (hA : ∀ q, q < H.size → A1 q → A0 q) (hf : ∀ q, free q → A0 q) (hAX : ∀ q, q < H.size → AX q → A0 q)
    (kx : ∀ (E : String) (ce : Cell) (q9 : Addr) (u : SX) (t : State) (H1 : Heap) (locs1 : List Loc), t.heap = H1 → s.vm.Alike t.vm → px u → BX E u t → H.size ≤ H1.size → (∀ q : Nat, q < H.size → ¬ AX q → H1[q]? = H[q]?) → va_S A0 H0 H1 locs1 → H1[q9]? = some ce → ce.vm = .none → s.vm.findClass E = some ce.cls → vx_W p l e R s m args below meth c H1 locs1 (cells + mc) (slots + ms) Q (F0 m pc ls rest) q9)
    (kk : ∀ (r : UInt64) (u : S) (t : State) (H1 : Heap) (locs1 : List Loc), t.heap = H1 → s.vm.Alike t.vm → post r u → B u t → H.size ≤ H1.size → (∀ q : Nat, q < H.size → ¬ A1 q → H1[q]? = H[q]?) → va_S A0 H0 H1 locs1 → W p l e R s m args below meth c H1 locs1 (cells + mc) (slots + ms) Q (F0 m (pc + 3) ls (.double r :: rest))) : W p l e R s m args below meth c H locs cells slots Q (F0 m pc ls st0) := by
  intro T hT X
  rcases hr T hT X with ⟨v, st₀, t, T', L, h0, X', hL, e1, e2, ⟨⟨r, u, hv, hp, hb⟩, hF⟩, st⟩ | ⟨q, st₀, t, T', L, E, ce, h0, X', hL, e1, e2, ⟨u, hp, hb, hF⟩, hce, hcv, hcl, st⟩
  · cases hv
    obtain ⟨k1, k2, k3⟩ := vx_keep h0 e1 hS hA hf hL hF
    obtain ⟨t2, a1, b1⟩ := kk r u t T'.heap (locs ++ L) e1.symm (by rw [← e2]; exact X'.warmed.alike) hp hb k1 k2 k3 T' rfl X'
    exact ⟨t2, st t2 a1, b1⟩
  · obtain ⟨k1, k2, k3⟩ := vx_keep h0 e1 hS hAX hf hL hF
    obtain ⟨t2, a1, b1⟩ := kx E ce q u t T'.heap (locs ++ L) e1.symm (by rw [← e2]; exact X'.warmed.alike) hp hb k1 k2 k3 (by rw [e1]; exact hce) hcv hcl T' rfl X'
    exact ⟨t2, st.trans a1, b1⟩
theorem vx_callv {S SX : Type} {post : S → Prop} {px : SX → Prop} {B : S → State → Prop} {BX : String → SX → State → Prop} {AX : Nat → Prop} (hr : vx_Run p l e R s m args below meth c H locs cells slots mc ms (F0 m pc ls st0) rest (va_Qv post B A1 a) (vx_X px BX AX) free) (hS : va_S A0 H0 H locs) (hA : ∀ q, q < H.size → A1 q → A0 q) (hf : ∀ q, free q → A0 q) (hAX : ∀ q, q < H.size → AX q → A0 q)
    (kx : ∀ (E : String) (ce : Cell) (q9 : Addr) (u : SX) (t : State) (H1 : Heap) (locs1 : List Loc), t.heap = H1 → s.vm.Alike t.vm → px u → BX E u t → H.size ≤ H1.size → (∀ q : Nat, q < H.size → ¬ AX q → H1[q]? = H[q]?) → va_S A0 H0 H1 locs1 → H1[q9]? = some ce → ce.vm = .none → s.vm.findClass E = some ce.cls → vx_W p l e R s m args below meth c H1 locs1 (cells + mc) (slots + ms) Q (F0 m pc ls rest) q9)
    (kk : ∀ (u : S) (t : State) (H1 : Heap) (locs1 : List Loc), t.heap = H1 → s.vm.Alike t.vm → post u → B u t → H.size ≤ H1.size → (∀ q : Nat, q < H.size → ¬ A1 q → H1[q]? = H[q]?) → va_S A0 H0 H1 locs1 → W p l e R s m args below meth c H1 locs1 (cells + mc) (slots + ms) Q (F0 m (pc + 3) ls (rest))) : W p l e R s m args below meth c H locs cells slots Q (F0 m pc ls st0) := by
  intro T hT X
  rcases hr T hT X with ⟨v, st₀, t, T', L, h0, X', hL, e1, e2, ⟨⟨u, hv, hp, hb⟩, hF⟩, st⟩ | ⟨q, st₀, t, T', L, E, ce, h0, X', hL, e1, e2, ⟨u, hp, hb, hF⟩, hce, hcv, hcl, st⟩
  · cases hv
    obtain ⟨k1, k2, k3⟩ := vx_keep h0 e1 hS hA hf hL hF
    obtain ⟨t2, a1, b1⟩ := kk u t T'.heap (locs ++ L) e1.symm (by rw [← e2]; exact X'.warmed.alike) hp hb k1 k2 k3 T' rfl X'
    exact ⟨t2, st t2 a1, b1⟩
  · obtain ⟨k1, k2, k3⟩ := vx_keep h0 e1 hS hAX hf hL hF
    obtain ⟨t2, a1, b1⟩ := kx E ce q u t T'.heap (locs ++ L) e1.symm (by rw [← e2]; exact X'.warmed.alike) hp hb k1 k2 k3 (by rw [e1]; exact hce) hcv hcl T' rfl X'
    exact ⟨t2, st.trans a1, b1⟩
/-- caught by the row x of this method's table; the rows ahead don't take it -/
theorem vx_catch {own name : String} {E : String} {ce : Cell} {q : Addr} (hown : s.vm.findClass own = some m.cls) (pre : List ExceptionTableEntry) (x : ExceptionTableEntry) (suf : List ExceptionTableEntry) (hsplit : c.exceptionTable.toList = pre ++ x :: suf)
    (hpass : ∀ z ∈ pre, covers z pc = false ∨ (z.catchType ≠ 0 ∧ ∃ nm : String, (Cond.classLink own z.catchType nm).before args s = true ∧ va_Nc E nm s)) (hx : covers x pc = true) (h0 : x.catchType ≠ 0)
    (hlink : (Cond.classLink own x.catchType name).before args s = true) (hcast : (Cond.castable E name).before args s = true) (hcell : H[q]? = some ce) (hv : ce.vm = .none) (hcl : s.vm.findClass E = some ce.cls)
    (kk : W p l e R s m args below meth c H locs cells slots Q (F0 m x.handlerPc ls [.ref q])) : vx_W p l e R s m args below meth c H locs cells slots Q (F0 m pc ls rest) q := by
  intro T hT X
  have hpl : e.platform.magicAccessors = ({} : Platform).magicAccessors := by rw [X.admits.platform]
  obtain ⟨c3, c4, hc3, hc4, hasg⟩ := Cond.castable_spec hcast
  cases Option.some.inj (hc3.symm.trans hcl)
  obtain ⟨c5, hc5, hcl5⟩ := Cond.classLink_spec hown hlink e.platform hpl
  cases Option.some.inj (hc4.symm.trans hc5)
  obtain ⟨vm', X', st⟩ := X.thenCaughtThrough q (g := F0 m pc ls rest) rfl (Steps.refl _) (by rw [hT]; exact hcell) (by rw [hv]; rfl) (by obtain ⟨k9, h9, -⟩ := Vm.findClass_spec hcl; exact ⟨k9, h9⟩) pre x suf hsplit
    (fun z hz => by
      rcases hpass z hz with h | ⟨hz0, nm, hl1, hn1⟩
      · exact Or.inl h
      · obtain ⟨c6, hc6, hcl6⟩ := Cond.classLink_spec hown hl1 e.platform hpl
        obtain ⟨a8, b8, h1, h2, h3⟩ := hn1
        cases Option.some.inj (h1.symm.trans hcl)
        cases Option.some.inj (h2.symm.trans hc6)
        exact Or.inr ⟨hz0, _, hcl6, h3⟩) hx (Or.inr ⟨h0, c4, hcl5, hasg⟩)
  obtain ⟨t, a1, b1⟩ := kk (T.setVm vm') hT X'
  exact ⟨t, st.trans a1, b1⟩
end Rows
section Ends
variable {p : Program} {l : Launch} {e : Env} {R : Room} {s : State} {m : MethodId} {args : Array Value} {below : List Frame} {meth : Method} {c : Code} {H : Heap} {locs : List Loc} {cells slots : Nat} {Q : State → Prop}
variable {mc ms : Nat} {free : Addr → Prop} {A0 A1 : Nat → Prop} {H0 : Heap} {a : Array Value} {ls : Array Slot} {st0 rest : List Value}
variable {Qc : Array Value → State → Outcome → State → Prop} {XC : String → State → State → Prop}
/-- what a body that may throw owes at its end -/
def vx_MQ (below : List Frame) (Qc : Array Value → State → Outcome → State → Prop) (XC : String → State → State → Prop) (a : Array Value) (s : State) (mc ms : Nat) (free : Addr → Prop) : State → Prop := fun t =>
  ∃ o, t.status = .running ∧ Ended t below o ∧ vx_Q Qc XC mc ms free a s o t
theorem vx_ret {g : JFrame} {mc ms : Nat} (k : W p l e R s m args below meth c H locs cells slots (MQ below Qc args s mc ms free) g) : W p l e R s m args below meth c H locs cells slots (vx_MQ below Qc XC args s mc ms free) g := by
  intro T hT X
  obtain ⟨t, a1, o, b1, b2, b3, b4⟩ := k T hT X
  exact ⟨t, a1, o, b1, b2, Or.inl ⟨b3, b4⟩⟩
/-- not caught here: it goes on to the caller -/
theorem vx_widen {g : JFrame} {q : Addr} {k n : Nat} (h1 : cells ≤ k) (h2 : slots ≤ n) (kk : vx_W p l e R s m args below meth c H locs k n Q g q) : vx_W p l e R s m args below meth c H locs cells slots Q g q := fun T hT X => kk T hT (stand_widen X h1 h2)
theorem vx_out {pc : Nat} {E : String} {ce : Cell} {q : Addr} {mc ms : Nat} (hout : ∀ x ∈ c.exceptionTable.toList, covers x pc = false) (hlocks : meth.locks = false) (hcell : H[q]? = some ce) (hv : ce.vm = .none) (hcl : s.vm.findClass E = some ce.cls)
    (hx : ∀ t : State, t.heap = H → s.vm.Alike t.vm → XC E s t) (hf : ∀ z ∈ locs, free z.base) (hc : cells ≤ mc) (hs : slots ≤ ms) :
    vx_W p l e R s m args below meth c H locs cells slots (vx_MQ below Qc XC args s mc ms free) (F0 m pc ls rest) q := by
  intro T hT X
  obtain ⟨st1, hrun, hend, hW, hsm⟩ := X.leaveThrown q (g := F0 m pc ls rest) rfl rfl rfl hout hlocks
  have hcell9 : (T.setFrames (.throwing q :: below)).heap[q]? = some ce := by
    show T.heap[q]? = some ce
    rw [hT]; exact hcell
  exact ⟨_, st1, .threw q, hrun, hend, Or.inr ⟨q, rfl, E, ce, locs, hx _ hT hW.alike, hcell9, hv, hcl, hW, hsm.mono hc hs, hf⟩⟩
theorem vx_frame {U : State} {k n : Nat} (h : s.sameButNew ({ U with vm := s.vm } : State) locs k n) : s.heap.size ≤ U.heap.size ∧ ∀ q : Nat, q < s.heap.size → (∀ z ∈ locs, z.base ≠ q) → U.heap[q]? = s.heap[q]? := by
  obtain ⟨-, h2, -, -, -, h6⟩ := h
  refine ⟨h2, fun q hq hz => ?_⟩
  obtain ⟨c9, e1, e2, e3, e4⟩ := h6 q _ (Array.getElem?_eq_getElem hq)
  have hs : c9.slots = (s.heap[q]).slots := Array.ext_getElem? fun i => e4 i fun hm => hz _ hm rfl
  have h9 : c9 = s.heap[q] := by
    rw [hs] at e2
    exact e2
  have e5 : U.heap[q]? = some c9 := e1
  rw [e5, h9, Array.getElem?_eq_getElem hq]
/-- the words of a throw but the four that speak of the heap -/
def vx_no (w : Cond) : Bool := decide (w ≠ .isRef (.static Bundle.tN "UNASSIGNED_STACK" Bundle.steD)) && decide (w ≠ .isRef (.static Bundle.tN "SUPPRESSED_SENTINEL" Bundle.listD)) && decide (w ≠ .laysStatic Bundle.tN "UNASSIGNED_STACK" Bundle.steD) && decide (w ≠ .laysStatic Bundle.tN "SUPPRESSED_SENTINEL" Bundle.listD)
def vx_at0 (own : String) (ic : Nat) (X : String) (names : List String) : List Cond := (Bundle.ownAtoms0 own ic X names).filter vx_no
def vx_atS (own : String) (ic : Nat) (X : String) (names : List String) : List Cond := (Bundle.ownAtoms own ic X names).filter vx_no
/-- a word that the tables alone decide, or a good one -/
def vx_ot (w : Cond) : Bool := w.onTables || goodWord w
theorem vx_ot_at {args a' : Array Value} {s U : State} {w : Cond} (hW : s.WarmedH U.vm) (hvm : s.vm = U.vm) (hg : vx_ot w = true) (h : w.before args s = true) : w.before a' U = true := by
  simp only [vx_ot, Bool.or_eq_true] at hg
  rcases hg with hg | hg
  · exact va_tabs hg hvm h
  · exact word_at hW (good_of_word hg) h
/-- a list's words: the good ones out of the method's own list, the others by premises of their own -/
theorem vx_hat {args : Array Value} {s : State} {L B : List Cond} (h1 : ∀ w ∈ L.filter goodWord, w.before args s = true) (h2 : ∀ w ∈ L.filter (fun w => !goodWord w), w ∈ B) (h3 : ∀ w ∈ B, w.before args s = true) : ∀ w ∈ L, w.before args s = true := by
  intro w hw
  by_cases g : goodWord w = true
  · exact h1 w (List.mem_filter.mpr ⟨hw, g⟩)
  · refine h3 w (h2 w (List.mem_filter.mpr ⟨hw, ?_⟩))
    show (!goodWord w) = true
    cases hgw : goodWord w
    · rfl
    · exact absurd hgw g
theorem vx_c {args : Array Value} {s : State} {w : Cond} {B : List Cond} (h : w.before args s = true) (t : ∀ w ∈ B, w.before args s = true) : ∀ w' ∈ w :: B, w'.before args s = true := fun w' h' => (List.mem_cons.mp h').elim (fun e => by rw [e]; exact h) (t w')
theorem vx_n {args : Array Value} {s : State} : ∀ w ∈ ([] : List Cond), w.before args s = true := fun _ h => nomatch h
theorem vx_own {args : Array Value} {s : State} {L : List Cond} (h1 : ∀ w ∈ L.filter vx_no, w.before args s = true)
    (hU : (Cond.isRef (.static Bundle.tN "UNASSIGNED_STACK" Bundle.steD)).before args s = true) (hN : (Cond.isRef (.static Bundle.tN "SUPPRESSED_SENTINEL" Bundle.listD)).before args s = true)
    (lU : (Cond.laysStatic Bundle.tN "UNASSIGNED_STACK" Bundle.steD).before args s = true) (lN : (Cond.laysStatic Bundle.tN "SUPPRESSED_SENTINEL" Bundle.listD).before args s = true) : ∀ w ∈ L, w.before args s = true := by
  intro w hw
  by_cases e1 : w = .isRef (.static Bundle.tN "UNASSIGNED_STACK" Bundle.steD)
  · rw [e1]; exact hU
  · by_cases e2 : w = .isRef (.static Bundle.tN "SUPPRESSED_SENTINEL" Bundle.listD)
    · rw [e2]; exact hN
    · by_cases e3 : w = .laysStatic Bundle.tN "UNASSIGNED_STACK" Bundle.steD
      · rw [e3]; exact lU
      · by_cases e4 : w = .laysStatic Bundle.tN "SUPPRESSED_SENTINEL" Bundle.listD
        · rw [e4]; exact lN
        · exact h1 w (List.mem_filter.mpr ⟨hw, by unfold vx_no; rw [decide_eq_true e1, decide_eq_true e2, decide_eq_true e3, decide_eq_true e4]; rfl⟩)
/-- where a static field lies, its class's statics cell in H -/
def vx_L (C n d : String) (A : Nat → Prop) (U : State) (H : Heap) : Prop := ∃ (c : ClassId) (k : Class) (i : Nat) (f : Field) (a : Nat) (cell : Cell), U.vm.findClass C = some c ∧ U.fieldFound? C n d = some (c, k, i, f) ∧ f.isStatic = true ∧ k.statics = some a ∧ H[a]? = some cell ∧ cell.vm.isStatics = true ∧ cell.cls = c ∧ f.slot < cell.slots.size ∧ k.staticTypes[f.slot]? = some f.type ∧ ¬ A a
theorem vx_L.moved {C n d : String} {A : Nat → Prop} {u U : State} {H : Heap} (hvm : u.vm.Alike U.vm) (h : vx_L C n d A u H) : vx_L C n d A U H := by
  obtain ⟨c, k, i, f, a, cell, h1, h2, h3, h4, h5, h6, h7, h8, h9, h10⟩ := h
  obtain ⟨k', hi', he⟩ := State.fieldFound?_setVm hvm h2
  exact ⟨c, k', i, f, a, cell, by rw [hvm.findClass]; exact h1, hi', h3, by rw [he]; exact h4, h5, h6, h7, h8, by rw [he]; exact h9, h10⟩
theorem vx_L.kept {C n d : String} {A : Nat → Prop} {U : State} {H H1 : Heap} (h : vx_L C n d A U H) (hq : ∀ a : Nat, a < H.size → ¬ A a → H1[a]? = H[a]?) : vx_L C n d A U H1 := by
  obtain ⟨c, k, i, f, a, cell, h1, h2, h3, h4, h5, h6, h7, h8, h9, h10⟩ := h
  exact ⟨c, k, i, f, a, cell, h1, h2, h3, h4, by rw [hq a (Array.getElem?_eq_some_iff.mp h5).1 h10]; exact h5, h6, h7, h8, h9, h10⟩
theorem vx_L.narrow {C n d : String} {A B : Nat → Prop} {U : State} {H : Heap} (h : vx_L C n d A U H) (hAB : ∀ q, B q → A q) : vx_L C n d B U H := by
  obtain ⟨c, k, i, f, a, cell, h1, h2, h3, h4, h5, h6, h7, h8, h9, h10⟩ := h
  exact ⟨c, k, i, f, a, cell, h1, h2, h3, h4, h5, h6, h7, h8, h9, fun z => h10 (hAB _ z)⟩
theorem vx_L.word {C n d : String} {A : Nat → Prop} {s : State} {args : Array Value} (h : vx_L C n d A s s.heap) : (Cond.laysStatic C n d).before args s = true := by
  obtain ⟨c, k, i, f, a, cell, h1, h2, h3, h4, h5, h6, h7, h8, h9, -⟩ := h
  show (Cond.laysStatic C n d).holds args s none s [] = true
  exact Cond.laysStatic_of h1 h2 h3 h4 h5 h6 h7 h8 h9
/-- .. and what it holds: null or some reference -/
def vx_Zq (C n d : String) (A : Nat → Prop) (U : State) (H : Heap) : Prop := va_Zq C n d A U H ∧ vx_L C n d A U H
theorem vx_Zq.moved {C n d : String} {A : Nat → Prop} {u U : State} {H : Heap} (hvm : u.vm.Alike U.vm) (h : vx_Zq C n d A u H) : vx_Zq C n d A U H := ⟨va_Zq.moved hvm h.1, vx_L.moved hvm h.2⟩
theorem vx_Zq.kept {C n d : String} {A : Nat → Prop} {U : State} {H H1 : Heap} (h : vx_Zq C n d A U H) (hq : ∀ a : Nat, a < H.size → ¬ A a → H1[a]? = H[a]?) : vx_Zq C n d A U H1 := ⟨va_Zq.kept h.1 hq, vx_L.kept h.2 hq⟩
theorem vx_Zq.narrow {C n d : String} {A B : Nat → Prop} {U : State} {H : Heap} (h : vx_Zq C n d A U H) (hAB : ∀ q, B q → A q) : vx_Zq C n d B U H := ⟨va_Zq.narrow h.1 hAB, vx_L.narrow h.2 hAB⟩
theorem vx_Zqof {args : Array Value} {s : State} {C n d : String} {A : Nat → Prop} (hl : (Cond.laysStatic C n d).before args s = true) (hini : (Cond.initialized C).before args s = true) (h : (Cond.isRef (.static C n d)).before args s = true) (hA : ∀ a : Nat, a < s.heap.size → ¬ A a) : vx_Zq C n d A s s.heap := by
  refine ⟨va_Zqof hl hini h hA, ?_⟩
  obtain ⟨c, k, i, f, a, cell, h1, h2, h3, h4, h5, h6, h7, h8, h9⟩ := Cond.laysStatic_spec hl
  exact ⟨c, k, i, f, a, cell, h1, h2, h3, h4, h5, h6, h7, h8, h9, hA a (Array.getElem?_eq_some_iff.mp h5).1⟩
theorem vx_isRef {C n d : String} {v : Value} {A : Nat → Prop} {s : State} {args : Array Value} (h : va_Z C n d v A s s.heap) (hv : v.isRef = true) : (Cond.isRef (.static C n d)).before args s = true := by
  obtain ⟨cf, kf, fi, f, a, cell, h1, h2, h3, h4, h5, h6, h7, -⟩ := h
  have he : (Term.static C n d).eval args s none [] s = some v := by
    simp [Term.eval, State.fieldNamed?, h1, h2, h4, h5, h6, h7]
  simp only [Cond.before, Cond.holds, Cond.value, he]
  cases v <;> simp_all [Value.isRef]
theorem vx_isRefq {C n d : String} {A : Nat → Prop} {s : State} {args : Array Value} (h : va_Zq C n d A s s.heap) : (Cond.isRef (.static C n d)).before args s = true := by
  rcases h with h | ⟨t, h⟩
  · exact vx_isRef h rfl
  · exact vx_isRef h rfl
/-- the same frame, seen from here: as if the method were called anew in this heap -/
theorem vx_rebase {T : State} (X : Stand p l e R s m args below meth c T locs cells slots) {R' : Room} (hf : R'.frames ≤ R.frames) (hl : R'.locals ≤ R.locals) (hc : cells + R'.cells ≤ R.cells) (hs : slots + R'.slots ≤ R.slots) :
    Stand p l e R' ((T.setVm s.vm).setFrames (.invoking m args :: below)) m args below meth c T [] 0 0 := by
  have htop : (T.setVm s.vm).topJava?.isSome := X.here.top
  have hF : ((T.setVm s.vm).setFrames (.invoking m args :: below)).frames = .invoking m args :: below := State.frames_setFrames _ (State.cur_lt_of_top htop)
  obtain ⟨g₀, hg0⟩ := Option.isSome_iff_exists.mp htop
  obtain ⟨r, hr⟩ := State.topJava?_eq_some.mp hg0
  have hl9 : e.platform.stackLimits (T.setVm s.vm).me = e.platform.stackLimits s.me := X.limits
  have hb9 : (T.setVm s.vm).me.stackBytes = s.me.stackBytes := X.bytes
  refine ⟨X.admits, X.cas, X.clock, hF, ?_, X.hears, X.method, X.code, X.here, X.tail, X.warmed, ?_, ?_, ?_⟩
  · have h := X.room
    have hU : ((T.setVm s.vm).setFrames (.invoking m args :: below)).localsInUse = s.localsInUse := by
      rw [State.localsInUse_invoking hF (meth := meth) (c := c) X.method X.code, State.localsInUse_invoking X.frames X.method X.code]
    simp only [State.hasRoom, Bool.and_eq_true, decide_eq_true_eq] at h ⊢
    obtain ⟨⟨⟨⟨h1, h2, h3, h4, h5, h6⟩, h7⟩, h8⟩, h9⟩ := h
    rw [X.frames, List.length_cons] at h2 h3
    have q1 := X.heapSize
    have q2 := X.used
    simp only [hF, hU, List.length_cons, State.stackLimits_setFrames, State.stackBytes_setFrames, hl9, hb9]
    refine ⟨⟨⟨⟨by omega, by omega, by omega, by omega, by omega, h6⟩, ?_⟩, ?_⟩, X.book⟩
    · show T.heap.size + R'.cells ≤ e.platform.maxCells
      omega
    · show T.slotsUsed + R'.slots ≤ e.platform.maxSlots
      omega
  · rw [State.stackLimits_setFrames]; rfl
  · rw [State.stackBytes_setFrames]; rfl
  · refine ⟨?_, Nat.le_refl _, Nat.le_refl _, ?_, ?_, fun a c9 h9 => ⟨c9, h9, rfl, rfl, fun _ _ => rfl⟩⟩
    · obtain ⟨t, ht, -⟩ := State.frames_cons hr
      show T.setVm s.vm = { ((T.setVm s.vm).setFrames (.invoking m args :: below)).setFrames (T.setVm s.vm).frames with heap := T.heap, slotsUsed := T.slotsUsed }
      rw [State.setFrames_setFrames, State.setFrames_self ht]
      rfl
    · show T.slotsUsed = T.slotsUsed + ((T.heap.toList.drop T.heap.size).map (·.slots.size)).sum
      rw [List.drop_eq_nil_of_le (Nat.le_of_eq Array.length_toList)]
      rfl
    · show ((T.heap.toList.drop T.heap.size).map (·.slots.size)).sum ≤ 0
      rw [List.drop_eq_nil_of_le (Nat.le_of_eq Array.length_toList)]
      exact Nat.le_refl _
/-- 'throw new E()': new; dup; invokespecial; athrow -/
theorem vx_throw0 {cc : ByteArray} {pc : Nat} (hexec : p.tables.exec = Jvm.exec) (hb : c.code = cc) (hl : l.stackTraces = false) {own cls : String} {names : List String} {ik ic mc ms : Nat} {A : Nat → Prop}
    (hown : s.vm.findClass own = some m.cls) (hcls : Bundle.fit cls = true) (hnames : ∀ n ∈ names, Bundle.fit n = true)
    (hk : (Cond.classLink own ik cls).before args s = true) (hini : (Cond.initialized cls).before args s = true) (hat : ∀ w ∈ vx_at0 own ic cls names, w.before args s = true)
    (hgood : ∀ w ∈ Cond.classLink own ik cls :: Cond.initialized cls :: vx_at0 own ic cls names, vx_ot w = true)
    (hU : vx_Zq Bundle.tN "UNASSIGNED_STACK" Bundle.steD A s s.heap) (hN : vx_Zq Bundle.tN "SUPPRESSED_SENTINEL" Bundle.listD A s s.heap) (hS : va_S A s.heap H locs) (hsize : ls.size = c.maxLocals)
    (d0 : decode cc pc = .ok (.new ik, 3)) (d3 : decode cc (pc + 3) = .ok (.dup, 1)) (d4 : decode cc (pc + 4) = .ok (.invokespecial ic, 3)) (d7 : decode cc (pc + 7) = .ok (.athrow, 1))
    (hout : ∀ x ∈ c.exceptionTable.toList, covers x (pc + 7) = false)
    (hRframes : names.length + 3 < R.frames) (hRlocals : (rest.map fun v => v.category).sum + (13 * (names.length + 1) + 42) ≤ R.locals) (hRcells : cells + 1 ≤ R.cells) (hRslots : slots + 6 ≤ R.slots) (hlocks : meth.locks = false)
    (hx : ∀ t : State, s.vm.Alike t.vm → H.size ≤ t.heap.size → (∀ q : Nat, q < H.size → t.heap[q]? = H[q]?) → XC cls s t)
    (hf : ∀ z ∈ locs, free z.base) (hc : cells + 1 ≤ mc) (hs : slots + 6 ≤ ms) :
    W p l e R s m args below meth c H locs cells slots (vx_MQ below Qc XC args s mc ms free) (F0 m pc ls rest) := by
  intro T hT X
  have htr : e.platform.stackTraces = false := (show e.platform.stackTraces = l.stackTraces by rw [X.admits.platform]).trans hl
  have Y := vx_rebase X (R' := { frames := R.frames, locals := R.locals, cells := 1, slots := 6 }) (Nat.le_refl _) (Nat.le_refl _) hRcells hRslots
  obtain ⟨s', hA⟩ : ∃ z, z = (T.setVm s.vm).setFrames (.invoking m args :: below) := ⟨_, rfl⟩
  rw [← hA] at Y
  have hvm : s'.vm = s.vm := by rw [hA]; rfl
  have hhp : s'.heap = H := by rw [hA]; exact hT
  have hW0 : s.WarmedH s'.vm := by rw [hvm]; exact State.WarmedH.refl s
  have hat' : ∀ w ∈ vx_at0 own ic cls names, w.before args s' = true := fun w hw => vx_ot_at hW0 hvm.symm (hgood w (List.mem_cons_of_mem _ (List.mem_cons_of_mem _ hw))) (hat w hw)
  have hk' : (Cond.classLink own ik cls).before args s' = true := vx_ot_at hW0 hvm.symm (hgood _ List.mem_cons_self) hk
  have hini' : (Cond.initialized cls).before args s' = true := vx_ot_at hW0 hvm.symm (hgood _ (List.mem_cons_of_mem _ List.mem_cons_self)) hini
  have hU' : vx_Zq Bundle.tN "UNASSIGNED_STACK" Bundle.steD A s' s'.heap := by rw [hhp]; exact vx_Zq.moved hW0.alike (hU.kept hS.2.1)
  have hN' : vx_Zq Bundle.tN "SUPPRESSED_SENTINEL" Bundle.listD A s' s'.heap := by rw [hhp]; exact vx_Zq.moved hW0.alike (hN.kept hS.2.1)
  have h : ∀ w ∈ Bundle.ownAtoms0 own ic cls names, w.before args s' = true := vx_own hat' (vx_isRefq hU'.1) (vx_isRefq hN'.1) hU'.2.word hN'.2.word
  have hown' : s'.vm.findClass own = some m.cls := by rw [hvm]; exact hown
  have hins : (Cond.instantiable cls 6).before args s' = true := h _ (by simp [Bundle.ownAtoms0])
  obtain ⟨vm₁, cX, kX, hfX, hkX, -, -, X₁, st1⟩ := Y.newCold hexec (own := own) (C := cls) (index := ik) (n := 6) hown' hk' hins hini'
    (g := F0 m pc ls rest) rfl (by rw [hb]; exact d0) (Nat.le_refl _) (Nat.le_refl _)
  generalize hT1 : (T.setVm vm₁).pushCell { cls := cX, slots := kX.instanceTypes.map defaultValue, vm := .none } = T1 at X₁ st1
  have hcat : (Value.ref T.heap.size).category = 1 := rfl
  have hcellA : T1.heap[T.heap.size]? = some (freshCell cX kX) := by rw [← hT1]; exact State.heap_pushCell_size _ _
  have d3' : decode c.code (pc + 3) = .ok (.dup, 1) := by rw [hb]; exact d3
  obtain ⟨U, hsteps, hrun, hend, hW, hsame, ce, hce, hO⟩ := X₁.ctorThrow0 hexec htr (own := own) (cls := cls) (names := names) (ic := ic) hown' hcls hnames h (fun x hx => nomatch hx) hfX hkX hcellA (by rw [hhp, hT]; exact Nat.le_refl _)
    (g := { method := m, pc := pc + 4, locals := ls, stack := .ref T.heap.size :: .ref T.heap.size :: rest, locked := none }) rfl hsize rfl rfl (rest := rest) rfl
    (by rw [hb]; exact d4) (by rw [hb]; exact d7) hout hRframes (by simp only [List.map_cons, List.sum_cons, hcat]; omega) hlocks
  obtain ⟨f1, f2⟩ := vx_frame hsame
  rw [hhp] at f1 f2
  have hWs : s.WarmedH U.vm := State.WarmedH.trans hW0 hW
  have hcl : s.vm.findClass cls = some ce.cls := by
    have h9 := hO.cls
    rw [hvm] at h9
    exact h9
  have hall : s.sameButNew ({ U with vm := s.vm } : State) locs mc ms := by
    subst hA
    obtain ⟨e1, e2⟩ := hsame
    rw [State.setFrames_setFrames] at e1
    have h2 : (T.setVm s.vm).sameButNew ({ U with vm := s.vm } : State) [] (0 + 1) (0 + 6) := ⟨e1, e2⟩
    have h3 := X.same.trans h2
    rw [List.append_nil] at h3
    exact h3.mono hc hs
  refine ⟨U, ?_, .threw T.heap.size, hrun, hend, Or.inr ⟨T.heap.size, rfl, cls, ce, locs, hx U hWs.alike f1 (fun q hq => f2 q hq (fun z hz => nomatch hz)), hce, hO.vm, hcl, hWs, hall, hf⟩⟩
  refine st1 _ ?_
  show Steps p.tables e below (T1.setTop { method := m, pc := pc + 3, locals := ls, stack := .ref T.heap.size :: rest, locked := none }) _
  jvm_step X₁.here [X₁.here.top, hexec, d3', Value.category]
  exact hsteps
/-- 'throw new E("text")': new; dup; ldc; invokespecial; athrow -/
theorem vx_throwS {cc : ByteArray} {pc : Nat} (hexec : p.tables.exec = Jvm.exec) (hb : c.code = cc) (hl : l.stackTraces = false) {own cls text : String} {names : List String} {ik is ic mc ms sa : Nat} {A : Nat → Prop}
    (hown : s.vm.findClass own = some m.cls) (hcls : Bundle.fit cls = true) (hnames : ∀ n ∈ names, Bundle.fit n = true)
    (hk : (Cond.classLink own ik cls).before args s = true) (hini : (Cond.initialized cls).before args s = true) (hstr : vk_R own is text sa s) (hat : ∀ w ∈ vx_atS own ic cls names, w.before args s = true)
    (hgood : ∀ w ∈ Cond.classLink own ik cls :: Cond.initialized cls :: vx_atS own ic cls names, vx_ot w = true)
    (hU : vx_Zq Bundle.tN "UNASSIGNED_STACK" Bundle.steD A s s.heap) (hN : vx_Zq Bundle.tN "SUPPRESSED_SENTINEL" Bundle.listD A s s.heap) (hS : va_S A s.heap H locs) (hsize : ls.size = c.maxLocals)
    (d0 : decode cc pc = .ok (.new ik, 3)) (d3 : decode cc (pc + 3) = .ok (.dup, 1)) (d4 : decode cc (pc + 4) = .ok (.ldc is, 2)) (d6 : decode cc (pc + 6) = .ok (.invokespecial ic, 3)) (d9 : decode cc (pc + 9) = .ok (.athrow, 1))
    (hout : ∀ x ∈ c.exceptionTable.toList, covers x (pc + 9) = false)
    (hRframes : names.length + 3 < R.frames) (hRlocals : (rest.map fun v => v.category).sum + (13 * (names.length + 1) + 43) ≤ R.locals) (hRcells : cells + 1 ≤ R.cells) (hRslots : slots + 6 ≤ R.slots) (hlocks : meth.locks = false)
    (hx : ∀ t : State, s.vm.Alike t.vm → H.size ≤ t.heap.size → (∀ q : Nat, q < H.size → t.heap[q]? = H[q]?) → XC cls s t)
    (hf : ∀ z ∈ locs, free z.base) (hc : cells + 1 ≤ mc) (hs : slots + 6 ≤ ms) :
    W p l e R s m args below meth c H locs cells slots (vx_MQ below Qc XC args s mc ms free) (F0 m pc ls rest) := by
  intro T hT X
  have htr : e.platform.stackTraces = false := (show e.platform.stackTraces = l.stackTraces by rw [X.admits.platform]).trans hl
  have Y := vx_rebase X (R' := { frames := R.frames, locals := R.locals, cells := 1, slots := 6 }) (Nat.le_refl _) (Nat.le_refl _) hRcells hRslots
  obtain ⟨s', hA⟩ : ∃ z, z = (T.setVm s.vm).setFrames (.invoking m args :: below) := ⟨_, rfl⟩
  rw [← hA] at Y
  have hvm : s'.vm = s.vm := by rw [hA]; rfl
  have hhp : s'.heap = H := by rw [hA]; exact hT
  have hW0 : s.WarmedH s'.vm := by rw [hvm]; exact State.WarmedH.refl s
  have hat' : ∀ w ∈ vx_atS own ic cls names, w.before args s' = true := fun w hw => vx_ot_at hW0 hvm.symm (hgood w (List.mem_cons_of_mem _ (List.mem_cons_of_mem _ hw))) (hat w hw)
  have hk' : (Cond.classLink own ik cls).before args s' = true := vx_ot_at hW0 hvm.symm (hgood _ List.mem_cons_self) hk
  have hini' : (Cond.initialized cls).before args s' = true := vx_ot_at hW0 hvm.symm (hgood _ (List.mem_cons_of_mem _ List.mem_cons_self)) hini
  have hU' : vx_Zq Bundle.tN "UNASSIGNED_STACK" Bundle.steD A s' s'.heap := by rw [hhp]; exact vx_Zq.moved hW0.alike (hU.kept hS.2.1)
  have hN' : vx_Zq Bundle.tN "SUPPRESSED_SENTINEL" Bundle.listD A s' s'.heap := by rw [hhp]; exact vx_Zq.moved hW0.alike (hN.kept hS.2.1)
  have h : ∀ w ∈ Bundle.ownAtoms own ic cls names, w.before args s' = true := vx_own hat' (vx_isRefq hU'.1) (vx_isRefq hN'.1) hU'.2.word hN'.2.word
  have hown' : s'.vm.findClass own = some m.cls := by rw [hvm]; exact hown
  have hins : (Cond.instantiable cls 6).before args s' = true := h _ (by simp [Bundle.ownAtoms])
  obtain ⟨vm₁, cX, kX, hfX, hkX, -, -, X₁, st1⟩ := Y.newCold hexec (own := own) (C := cls) (index := ik) (n := 6) hown' hk' hins hini'
    (g := F0 m pc ls rest) rfl (by rw [hb]; exact d0) (Nat.le_refl _) (Nat.le_refl _)
  generalize hT1 : (T.setVm vm₁).pushCell { cls := cX, slots := kX.instanceTypes.map defaultValue, vm := .none } = T1 at X₁ st1
  have hcat : (Value.ref T.heap.size).category = 1 := rfl
  have hcellA : T1.heap[T.heap.size]? = some (freshCell cX kX) := by rw [← hT1]; exact State.heap_pushCell_size _ _
  have d3' : decode c.code (pc + 3) = .ok (.dup, 1) := by rw [hb]; exact d3
  have d4' : decode c.code (pc + 4) = .ok (.ldc is, 2) := by rw [hb]; exact d4
  have hstr' : vk_R own is text sa s' := vk_R.warm hW0 hstr
  obtain ⟨U, hsteps, hrun, hend, hW, hsame, ce, hce, hO⟩ := X₁.ctorThrowS hexec htr (own := own) (cls := cls) (names := names) (ic := ic) hown' hcls hnames h (fun x hx => nomatch hx) hfX hkX hcellA (by rw [hhp, hT]; exact Nat.le_refl _) (msg := .ref sa) rfl
    (g := { method := m, pc := pc + 6, locals := ls, stack := .ref sa :: .ref T.heap.size :: .ref T.heap.size :: rest, locked := none }) rfl hsize rfl rfl (rest := rest) rfl
    (by rw [hb]; exact d6) (by rw [hb]; exact d9) hout hRframes (by simp only [List.map_cons, List.sum_cons, hcat]; omega) hlocks
  obtain ⟨f1, f2⟩ := vx_frame hsame
  rw [hhp] at f1 f2
  have hWs : s.WarmedH U.vm := State.WarmedH.trans hW0 hW
  have hcl : s.vm.findClass cls = some ce.cls := by
    have h9 := hO.cls
    rw [hvm] at h9
    exact h9
  have hall : s.sameButNew ({ U with vm := s.vm } : State) locs mc ms := by
    subst hA
    obtain ⟨e1, e2⟩ := hsame
    rw [State.setFrames_setFrames] at e1
    have h2 : (T.setVm s.vm).sameButNew ({ U with vm := s.vm } : State) [] (0 + 1) (0 + 6) := ⟨e1, e2⟩
    have h3 := X.same.trans h2
    rw [List.append_nil] at h3
    exact h3.mono hc hs
  refine ⟨U, ?_, .threw T.heap.size, hrun, hend, Or.inr ⟨T.heap.size, rfl, cls, ce, locs, hx U hWs.alike f1 (fun q hq => f2 q hq (fun z hz => nomatch hz)), hce, hO.vm, hcl, hWs, hall, hf⟩⟩
  refine st1 _ ?_
  show Steps p.tables e below (T1.setTop { method := m, pc := pc + 3, locals := ls, stack := .ref T.heap.size :: rest, locked := none }) _
  jvm_step X₁.here [X₁.here.top, hexec, d3', Value.category]
  exact X₁.ldcString hexec (own := own) (text := text) (index := is) (a := sa) hown' hstr'.1 hstr'.2
    (g := { method := m, pc := pc + 4, locals := ls, stack := .ref T.heap.size :: .ref T.heap.size :: rest, locked := none }) rfl d4' _ hsteps
/-- 'throw new E("text")', the text by a wide index -/
theorem vx_throwSW {cc : ByteArray} {pc : Nat} (hexec : p.tables.exec = Jvm.exec) (hb : c.code = cc) (hl : l.stackTraces = false) {own cls text : String} {names : List String} {ik is ic mc ms sa : Nat} {A : Nat → Prop}
    (hown : s.vm.findClass own = some m.cls) (hcls : Bundle.fit cls = true) (hnames : ∀ n ∈ names, Bundle.fit n = true)
    (hk : (Cond.classLink own ik cls).before args s = true) (hini : (Cond.initialized cls).before args s = true) (hstr : vk_R own is text sa s) (hat : ∀ w ∈ vx_atS own ic cls names, w.before args s = true)
    (hgood : ∀ w ∈ Cond.classLink own ik cls :: Cond.initialized cls :: vx_atS own ic cls names, vx_ot w = true)
    (hU : vx_Zq Bundle.tN "UNASSIGNED_STACK" Bundle.steD A s s.heap) (hN : vx_Zq Bundle.tN "SUPPRESSED_SENTINEL" Bundle.listD A s s.heap) (hS : va_S A s.heap H locs) (hsize : ls.size = c.maxLocals)
    (d0 : decode cc pc = .ok (.new ik, 3)) (d3 : decode cc (pc + 3) = .ok (.dup, 1)) (d4 : decode cc (pc + 4) = .ok (.ldc_w is, 3)) (d7 : decode cc (pc + 7) = .ok (.invokespecial ic, 3)) (d10 : decode cc (pc + 10) = .ok (.athrow, 1))
    (hout : ∀ x ∈ c.exceptionTable.toList, covers x (pc + 10) = false)
    (hRframes : names.length + 3 < R.frames) (hRlocals : (rest.map fun v => v.category).sum + (13 * (names.length + 1) + 43) ≤ R.locals) (hRcells : cells + 1 ≤ R.cells) (hRslots : slots + 6 ≤ R.slots) (hlocks : meth.locks = false)
    (hx : ∀ t : State, s.vm.Alike t.vm → H.size ≤ t.heap.size → (∀ q : Nat, q < H.size → t.heap[q]? = H[q]?) → XC cls s t)
    (hf : ∀ z ∈ locs, free z.base) (hc : cells + 1 ≤ mc) (hs : slots + 6 ≤ ms) :
    W p l e R s m args below meth c H locs cells slots (vx_MQ below Qc XC args s mc ms free) (F0 m pc ls rest) := by
  intro T hT X
  have htr : e.platform.stackTraces = false := (show e.platform.stackTraces = l.stackTraces by rw [X.admits.platform]).trans hl
  have Y := vx_rebase X (R' := { frames := R.frames, locals := R.locals, cells := 1, slots := 6 }) (Nat.le_refl _) (Nat.le_refl _) hRcells hRslots
  obtain ⟨s', hA⟩ : ∃ z, z = (T.setVm s.vm).setFrames (.invoking m args :: below) := ⟨_, rfl⟩
  rw [← hA] at Y
  have hvm : s'.vm = s.vm := by rw [hA]; rfl
  have hhp : s'.heap = H := by rw [hA]; exact hT
  have hW0 : s.WarmedH s'.vm := by rw [hvm]; exact State.WarmedH.refl s
  have hat' : ∀ w ∈ vx_atS own ic cls names, w.before args s' = true := fun w hw => vx_ot_at hW0 hvm.symm (hgood w (List.mem_cons_of_mem _ (List.mem_cons_of_mem _ hw))) (hat w hw)
  have hk' : (Cond.classLink own ik cls).before args s' = true := vx_ot_at hW0 hvm.symm (hgood _ List.mem_cons_self) hk
  have hini' : (Cond.initialized cls).before args s' = true := vx_ot_at hW0 hvm.symm (hgood _ (List.mem_cons_of_mem _ List.mem_cons_self)) hini
  have hU' : vx_Zq Bundle.tN "UNASSIGNED_STACK" Bundle.steD A s' s'.heap := by rw [hhp]; exact vx_Zq.moved hW0.alike (hU.kept hS.2.1)
  have hN' : vx_Zq Bundle.tN "SUPPRESSED_SENTINEL" Bundle.listD A s' s'.heap := by rw [hhp]; exact vx_Zq.moved hW0.alike (hN.kept hS.2.1)
  have h : ∀ w ∈ Bundle.ownAtoms own ic cls names, w.before args s' = true := vx_own hat' (vx_isRefq hU'.1) (vx_isRefq hN'.1) hU'.2.word hN'.2.word
  have hown' : s'.vm.findClass own = some m.cls := by rw [hvm]; exact hown
  have hins : (Cond.instantiable cls 6).before args s' = true := h _ (by simp [Bundle.ownAtoms])
  obtain ⟨vm₁, cX, kX, hfX, hkX, -, -, X₁, st1⟩ := Y.newCold hexec (own := own) (C := cls) (index := ik) (n := 6) hown' hk' hins hini'
    (g := F0 m pc ls rest) rfl (by rw [hb]; exact d0) (Nat.le_refl _) (Nat.le_refl _)
  generalize hT1 : (T.setVm vm₁).pushCell { cls := cX, slots := kX.instanceTypes.map defaultValue, vm := .none } = T1 at X₁ st1
  have hcat : (Value.ref T.heap.size).category = 1 := rfl
  have hcellA : T1.heap[T.heap.size]? = some (freshCell cX kX) := by rw [← hT1]; exact State.heap_pushCell_size _ _
  have d3' : decode c.code (pc + 3) = .ok (.dup, 1) := by rw [hb]; exact d3
  have d4' : decode c.code (pc + 4) = .ok (.ldc_w is, 3) := by rw [hb]; exact d4
  have hstr' : vk_R own is text sa s' := vk_R.warm hW0 hstr
  obtain ⟨U, hsteps, hrun, hend, hW, hsame, ce, hce, hO⟩ := X₁.ctorThrowS hexec htr (own := own) (cls := cls) (names := names) (ic := ic) hown' hcls hnames h (fun x hx => nomatch hx) hfX hkX hcellA (by rw [hhp, hT]; exact Nat.le_refl _) (msg := .ref sa) rfl
    (g := { method := m, pc := pc + 7, locals := ls, stack := .ref sa :: .ref T.heap.size :: .ref T.heap.size :: rest, locked := none }) rfl hsize rfl rfl (rest := rest) rfl
    (by rw [hb]; exact d7) (by rw [hb]; exact d10) hout hRframes (by simp only [List.map_cons, List.sum_cons, hcat]; omega) hlocks
  obtain ⟨f1, f2⟩ := vx_frame hsame
  rw [hhp] at f1 f2
  have hWs : s.WarmedH U.vm := State.WarmedH.trans hW0 hW
  have hcl : s.vm.findClass cls = some ce.cls := by
    have h9 := hO.cls
    rw [hvm] at h9
    exact h9
  have hall : s.sameButNew ({ U with vm := s.vm } : State) locs mc ms := by
    subst hA
    obtain ⟨e1, e2⟩ := hsame
    rw [State.setFrames_setFrames] at e1
    have h2 : (T.setVm s.vm).sameButNew ({ U with vm := s.vm } : State) [] (0 + 1) (0 + 6) := ⟨e1, e2⟩
    have h3 := X.same.trans h2
    rw [List.append_nil] at h3
    exact h3.mono hc hs
  refine ⟨U, ?_, .threw T.heap.size, hrun, hend, Or.inr ⟨T.heap.size, rfl, cls, ce, locs, hx U hWs.alike f1 (fun q hq => f2 q hq (fun z hz => nomatch hz)), hce, hO.vm, hcl, hWs, hall, hf⟩⟩
  refine st1 _ ?_
  show Steps p.tables e below (T1.setTop { method := m, pc := pc + 3, locals := ls, stack := .ref T.heap.size :: rest, locked := none }) _
  jvm_step X₁.here [X₁.here.top, hexec, d3', Value.category]
  exact X₁.ldcStringW hexec (own := own) (text := text) (index := is) (a := sa) hown' hstr'.1 hstr'.2
    (g := { method := m, pc := pc + 4, locals := ls, stack := .ref T.heap.size :: .ref T.heap.size :: rest, locked := none }) rfl d4' _ hsteps
end Ends
section Bodies
variable {l : Launch}
theorem vx_ofW {y : MethodName} {ws ws' : List Cond} {rm : Room} {Pc : Array Value → State → Prop} {Qc : Array Value → State → Outcome → State → Prop} {XC : String → State → State → Prop} {mc ms : Nat} {free : Addr → Prop} {cc : ByteArray} {maxL : Nat} {ret : Option FieldType}
    (hy : plainName y.cls = true) (hw : ws = Cond.code y cc maxL ret :: ws')
    (body : ∀ p e s m args below meth c s₁, BodyLoose p l y (headSpec ws rm) cc maxL ret e s m args below meth c s₁ → c.maxLocals = maxL → (∀ x ∈ c.exceptionTable.toList, False) → Pc args s →
      W p l e (headSpec ws rm).room s m args below meth c s.heap [] 0 0 (vx_MQ below Qc XC args s mc ms free) (entryFrame m args maxL)) : vx_Met l y ws rm Pc Qc XC mc ms free := by
  refine MetFree.of_bodyS (code := cc) (maxLocals := maxL) (ret := ret) hy ?_ ?_
  · intro args s m h hn
    obtain ⟨meth, c, h1, h2, h3, h4, h5, h6, -, -⟩ := Cond.code_spec hn (atoms_spec (ws := ws) h _ (by rw [hw]; exact List.mem_cons_self))
    exact ⟨meth, c, h1, h2, h3, h4, h5, h6⟩
  · intro p e s m args below meth c s₁ B hml hP _
    have hh0 : s₁.heap = s.heap := by rw [B.state]; rfl
    have ht : ∀ x ∈ c.exceptionTable.toList, False := by
      obtain ⟨meth9, c9, h1, h2, -, -, -, -, h7, -⟩ := Cond.code_spec B.named (atoms_spec (ws := ws) B.pre _ (by rw [hw]; exact List.mem_cons_self))
      cases Option.some.inj (h1.symm.trans B.method)
      cases Option.some.inj (h2.symm.trans (Stand.of_body B).code)
      intro x hx
      rw [Array.isEmpty_iff.mp h7] at hx
      cases hx
    obtain ⟨t, a1, o, b1, b2, b3⟩ := body p e s m args below meth c s₁ B hml ht hP s₁ hh0 (Stand.of_body B)
    exact ⟨t, o, a1, b1, b2, b3⟩
/-- the table of a body with handlers -/
theorem vx_table {p : Program} {x y : MethodName} {S : Spec} {cc bytes : ByteArray} {maxL maxL' : Nat} {ret ret' : Option FieldType} {e : Env} {s s₁ : State} {m : MethodId} {args : Array Value} {below : List Frame} {meth : Method} {c : Code} {hh : List (Nat × Nat × Nat × Nat)}
    (B : BodyLoose p l y S cc maxL ret e s m args below meth c s₁) (h : (Cond.codeWith y bytes maxL' ret' hh).before args s = true) : c.exceptionTable.toList = tableOf hh := by
  obtain ⟨m9, meth9, c9, hn9, h1, h2, -, -, h6, -⟩ := Cond.codeWith_spec h
  cases Option.some.inj (hn9.symm.trans B.named)
  cases Option.some.inj (h1.symm.trans B.method)
  cases Option.some.inj (h2.symm.trans (Stand.of_body B).code)
  rw [← h6, table_eq]
end Bodies
end VXA
/-! ===== END ===== -/
/-! ===== BEGIN a static call of a method with an exception table ===== -/
section VXS
variable {p : Program} {l : Launch} {e : Env} {R : Room} {s : State} {m : MethodId} {args : Array Value} {below : List Frame} {meth : Method} {c : Code} {T : State} {H : Heap} {locs : List Loc} {cells slots : Nat}
abbrev vx_CSW (R : Room) (s : State) (args : Array Value) (own : String) (index : Nat) (y : MethodName) (bytes : ByteArray) (maxL : Nat) (ret : Option FieldType) (hh : List (Nat × Nat × Nat × Nat)) (ws : List Cond) (rm : Room) (mc ms n : Nat) : Prop :=
  (rm.cells = mc ∧ rm.slots = ms ∧ rm.frames + 1 ≤ R.frames ∧ 8 + (maxL + 11) + rm.locals ≤ R.locals ∧ (∀ w ∈ ws, ∀ (a' : Array Value) (U : State), s.WarmedH U.vm → w.before a' U = true) ∧ Cond.codeWith y bytes maxL ret hh ∈ ws) ∧
  (Cond.codeWith y bytes maxL ret hh).before args s = true ∧ (Cond.initialized y.cls).before args s = true ∧ (y.cls ≠ "java/lang/invoke/MethodHandle" ∧ y.cls ≠ "java/lang/invoke/VarHandle") ∧
  (∀ sig, parseMethodDescriptor y.desc = some sig → n = sig.parameters.length) ∧ (Cond.methodLink own index y).before args s = true ∧ (Cond.static y).before args s = true
theorem vx_cwSW {own : String} {index maxL mc ms : Nat} {y : MethodName} {bytes : ByteArray} {ret : Option FieldType} {hh : List (Nat × Nat × Nat × Nat)} {Ts ws ws' : List Cond} {rm : Room} (n : Nat) (ht : ∀ w ∈ Ts, w.before args s = true) (hT : GoodIn Ts (va_wsS own index y ws)) (hw : ws = Cond.codeWith y bytes maxL ret hh :: ws') (hrc : rm.cells = mc) (hrs : rm.slots = ms)
    (hd : y.cls ≠ "java/lang/invoke/MethodHandle" ∧ y.cls ≠ "java/lang/invoke/VarHandle" ∧ (parseMethodDescriptor y.desc).map (fun d => d.parameters.length) = some n) (hR : rm.frames + 1 ≤ R.frames ∧ 8 + (maxL + 11) + rm.locals ≤ R.locals) :
    vx_CSW R s args own index y bytes maxL ret hh ws rm mc ms n := by
  have ok : ∀ w ∈ va_wsS own index y ws, w.before args s = true := fun w h => ht w (hT w h).1
  have hG : GoodIn Ts ws := fun w h => hT w (by unfold va_wsS; exact List.mem_append_right _ h)
  have hc : Cond.codeWith y bytes maxL ret hh ∈ ws := by rw [hw]; exact List.mem_cons_self
  refine ⟨⟨hrc, hrs, hR.1, hR.2, pay_in ht hG, hc⟩, ht _ (hG _ hc).1, ok _ (by simp [va_wsS]), ⟨hd.1, hd.2.1⟩, fun sig h => ?_, ok _ (by simp [va_wsS]), ok _ (by simp [va_wsS])⟩
  have h2 := hd.2.2
  rw [h] at h2
  exact (Option.some.inj h2).symm
theorem vx_callSW (X : Stand p l e R s m args below meth c T locs cells slots) (hexec : p.tables.exec = Jvm.exec) {own : String} {index : Nat} {y : MethodName} {bytes : ByteArray} {maxL : Nat} {ret : Option FieldType} {hh : List (Nat × Nat × Nat × Nat)}
    (hown : s.vm.findClass own = some m.cls) (hlink : (Cond.methodLink own index y).before args s = true) (hstat : (Cond.static y).before args s = true) (hinit : (Cond.initialized y.cls).before args s = true)
    (hcode : (Cond.codeWith y bytes maxL ret hh).before args s = true) (hy : y.cls ≠ "java/lang/invoke/MethodHandle" ∧ y.cls ≠ "java/lang/invoke/VarHandle")
    {W9 : Nat} {Pre : Pt → Array Value → Prop} {Post : Pt → Array Value → Option Value → Pt → Prop} (hK : Back l R p e below s args y 3 W9 Pre Post)
    {g : JFrame} (hg : g.method = m) (hsize : g.locals.size = c.maxLocals) {argsL rest : List Value} (hlen : ∀ sig, parseMethodDescriptor y.desc = some sig → argsL.length = sig.parameters.length)
    (hstack : g.stack = argsL.reverse ++ rest) (hW : 2 * g.monitorRoom + (rest.map fun v => v.category).sum ≤ W9) (hdg : decode c.code g.pc = .ok (.invokestatic index, 3))
    (hpre : ∀ vm₁, s.WarmedH vm₁ → Pre ⟨T.setVm vm₁, locs, cells, slots⟩ argsL.toArray) :
    ∃ (v : Option Value) (vm₁ : Vm) (B : Pt), s.WarmedH vm₁ ∧ Stand p l e R s m args below meth c B.U B.locs B.cells B.slots ∧ Post ⟨T.setVm vm₁, locs, cells, slots⟩ argsL.toArray v B ∧
      ∀ target, Steps p.tables e below (B.U.setTop { g with pc := g.pc + 3, stack := v.toList ++ rest }) target → Steps p.tables e below (T.setTop g) target := by
  obtain ⟨mk, methM, cM, hnamed, hmethM, -, -, -, -, -, -, hsigM⟩ := Cond.codeWith_spec hcode
  have hstatic : methM.isStatic = true := Cond.static_spec hnamed hmethM hstat
  obtain ⟨kP, hkP, -⟩ := className_of_methodNamed hnamed
  have hinitP : kP.init = .initialized := Cond.initialized_spec (findClass_of_methodNamed hnamed) hkP hinit
  obtain ⟨vm₁, X₁, hstep₁⟩ := X.invokestatic hexec hown hlink hnamed hmethM hstatic hkP hinitP hy (g := g) hg (argsL := argsL) (rest := rest) (hlen _ hsigM) hstack hdg
  obtain ⟨v, B, X', hpost, hsteps⟩ := hK m meth c ⟨T.setVm vm₁, locs, cells, slots⟩ { g with stack := rest } (.invokestatic index) mk argsL.toArray X₁ hg hsize hdg hW (X₁.named hnamed) (hpre vm₁ X₁.warmed)
  exact ⟨v, vm₁, B, X₁.warmed, X', hpost, fun target h => hstep₁ _ fun acts => by rw [doInvoke_state]; exact hsteps.trans h⟩
theorem vx_runSW {y : MethodName} {bytes cc : ByteArray} {maxL nL mc ms n index : Nat} {ret : Option FieldType} {hh : List (Nat × Nat × Nat × Nat)} {ws : List Cond} {rm : Room} {Pc : Array Value → State → Prop} {Qc : Array Value → State → Outcome → State → Prop} {free : Addr → Prop} {Ts : List Cond} {own : String} {As rest : List Value} {g : JFrame}
    (S : CallFix p m c cc nL s args Ts own) (hM : Met l y ws rm Pc Qc mc ms free) (cw : vx_CSW R s args own index y bytes maxL ret hh ws rm mc ms n) (hp : PreS s H Pc As)
    (hg : g.method = m) (hn : As.length = n) (hsize : g.locals.size = nL) (hstack : g.stack = As.reverse ++ rest) (hW : 2 * g.monitorRoom + (rest.map fun v => v.category).sum ≤ 8) (hdg : decode cc g.pc = .ok (.invokestatic index, 3)) (hf : cells + mc ≤ R.cells ∧ slots + ms ≤ R.slots) :
    va_Run p l e R s m args below meth c H locs cells slots mc ms g rest (Qc As.toArray) (free) := by
  obtain ⟨⟨hrc, hrs, hfr, hlo, hws, hcw⟩, hcode, hini, hy, hlen, hl, hstt⟩ := cw
  have hK : Back l R p e below s args y 3 8 (PreOf R mc ms Pc) (PostOf Qc mc ms free) := va_backW (hh := hh) (bytes := bytes) (maxL := maxL) (ret := ret) hM hp.1 hrc hrs hfr hlo hws hcw (fun a' U hW => word_at hW (Or.inl (by first | rfl | simp [Cond.onTables, Cond.keeps, Cond.steady])) hini)
  obtain ⟨hx, hb, hml, ho, -⟩ := S
  intro T hT X
  obtain ⟨v, vm₁, ⟨U', l2, c2, s2⟩, hW₁, X', ⟨g', mk, t, L, e1, e2, hq, h1, hL, h2, h3⟩, st⟩ := vx_callSW X hx (hh := hh) (bytes := bytes) (maxL := maxL) (ret := ret) ho hl hstt hini hcode hy hK hg (hsize.trans hml.symm) (argsL := As) (rest := rest) (fun sig h => hn.trans (hlen sig h)) hstack hW (by rw [hb]; exact hdg)
    (fun vm₁ hW₁ => ⟨hf.1, hf.2, hp.2 (T.setVm vm₁) hT hW₁⟩)
  dsimp only [Pt.U, Pt.locs, Pt.cells, Pt.slots] at X' e1 e2 h1 h2 h3 st
  subst h1; subst h2; subst h3
  exact ⟨v, (T.setVm vm₁).calling g' mk As.toArray, t, U', L, hT, X', hL, e1, e2, hq, st⟩
/-- not caught here, past rows that name other classes: it goes on to the caller -/
theorem vx_outP {p : Program} {l : Launch} {e : Env} {R : Room} {s : State} {m : MethodId} {args : Array Value} {below : List Frame} {meth : Method} {c : Code} {H : Heap} {locs : List Loc} {cells slots : Nat} {free : Addr → Prop} {ls : Array Slot} {rest : List Value} {Qc : Array Value → State → Outcome → State → Prop} {XC : String → State → State → Prop}
    {pc : Nat} {own E : String} {ce : Cell} {q : Addr} {mc ms : Nat} (hown : s.vm.findClass own = some m.cls) (hlocks : meth.locks = false)
    (hpass : ∀ z ∈ c.exceptionTable.toList, covers z pc = false ∨ (z.catchType ≠ 0 ∧ ∃ nm : String, (Cond.classLink own z.catchType nm).before args s = true ∧ va_Nc E nm s)) (hcell : H[q]? = some ce) (hv : ce.vm = .none) (hcl : s.vm.findClass E = some ce.cls)
    (hx : ∀ t : State, t.heap = H → s.vm.Alike t.vm → XC E s t) (hf : ∀ z ∈ locs, free z.base) (hc : cells ≤ mc) (hs : slots ≤ ms) :
    vx_W p l e R s m args below meth c H locs cells slots (vx_MQ below Qc XC args s mc ms free) (F0 m pc ls rest) q := by
  intro T hT X
  have hpl : e.platform.magicAccessors = ({} : Platform).magicAccessors := by rw [X.admits.platform]
  obtain ⟨vm', hW', X', st⟩ := X.outThrough hlocks q (g := F0 m pc ls rest) rfl rfl rfl (cell := ce) (by rw [hT]; exact hcell) (by rw [hv]; rfl)
    (by obtain ⟨k9, h9, -⟩ := Vm.findClass_spec hcl; exact ⟨k9, h9⟩) (fun z hz => by
      rcases hpass z hz with h | ⟨hz0, nm, hl1, hn1⟩
      · exact Or.inl h
      · obtain ⟨c6, hc6, hcl6⟩ := Cond.classLink_spec hown hl1 e.platform hpl
        obtain ⟨a8, b8, h1, h2, h3⟩ := hn1
        cases Option.some.inj (h1.symm.trans hcl)
        cases Option.some.inj (h2.symm.trans hc6)
        exact Or.inr ⟨hz0, _, hcl6, h3⟩)
  obtain ⟨g₀, hfr⟩ := X'.frames_eq
  have hcell9 : ((T.setVm vm').setFrames (.throwing q :: below)).heap[q]? = some ce := by
    show T.heap[q]? = some ce
    rw [hT]; exact hcell
  have hend : Ended ((T.setVm vm').setFrames (.throwing q :: below)) below (.threw q) := State.frames_setFrames _ (State.cur_lt_of_frames hfr)
  refine ⟨(T.setVm vm').setFrames (.throwing q :: below), ?_, .threw q, X'.here.running, hend, Or.inr ⟨q, rfl, E, ce, locs, hx _ hT (X'.ends _).1.alike, hcell9, hv, hcl, (X'.ends _).1, (X'.ends _).2.mono hc hs, hf⟩⟩
  rw [X.pushThrowing_eq]
  exact st
/-- a thing of a world lies in the heap -/
theorem vx_lt {D : va_G} {cl : List vw_C} {ws : va_W} {H1 : Heap} (h : va_P D cl ws H1) {k : Nat} {q : Nat × va_E} (hk : ws[k]? = some q) : q.1 < H1.size := (h k q hk).lt
end VXS
/-! ===== END ===== -/
/-! ===== BEGIN methods with a table of their own: called by a name, returning or throwing ===== -/
section VXH
/-! vx_backW, vx_callVX, vx_callSX, vx_callVW, vx_runVW, vx_runVX, vx_runSX, vx_ofWH follow the same proofs as their sisters above (Free/Laws.lean, Shelf42/LK1.lean); vx_outP calls Shelf42/NT130.lean (outThrough). -/
section
variable {l : Launch} {R : Room} {p : Program} {e : Env} {below : List Frame} {s : State} {sargs : Array Value} {y : MethodName} {len W9 : Nat}
theorem vx_backW {ws : List Cond} {rm : Room} {Pc : Array Value → State → Prop} {Qc : Array Value → State → Outcome → State → Prop} {XC : String → State → State → Prop} {mc ms : Nat} {free : Addr → Prop} {bytes : ByteArray} {maxL : Nat} {ret : Option FieldType} {hh : List (Nat × Nat × Nat × Nat)}
    (hM : vx_Met l y ws rm Pc Qc XC mc ms free) (hblind : FrameBlind Pc) (hrc : rm.cells = mc) (hrs : rm.slots = ms)
    (hframes : rm.frames + 1 ≤ R.frames) (hlocals : W9 + (maxL + 11) + rm.locals ≤ R.locals)
    (hws : ∀ w ∈ ws, ∀ a' U, s.WarmedH U.vm → w.before a' U = true) (hcode : Cond.codeWith y bytes maxL ret hh ∈ ws) (hinit : ∀ a' U, s.WarmedH U.vm → (Cond.initialized y.cls).before a' U = true) :
    vx_Back l R p e below s sargs y len W9 (PreOf R mc ms Pc) (PostOf Qc mc ms free) (vx_Post XC mc ms free) := by
  intro m meth c A g ig mk a X hg hsize hdg hW hn hp
  have h1 : (headSpec ws rm).pre.before a A.U = true := atoms_intro fun w hw => hws w hw _ _ X.warmed
  have h2 : (Cond.codeWith y bytes maxL ret hh).before a A.U = true := hws _ hcode _ _ X.warmed
  have h3 : (Cond.initialized y.cls).before a A.U = true := hinit _ _ X.warmed
  have h4 : A.cells + (headSpec ws rm).room.cells ≤ R.cells := by rw [show (headSpec ws rm).room.cells = mc from hrc]; exact hp.1
  have h5 : A.slots + (headSpec ws rm).room.slots ≤ R.slots := by rw [show (headSpec ws rm).room.slots = ms from hrs]; exact hp.2.1
  have hPc : Pc a (A.U.calling g mk a) := hblind _ _ _ _ hp.2.2
  obtain ⟨U, Ls, c0, s0⟩ := A
  dsimp only [Pt.U, Pt.locs, Pt.cells, Pt.slots] at h1 h2 h3 h4 h5 X hn hPc ⊢
  obtain ⟨m9, methY, cY, hn9, hmY, hcY, -, hlY, -⟩ := Cond.codeWith_spec h2
  cases Option.some.inj (hn9.symm.trans hn)
  obtain ⟨kY, hkY, -⟩ := className_of_methodNamed hn
  have hinitY : kY.init = .initialized := Cond.initialized_spec (findClass_of_methodNamed hn) hkY h3
  have h : At U g.method c below := by rw [hg]; exact X.here
  have hlocals9 : W9 + (maxL + 11) + (headSpec ws rm).room.locals ≤ R.locals := hlocals
  have happ : (headSpec ws rm).appliesLoose y e.platform (U.calling g mk a) = true :=
    Spec.appliesLoose_calling (g := g) h hdg hn hkY hinitY
      (X.room_calling (g := g) (R' := (headSpec ws rm).room) hsize hmY hcY hframes (by rw [hlY]; omega) h4 h5) h1
  obtain ⟨mid, hmid⟩ := h.above
  have hfr : (U.setTop g).frames = (.java g :: mid) ++ below := by rw [State.frames_setTop' g h.top, hmid]; rfl
  obtain ⟨o, s₂, hsteps, -, hend, hq⟩ := Steps.callFree hM p X.admits X.cas X.clock (acts := []) hfr happ hPc trivial
  have hq' : vx_Q Qc XC mc ms free a (U.calling g mk a) o s₂ := hq
  rw [State.frames_setTop' g h.top] at hend
  obtain ⟨g₀, hg0⟩ := Option.isSome_iff_exists.mp h.top
  obtain ⟨r, hr⟩ := State.topJava?_eq_some.mp hg0
  have hr' : (({ U with heap := s₂.heap, slotsUsed := s₂.slotsUsed } : State).setVm s₂.vm).frames = .java g₀ :: r := hr
  rcases hq' with ⟨hqc, L, hfe, hL⟩ | ⟨q, rfl, E, ce, L, hx, hce, hcv, hcl, hW₂, hsm, hL⟩
  · obtain ⟨⟨v, rfl⟩, hW₂, e2, q2, q3, q4, q5, q6⟩ := id hfe
    have e3 : s₂ = ({ (U.calling g mk a).setFrames s₂.frames with heap := s₂.heap, slotsUsed := s₂.slotsUsed } : State).setVm s₂.vm := by
      have : s₂ = ({ s₂ with vm := (U.calling g mk a).vm } : State).setVm s₂.vm := rfl
      rw [e2] at this
      exact this
    obtain ⟨c₂, i₂, len₂, hc₂, hd₂, hf₂⟩ := hend
    have hW' : U.WarmedH s₂.vm := hW₂
    have hcc : c₂ = c := by
      have h1 : s₂.code? g.method = U.code? g.method := by
        rw [State.code?_eq, State.code?_eq, hW'.alike.method?]
      exact Option.some.inj (hc₂.symm.trans (h1.trans h.code))
    subst hcc
    have hlen : len₂ = len := by rw [hdg] at hd₂; cases hd₂; rfl
    subst hlen
    have hs₂ : s₂ = (({ U with heap := s₂.heap, slotsUsed := s₂.slotsUsed } : State).setVm s₂.vm).setTop { g with pc := g.pc + len₂, stack := v.toList ++ g.stack } := by
      refine e3.trans ?_
      rw [hf₂, State.calling_eq h.top, State.setFrames_setFrames, State.setTop_of_frames _ hr', hr]
      rfl
    have hsame : U.sameButNew ({ U with heap := s₂.heap, slotsUsed := s₂.slotsUsed } : State) L mc ms := by
      refine ⟨?_, q2, q3, q4, q5, q6⟩
      obtain ⟨t, ht, -⟩ := State.frames_cons hr
      show ({ U with heap := s₂.heap, slotsUsed := s₂.slotsUsed } : State) = { U.setFrames U.frames with heap := s₂.heap, slotsUsed := s₂.slotsUsed }
      rw [State.setFrames_self ht]
    subst hg
    refine Or.inl ⟨v, ⟨(({ U with heap := s₂.heap, slotsUsed := s₂.slotsUsed } : State).setVm s₂.vm), Ls ++ L, c0 + mc, s0 + ms⟩,
      ⟨X.admits, X.cas, X.clock, X.frames, X.room, X.hears, X.method, X.code, (X.here.setHeapUsed s₂.heap s₂.slotsUsed).setVm hW'.alike, X.tail, State.WarmedH.trans X.warmed hW', X.limits, X.bytes, X.same.trans (hsame.setVm s.vm)⟩,
      ⟨g, mk, s₂, L, rfl, rfl, hqc, rfl, hL, rfl, rfl⟩, ?_⟩
    show Steps p.tables e below _ ((({ U with heap := s₂.heap, slotsUsed := s₂.slotsUsed } : State).setVm s₂.vm).setTop { g with pc := g.pc + len₂, stack := v.toList ++ g.stack })
    rw [← hs₂]
    exact hsteps
  · obtain ⟨e2, q2, q3, q4, q5, q6⟩ := id hsm
    have e3 : s₂ = ({ (U.calling g mk a).setFrames s₂.frames with heap := s₂.heap, slotsUsed := s₂.slotsUsed } : State).setVm s₂.vm := by
      have : s₂ = ({ s₂ with vm := (U.calling g mk a).vm } : State).setVm s₂.vm := rfl
      rw [e2] at this
      exact this
    have hf₂ : s₂.frames = .throwing q :: .java g :: U.frames.tail := hend
    have hW' : U.WarmedH s₂.vm := hW₂
    have hs₂ : s₂ = ((({ U with heap := s₂.heap, slotsUsed := s₂.slotsUsed } : State).setVm s₂.vm).setTop g).pushFrame (.throwing q) := by
      refine e3.trans ?_
      rw [hf₂, State.calling_eq h.top, State.setFrames_setFrames, State.pushFrame, State.frames_setTop _ hr', State.setTop_of_frames _ hr', State.setFrames_setFrames, hr]
      rfl
    have hsame : U.sameButNew ({ U with heap := s₂.heap, slotsUsed := s₂.slotsUsed } : State) L mc ms := by
      refine ⟨?_, q2, q3, q4, q5, q6⟩
      obtain ⟨t, ht, -⟩ := State.frames_cons hr
      show ({ U with heap := s₂.heap, slotsUsed := s₂.slotsUsed } : State) = { U.setFrames U.frames with heap := s₂.heap, slotsUsed := s₂.slotsUsed }
      rw [State.setFrames_self ht]
    subst hg
    refine Or.inr ⟨q, ⟨(({ U with heap := s₂.heap, slotsUsed := s₂.slotsUsed } : State).setVm s₂.vm), Ls ++ L, c0 + mc, s0 + ms⟩,
      ⟨X.admits, X.cas, X.clock, X.frames, X.room, X.hears, X.method, X.code, (X.here.setHeapUsed s₂.heap s₂.slotsUsed).setVm hW'.alike, X.tail, State.WarmedH.trans X.warmed hW', X.limits, X.bytes, X.same.trans (hsame.setVm s.vm)⟩,
      ⟨g, mk, s₂, L, E, ce, rfl, rfl, hx, hce, hcv, hcl, rfl, hL, rfl, rfl⟩, ?_⟩
    show Steps p.tables e below _ (((({ U with heap := s₂.heap, slotsUsed := s₂.slotsUsed } : State).setVm s₂.vm).setTop g).pushFrame (.throwing q))
    rw [← hs₂]
    exact hsteps
end
variable {p : Program} {l : Launch} {e : Env} {R : Room} {s : State} {m : MethodId} {args : Array Value} {below : List Frame} {meth : Method} {c : Code} {T : State} {H : Heap} {locs : List Loc} {cells slots : Nat}
theorem vx_callVX (X : Stand p l e R s m args below meth c T locs cells slots) (hexec : p.tables.exec = Jvm.exec) {own C : String} {index : Nat} {y : MethodName} {bytes : ByteArray} {maxL : Nat} {ret : Option FieldType} {hh : List (Nat × Nat × Nat × Nat)}
    (hown : s.vm.findClass own = some m.cls) (hlink : (Cond.methodLink own index y).before args s = true) (hinst : (Cond.instanceMethod y).before args s = true) (hsel : (Cond.selects C y y).before args s = true)
    (hcode : (Cond.codeWith y bytes maxL ret hh).before args s = true) (hy : y.cls ≠ "java/lang/invoke/MethodHandle" ∧ y.cls ≠ "java/lang/invoke/VarHandle")
    {W9 : Nat} {Pre : Pt → Array Value → Prop} {Post : Pt → Array Value → Option Value → Pt → Prop} {PostX : Pt → Array Value → Addr → Pt → Prop} (hK : vx_Back l R p e below s args y 3 W9 Pre Post PostX)
    {b : Addr} {cellB : Cell} (hcell : T.heap[b]? = some cellB) (hobj : cellB.vm.isStatics = false) (hcls : s.vm.findClass C = some cellB.cls)
    {g : JFrame} (hg : g.method = m) (hsize : g.locals.size = c.maxLocals) {argsL rest : List Value} (hlen : ∀ sig, parseMethodDescriptor y.desc = some sig → argsL.length = sig.parameters.length)
    (hstack : g.stack = argsL.reverse ++ .ref b :: rest) (hW : 2 * g.monitorRoom + (rest.map fun v => v.category).sum ≤ W9) (hdg : decode c.code g.pc = .ok (.invokevirtual index, 3))
    (hpre : ∀ vm₁, s.WarmedH vm₁ → Pre ⟨T.setVm vm₁, locs, cells, slots⟩ (Value.ref b :: argsL).toArray) :
    (∃ (v : Option Value) (vm₁ : Vm) (B : Pt), s.WarmedH vm₁ ∧ Stand p l e R s m args below meth c B.U B.locs B.cells B.slots ∧ Post ⟨T.setVm vm₁, locs, cells, slots⟩ (Value.ref b :: argsL).toArray v B ∧
      ∀ target, Steps p.tables e below (B.U.setTop { g with pc := g.pc + 3, stack := v.toList ++ rest }) target → Steps p.tables e below (T.setTop g) target) ∨
    (∃ (q : Addr) (vm₁ : Vm) (B : Pt), s.WarmedH vm₁ ∧ Stand p l e R s m args below meth c B.U B.locs B.cells B.slots ∧ PostX ⟨T.setVm vm₁, locs, cells, slots⟩ (Value.ref b :: argsL).toArray q B ∧
      Steps p.tables e below (T.setTop g) ((B.U.setTop { g with stack := rest }).pushFrame (.throwing q))) := by
  obtain ⟨mk, methM, hnamed, hmethM, hstM, habM⟩ := Cond.instanceMethod_spec hinst
  obtain ⟨m8, methM', cM, hn8, hmethM', -, -, -, -, -, -, hsigM⟩ := Cond.codeWith_spec hcode
  cases Option.some.inj (hn8.symm.trans hnamed)
  cases hmethM.symm.trans hmethM'
  obtain ⟨c2, r2, m2, q1, q2, q3, q4, kP, hkP, hkPi⟩ := Cond.selects_spec hsel
  cases hcls.symm.trans q1
  cases (State.methodFound?_of_named hnamed hy).symm.trans q2
  cases hnamed.symm.trans q3
  have hselP : selectMethod e.platform s.vm cellB.cls mk = .method mk := by rw [Launch.admits_selectMethod X.admits]; exact q4
  obtain ⟨vm₁, X₁, hstep₁⟩ := X.invokevirtual hexec hown hlink hnamed hmethM hstM hkP hkPi hy (a := b) (cell := cellB) hcell
    (fun z h => by rw [h] at hobj; cases hobj) hselP hmethM habM hkP hkPi (g := g) hg (argsL := argsL) (rest := rest) (hlen _ hsigM) hstack hdg
  rcases hK m meth c ⟨T.setVm vm₁, locs, cells, slots⟩ { g with stack := rest } (.invokevirtual index) mk (Value.ref b :: argsL).toArray X₁ hg hsize hdg hW (X₁.named hnamed) (hpre vm₁ X₁.warmed) with ⟨v, B, X', hpost, hsteps⟩ | ⟨q, B, X', hpost, hsteps⟩
  · exact Or.inl ⟨v, vm₁, B, X₁.warmed, X', hpost, fun target h => hstep₁ _ fun acts => by rw [doInvoke_state]; exact hsteps.trans h⟩
  · exact Or.inr ⟨q, vm₁, B, X₁.warmed, X', hpost, hstep₁ _ fun acts => by rw [doInvoke_state]; exact hsteps⟩
theorem vx_callSX (X : Stand p l e R s m args below meth c T locs cells slots) (hexec : p.tables.exec = Jvm.exec) {own : String} {index : Nat} {y : MethodName} {bytes : ByteArray} {maxL : Nat} {ret : Option FieldType} {hh : List (Nat × Nat × Nat × Nat)}
    (hown : s.vm.findClass own = some m.cls) (hlink : (Cond.methodLink own index y).before args s = true) (hstat : (Cond.static y).before args s = true) (hinit : (Cond.initialized y.cls).before args s = true)
    (hcode : (Cond.codeWith y bytes maxL ret hh).before args s = true) (hy : y.cls ≠ "java/lang/invoke/MethodHandle" ∧ y.cls ≠ "java/lang/invoke/VarHandle")
    {W9 : Nat} {Pre : Pt → Array Value → Prop} {Post : Pt → Array Value → Option Value → Pt → Prop} {PostX : Pt → Array Value → Addr → Pt → Prop} (hK : vx_Back l R p e below s args y 3 W9 Pre Post PostX)
    {g : JFrame} (hg : g.method = m) (hsize : g.locals.size = c.maxLocals) {argsL rest : List Value} (hlen : ∀ sig, parseMethodDescriptor y.desc = some sig → argsL.length = sig.parameters.length)
    (hstack : g.stack = argsL.reverse ++ rest) (hW : 2 * g.monitorRoom + (rest.map fun v => v.category).sum ≤ W9) (hdg : decode c.code g.pc = .ok (.invokestatic index, 3))
    (hpre : ∀ vm₁, s.WarmedH vm₁ → Pre ⟨T.setVm vm₁, locs, cells, slots⟩ argsL.toArray) :
    (∃ (v : Option Value) (vm₁ : Vm) (B : Pt), s.WarmedH vm₁ ∧ Stand p l e R s m args below meth c B.U B.locs B.cells B.slots ∧ Post ⟨T.setVm vm₁, locs, cells, slots⟩ argsL.toArray v B ∧
      ∀ target, Steps p.tables e below (B.U.setTop { g with pc := g.pc + 3, stack := v.toList ++ rest }) target → Steps p.tables e below (T.setTop g) target) ∨
    (∃ (q : Addr) (vm₁ : Vm) (B : Pt), s.WarmedH vm₁ ∧ Stand p l e R s m args below meth c B.U B.locs B.cells B.slots ∧ PostX ⟨T.setVm vm₁, locs, cells, slots⟩ argsL.toArray q B ∧
      Steps p.tables e below (T.setTop g) ((B.U.setTop { g with stack := rest }).pushFrame (.throwing q))) := by
  obtain ⟨mk, methM, cM, hnamed, hmethM, -, -, -, -, -, -, hsigM⟩ := Cond.codeWith_spec hcode
  have hstatic : methM.isStatic = true := Cond.static_spec hnamed hmethM hstat
  obtain ⟨kP, hkP, -⟩ := className_of_methodNamed hnamed
  have hinitP : kP.init = .initialized := Cond.initialized_spec (findClass_of_methodNamed hnamed) hkP hinit
  obtain ⟨vm₁, X₁, hstep₁⟩ := X.invokestatic hexec hown hlink hnamed hmethM hstatic hkP hinitP hy (g := g) hg (argsL := argsL) (rest := rest) (hlen _ hsigM) hstack hdg
  rcases hK m meth c ⟨T.setVm vm₁, locs, cells, slots⟩ { g with stack := rest } (.invokestatic index) mk argsL.toArray X₁ hg hsize hdg hW (X₁.named hnamed) (hpre vm₁ X₁.warmed) with ⟨v, B, X', hpost, hsteps⟩ | ⟨q, B, X', hpost, hsteps⟩
  · exact Or.inl ⟨v, vm₁, B, X₁.warmed, X', hpost, fun target h => hstep₁ _ fun acts => by rw [doInvoke_state]; exact hsteps.trans h⟩
  · exact Or.inr ⟨q, vm₁, B, X₁.warmed, X', hpost, hstep₁ _ fun acts => by rw [doInvoke_state]; exact hsteps⟩
theorem vx_callVW (X : Stand p l e R s m args below meth c T locs cells slots) (hexec : p.tables.exec = Jvm.exec) {own C : String} {index : Nat} {y : MethodName} {bytes : ByteArray} {maxL : Nat} {ret : Option FieldType} {hh : List (Nat × Nat × Nat × Nat)}
    (hown : s.vm.findClass own = some m.cls) (hlink : (Cond.methodLink own index y).before args s = true) (hinst : (Cond.instanceMethod y).before args s = true) (hsel : (Cond.selects C y y).before args s = true)
    (hcode : (Cond.codeWith y bytes maxL ret hh).before args s = true) (hy : y.cls ≠ "java/lang/invoke/MethodHandle" ∧ y.cls ≠ "java/lang/invoke/VarHandle")
    {W9 : Nat} {Pre : Pt → Array Value → Prop} {Post : Pt → Array Value → Option Value → Pt → Prop} (hK : Back l R p e below s args y 3 W9 Pre Post)
    {b : Addr} {cellB : Cell} (hcell : T.heap[b]? = some cellB) (hobj : cellB.vm.isStatics = false) (hcls : s.vm.findClass C = some cellB.cls)
    {g : JFrame} (hg : g.method = m) (hsize : g.locals.size = c.maxLocals) {argsL rest : List Value} (hlen : ∀ sig, parseMethodDescriptor y.desc = some sig → argsL.length = sig.parameters.length)
    (hstack : g.stack = argsL.reverse ++ .ref b :: rest) (hW : 2 * g.monitorRoom + (rest.map fun v => v.category).sum ≤ W9) (hdg : decode c.code g.pc = .ok (.invokevirtual index, 3))
    (hpre : ∀ vm₁, s.WarmedH vm₁ → Pre ⟨T.setVm vm₁, locs, cells, slots⟩ (Value.ref b :: argsL).toArray) :
    ∃ (v : Option Value) (vm₁ : Vm) (B : Pt), s.WarmedH vm₁ ∧ Stand p l e R s m args below meth c B.U B.locs B.cells B.slots ∧ Post ⟨T.setVm vm₁, locs, cells, slots⟩ (Value.ref b :: argsL).toArray v B ∧
      ∀ target, Steps p.tables e below (B.U.setTop { g with pc := g.pc + 3, stack := v.toList ++ rest }) target → Steps p.tables e below (T.setTop g) target := by
  obtain ⟨mk, methM, hnamed, hmethM, hstM, habM⟩ := Cond.instanceMethod_spec hinst
  obtain ⟨m8, methM', cM, hn8, hmethM', -, -, -, -, -, -, hsigM⟩ := Cond.codeWith_spec hcode
  cases Option.some.inj (hn8.symm.trans hnamed)
  cases hmethM.symm.trans hmethM'
  obtain ⟨c2, r2, m2, q1, q2, q3, q4, kP, hkP, hkPi⟩ := Cond.selects_spec hsel
  cases hcls.symm.trans q1
  cases (State.methodFound?_of_named hnamed hy).symm.trans q2
  cases hnamed.symm.trans q3
  have hselP : selectMethod e.platform s.vm cellB.cls mk = .method mk := by rw [Launch.admits_selectMethod X.admits]; exact q4
  obtain ⟨vm₁, X₁, hstep₁⟩ := X.invokevirtual hexec hown hlink hnamed hmethM hstM hkP hkPi hy (a := b) (cell := cellB) hcell
    (fun z h => by rw [h] at hobj; cases hobj) hselP hmethM habM hkP hkPi (g := g) hg (argsL := argsL) (rest := rest) (hlen _ hsigM) hstack hdg
  obtain ⟨v, B, X', hpost, hsteps⟩ := hK m meth c ⟨T.setVm vm₁, locs, cells, slots⟩ { g with stack := rest } (.invokevirtual index) mk (Value.ref b :: argsL).toArray X₁ hg hsize hdg hW (X₁.named hnamed) (hpre vm₁ X₁.warmed)
  exact ⟨v, vm₁, B, X₁.warmed, X', hpost, fun target h => hstep₁ _ fun acts => by rw [doInvoke_state]; exact hsteps.trans h⟩
abbrev vx_CVW (R : Room) (s : State) (args : Array Value) (own C : String) (index : Nat) (y : MethodName) (bytes : ByteArray) (maxL : Nat) (ret : Option FieldType) (hh : List (Nat × Nat × Nat × Nat)) (ws : List Cond) (rm : Room) (mc ms n : Nat) : Prop :=
  (rm.cells = mc ∧ rm.slots = ms ∧ rm.frames + 1 ≤ R.frames ∧ 8 + (maxL + 11) + rm.locals ≤ R.locals ∧ (∀ w ∈ ws, ∀ (a' : Array Value) (U : State), s.WarmedH U.vm → w.before a' U = true) ∧ Cond.codeWith y bytes maxL ret hh ∈ ws) ∧
  (Cond.codeWith y bytes maxL ret hh).before args s = true ∧ (Cond.initialized y.cls).before args s = true ∧ (y.cls ≠ "java/lang/invoke/MethodHandle" ∧ y.cls ≠ "java/lang/invoke/VarHandle") ∧
  (∀ sig, parseMethodDescriptor y.desc = some sig → n = sig.parameters.length) ∧ (Cond.methodLink own index y).before args s = true ∧ (Cond.instanceMethod y).before args s = true ∧ (Cond.selects C y y).before args s = true
theorem vx_cwVW {own C : String} {index maxL mc ms : Nat} {y : MethodName} {bytes : ByteArray} {ret : Option FieldType} {hh : List (Nat × Nat × Nat × Nat)} {Ts ws ws' : List Cond} {rm : Room} (n : Nat) (ht : ∀ w ∈ Ts, w.before args s = true) (hT : GoodIn Ts (wsV own index C y ws)) (hw : ws = Cond.codeWith y bytes maxL ret hh :: ws') (hrc : rm.cells = mc) (hrs : rm.slots = ms)
    (hd : y.cls = C ∧ y.cls ≠ "java/lang/invoke/MethodHandle" ∧ y.cls ≠ "java/lang/invoke/VarHandle" ∧ (parseMethodDescriptor y.desc).map (fun d => d.parameters.length) = some n) (hR : rm.frames + 1 ≤ R.frames ∧ 8 + (maxL + 11) + rm.locals ≤ R.locals) :
    vx_CVW R s args own C index y bytes maxL ret hh ws rm mc ms n := by
  obtain ⟨hC, hd⟩ := hd
  subst hC
  have ok : ∀ w ∈ wsV own index y.cls y ws, w.before args s = true := fun w h => ht w (hT w h).1
  have hG : GoodIn Ts ws := fun w h => hT w (by unfold wsV; exact List.mem_append_right _ h)
  have hc : Cond.codeWith y bytes maxL ret hh ∈ ws := by rw [hw]; exact List.mem_cons_self
  refine ⟨⟨hrc, hrs, hR.1, hR.2, pay_in ht hG, hc⟩, ht _ (hG _ hc).1, ok _ (by simp [wsV]), ⟨hd.1, hd.2.1⟩, fun sig h => ?_, ok _ (by simp [wsV]), ok _ (by simp [wsV]), ok _ (by simp [wsV])⟩
  have h2 := hd.2.2
  rw [h] at h2
  exact (Option.some.inj h2).symm
theorem vx_runVW {y : MethodName} {bytes cc : ByteArray} {maxL nL mc ms n index : Nat} {ret : Option FieldType} {hh : List (Nat × Nat × Nat × Nat)} {ws : List Cond} {rm : Room} {Pc : Array Value → State → Prop} {Qc : Array Value → State → Outcome → State → Prop} {free : Addr → Prop} {Ts : List Cond} {own C : String} {b : Addr} {As rest : List Value} {g : JFrame}
    (S : CallFix p m c cc nL s args Ts own) (hM : Met l y ws rm Pc Qc mc ms free) (cw : vx_CVW R s args own C index y bytes maxL ret hh ws rm mc ms n) (hp : PreV s H C b Pc As)
    (hg : g.method = m) (hn : As.length = n) (hsize : g.locals.size = nL) (hstack : g.stack = As.reverse ++ .ref b :: rest) (hW : 2 * g.monitorRoom + (rest.map fun v => v.category).sum ≤ 8) (hdg : decode cc g.pc = .ok (.invokevirtual index, 3)) (hf : cells + mc ≤ R.cells ∧ slots + ms ≤ R.slots) :
    va_Run p l e R s m args below meth c H locs cells slots mc ms g rest (Qc (Value.ref b :: As).toArray) free := by
  obtain ⟨⟨hrc, hrs, hfr, hlo, hws, hcw⟩, hcode, hini, hy, hlen, hl, hin, hse⟩ := cw
  have hK : Back l R p e below s args y 3 8 (PreOf R mc ms Pc) (PostOf Qc mc ms free) := va_backW (hh := hh) (bytes := bytes) (maxL := maxL) (ret := ret) hM hp.1 hrc hrs hfr hlo hws hcw (fun a' U hW => word_at hW (Or.inl (by first | rfl | simp [Cond.onTables, Cond.keeps, Cond.steady])) hini)
  obtain ⟨hx, hb, hml, ho, -⟩ := S
  obtain ⟨-, ⟨cellB, hcB, hoB, hclB⟩, hPc⟩ := hp
  intro T hT X
  obtain ⟨v, vm₁, ⟨U', l2, c2, s2⟩, hW₁, X', ⟨g', mk, t, L, e1, e2, hq, h1, hL, h2, h3⟩, st⟩ := vx_callVW X hx (C := C) (hh := hh) (bytes := bytes) (maxL := maxL) (ret := ret) ho hl hin hse hcode hy hK (by rw [hT]; exact hcB) hoB hclB hg (hsize.trans hml.symm) (argsL := As) (rest := rest) (fun sig h => hn.trans (hlen sig h)) hstack hW (by rw [hb]; exact hdg)
    (fun vm₁ hW₁ => ⟨hf.1, hf.2, hPc (T.setVm vm₁) hT hW₁⟩)
  dsimp only [Pt.U, Pt.locs, Pt.cells, Pt.slots] at X' e1 e2 h1 h2 h3 st
  subst h1; subst h2; subst h3
  exact ⟨v, (T.setVm vm₁).calling g' mk (Value.ref b :: As).toArray, t, U', L, hT, X', hL, e1, e2, hq, st⟩
section
variable {y : MethodName} {bytes cc : ByteArray} {maxL nL mc ms n index : Nat} {ret : Option FieldType} {ws : List Cond} {rm : Room} {Pc : Array Value → State → Prop} {Qc : Array Value → State → Outcome → State → Prop} {XC : String → State → State → Prop} {free : Addr → Prop} {Ts : List Cond} {own C : String} {b : Addr} {As rest : List Value} {g : JFrame}
theorem vx_runVX {hh : List (Nat × Nat × Nat × Nat)} (S : CallFix p m c cc nL s args Ts own) (hM : vx_Met l y ws rm Pc Qc XC mc ms free) (cw : vx_CVW R s args own C index y bytes maxL ret hh ws rm mc ms n) (hp : PreV s H C b Pc As)
    (hg : g.method = m) (hn : As.length = n) (hsize : g.locals.size = nL) (hstack : g.stack = As.reverse ++ .ref b :: rest) (hW : 2 * g.monitorRoom + (rest.map fun v => v.category).sum ≤ 8) (hdg : decode cc g.pc = .ok (.invokevirtual index, 3)) (hf : cells + mc ≤ R.cells ∧ slots + ms ≤ R.slots) :
    vx_Run p l e R s m args below meth c H locs cells slots mc ms g rest (Qc (Value.ref b :: As).toArray) XC free := by
  obtain ⟨⟨hrc, hrs, hfr, hlo, hws, hcw⟩, hcode, hini, hy, hlen, hl, hin, hse⟩ := cw
  have hK : vx_Back l R p e below s args y 3 8 (PreOf R mc ms Pc) (PostOf Qc mc ms free) (vx_Post XC mc ms free) := vx_backW (hh := hh) (bytes := bytes) (maxL := maxL) (ret := ret) hM hp.1 hrc hrs hfr hlo hws hcw (fun a' U hW => word_at hW (Or.inl (by first | rfl | simp [Cond.onTables, Cond.keeps, Cond.steady])) hini)
  obtain ⟨hx, hb, hml, ho, -⟩ := S
  obtain ⟨-, ⟨cellB, hcB, hoB, hclB⟩, hPc⟩ := hp
  intro T hT X
  rcases vx_callVX X hx (C := C) (hh := hh) (bytes := bytes) (maxL := maxL) (ret := ret) ho hl hin hse hcode hy hK (by rw [hT]; exact hcB) hoB hclB hg (hsize.trans hml.symm) (argsL := As) (rest := rest) (fun sig h => hn.trans (hlen sig h)) hstack hW (by rw [hb]; exact hdg)
    (fun vm₁ hW₁ => ⟨hf.1, hf.2, hPc (T.setVm vm₁) hT hW₁⟩) with ⟨v, vm₁, ⟨U', l2, c2, s2⟩, hW₁, X', ⟨g', mk, t, L, e1, e2, hq, h1, hL, h2, h3⟩, st⟩ | ⟨q, vm₁, ⟨U', l2, c2, s2⟩, hW₁, X', ⟨g', mk, t, L, E, ce, e1, e2, hq, hce, hcv, hcl, h1, hL, h2, h3⟩, st⟩
  · dsimp only [Pt.U, Pt.locs, Pt.cells, Pt.slots] at X' e1 e2 h1 h2 h3 st
    subst h1; subst h2; subst h3
    exact Or.inl ⟨v, (T.setVm vm₁).calling g' mk (Value.ref b :: As).toArray, t, U', L, hT, X', hL, e1, e2, hq, st⟩
  · dsimp only [Pt.U, Pt.locs, Pt.cells, Pt.slots] at X' e1 e2 h1 h2 h3 st hcl
    subst h1; subst h2; subst h3
    exact Or.inr ⟨q, (T.setVm vm₁).calling g' mk (Value.ref b :: As).toArray, t, U', L, E, ce, hT, X', hL, e1, e2, hq, hce, hcv, vx_cls hW₁ hcl, st⟩
theorem vx_runSX {hh : List (Nat × Nat × Nat × Nat)} (S : CallFix p m c cc nL s args Ts own) (hM : vx_Met l y ws rm Pc Qc XC mc ms free) (cw : vx_CSW R s args own index y bytes maxL ret hh ws rm mc ms n) (hp : PreS s H Pc As)
    (hg : g.method = m) (hn : As.length = n) (hsize : g.locals.size = nL) (hstack : g.stack = As.reverse ++ rest) (hW : 2 * g.monitorRoom + (rest.map fun v => v.category).sum ≤ 8) (hdg : decode cc g.pc = .ok (.invokestatic index, 3)) (hf : cells + mc ≤ R.cells ∧ slots + ms ≤ R.slots) :
    vx_Run p l e R s m args below meth c H locs cells slots mc ms g rest (Qc As.toArray) XC free := by
  obtain ⟨⟨hrc, hrs, hfr, hlo, hws, hcw⟩, hcode, hini, hy, hlen, hl, hstt⟩ := cw
  have hK : vx_Back l R p e below s args y 3 8 (PreOf R mc ms Pc) (PostOf Qc mc ms free) (vx_Post XC mc ms free) := vx_backW (hh := hh) (bytes := bytes) (maxL := maxL) (ret := ret) hM hp.1 hrc hrs hfr hlo hws hcw (fun a' U hW => word_at hW (Or.inl (by first | rfl | simp [Cond.onTables, Cond.keeps, Cond.steady])) hini)
  obtain ⟨hx, hb, hml, ho, -⟩ := S
  intro T hT X
  rcases vx_callSX X hx (hh := hh) (bytes := bytes) (maxL := maxL) (ret := ret) ho hl hstt hini hcode hy hK hg (hsize.trans hml.symm) (argsL := As) (rest := rest) (fun sig h => hn.trans (hlen sig h)) hstack hW (by rw [hb]; exact hdg)
    (fun vm₁ hW₁ => ⟨hf.1, hf.2, hp.2 (T.setVm vm₁) hT hW₁⟩) with ⟨v, vm₁, ⟨U', l2, c2, s2⟩, hW₁, X', ⟨g', mk, t, L, e1, e2, hq, h1, hL, h2, h3⟩, st⟩ | ⟨q, vm₁, ⟨U', l2, c2, s2⟩, hW₁, X', ⟨g', mk, t, L, E, ce, e1, e2, hq, hce, hcv, hcl, h1, hL, h2, h3⟩, st⟩
  · dsimp only [Pt.U, Pt.locs, Pt.cells, Pt.slots] at X' e1 e2 h1 h2 h3 st
    subst h1; subst h2; subst h3
    exact Or.inl ⟨v, (T.setVm vm₁).calling g' mk As.toArray, t, U', L, hT, X', hL, e1, e2, hq, st⟩
  · dsimp only [Pt.U, Pt.locs, Pt.cells, Pt.slots] at X' e1 e2 h1 h2 h3 st hcl
    subst h1; subst h2; subst h3
    exact Or.inr ⟨q, (T.setVm vm₁).calling g' mk As.toArray, t, U', L, E, ce, hT, X', hL, e1, e2, hq, hce, hcv, vx_cls hW₁ hcl, st⟩
end
end VXH
theorem vx_ofWH {l : Launch} {y : MethodName} {ws ws' : List Cond} {rm : Room} {Pc : Array Value → State → Prop} {Qc : Array Value → State → Outcome → State → Prop} {XC : String → State → State → Prop} {mc ms : Nat} {free : Addr → Prop} {cc : ByteArray} {maxL : Nat} {ret : Option FieldType} {hh : List (Nat × Nat × Nat × Nat)}
    (hy : plainName y.cls = true) (hw : ws = Cond.codeWith y cc maxL ret hh :: ws')
    (body : ∀ p e s m args below meth c s₁, BodyLoose p l y (headSpec ws rm) cc maxL ret e s m args below meth c s₁ → c.maxLocals = maxL → Pc args s →
      W p l e (headSpec ws rm).room s m args below meth c s.heap [] 0 0 (vx_MQ below Qc XC args s mc ms free) (entryFrame m args maxL)) : vx_Met l y ws rm Pc Qc XC mc ms free := by
  refine MetFree.of_bodyS (code := cc) (maxLocals := maxL) (ret := ret) hy ?_ ?_
  · intro args s m h hn
    obtain ⟨m9, meth, c, hn9, h1, h2, h3, h4, -, h5, h6, -⟩ := Cond.codeWith_spec (atoms_spec (ws := ws) h _ (by rw [hw]; exact List.mem_cons_self))
    cases hn.symm.trans hn9
    exact ⟨meth, c, h1, h2, h3, h4, h5, h6⟩
  · intro p e s m args below meth c s₁ B hml hP _
    have hh0 : s₁.heap = s.heap := by rw [B.state]; rfl
    obtain ⟨t, a1, o, b1, b2, b3⟩ := body p e s m args below meth c s₁ B hml hP s₁ hh0 (Stand.of_body B)
    exact ⟨t, o, a1, b1, b2, b3⟩
/-! ===== END ===== -/

/-! ===== BEGIN printed: names, fields, word lists, decode rows ===== -/
def RX0 : String := "Fishclock$Boats"
def TX0 : u_T := fun k => match k with
  | 0 => ("Fishclock$Boats", "quota", "LFishclock$Row;", true)
  | 1 => ("Fishclock$Boats", "landedOfKind", "LFishclock$Row;", true)
  | 2 => ("Fishclock$Boats", "landed", "LFishclock$Row;", true)
  | 3 => ("Fishclock$Boats", "aid", "LFishclock$Row;", true)
  | 4 => ("Fishclock$Boats", "isDay", "LFishclock$Row;", true)
  | 5 => ("Fishclock$Boats", "account", "LFishclock$Row;", true)
  | _ => ("Fishclock$Boats", "waiting", "LFishclock$Row;", true)
def tyX0 : Nat → FieldType := fun k => match k with
  | 0 => .object "Fishclock$Row"
  | 1 => .object "Fishclock$Row"
  | 2 => .object "Fishclock$Row"
  | 3 => .object "Fishclock$Row"
  | 4 => .object "Fishclock$Row"
  | 5 => .object "Fishclock$Row"
  | _ => .object "Fishclock$Row"
theorem nmX0 : ∀ a, a < 7 → ∀ b, b < 7 → a ≠ b → (TX0 a).2.1 ≠ (TX0 b).2.1 := by decide +kernel
theorem tyX0_ok : ∀ k, k < 7 → parseFieldDescriptor (TX0 k).2.2.1 = some (tyX0 k) := by decide +kernel
abbrev cX0_init : ByteArray := prog_2_method_1_code
def yX0_init : MethodName := ⟨RX0, "<init>", "()V"⟩
abbrev cX0_placeOf : ByteArray := prog_2_method_2_code
def yX0_placeOf : MethodName := ⟨RX0, "placeOf", "(II)I"⟩
abbrev cX0_addLanded : ByteArray := prog_2_method_3_code
def yX0_addLanded : MethodName := ⟨RX0, "addLanded", "(III)V"⟩
abbrev cX0_isAboveQuota : ByteArray := prog_2_method_4_code
def yX0_isAboveQuota : MethodName := ⟨RX0, "isAboveQuota", "(II)Z"⟩
abbrev cX0_waits : ByteArray := prog_2_method_5_code
def yX0_waits : MethodName := ⟨RX0, "waits", "(IZ)Z"⟩
abbrev cX0_countWaiting : ByteArray := prog_2_method_6_code
def yX0_countWaiting : MethodName := ⟨RX0, "countWaiting", "(Z)I"⟩
abbrev cX0_findWaiting : ByteArray := prog_2_method_7_code
def yX0_findWaiting : MethodName := ⟨RX0, "findWaiting", "(ZI)I"⟩
def RX1 : String := "Fishclock$Boxes"
def TX1 : u_T := fun k => match k with
  | 0 => ("Fishclock$Boxes", "boat", "LFishclock$Row;", true)
  | 1 => ("Fishclock$Boxes", "rank", "LFishclock$Row;", true)
  | 2 => ("Fishclock$Boxes", "kilos", "LFishclock$Row;", true)
  | 3 => ("Fishclock$Boxes", "real", "LFishclock$Row;", true)
  | 4 => ("Fishclock$Boxes", "state", "LFishclock$Row;", true)
  | 5 => ("Fishclock$Boxes", "lot", "LFishclock$Row;", true)
  | 6 => ("Fishclock$Boxes", "buyer", "LFishclock$Row;", true)
  | 7 => ("Fishclock$Boxes", "price", "LFishclock$Row;", true)
  | 8 => ("Fishclock$Boxes", "soldTick", "LFishclock$Row;", true)
  | 9 => ("Fishclock$Boxes", "soldDay", "LFishclock$Row;", true)
  | 10 => ("Fishclock$Boxes", "wasCarried", "LFishclock$Row;", true)
  | 11 => ("Fishclock$Boxes", "isClaimed", "LFishclock$Row;", true)
  | 12 => ("Fishclock$Boxes", "sums", "LFishclock$Row;", true)
  | _ => ("Fishclock$Boxes", "count", "I", false)
def tyX1 : Nat → FieldType := fun k => match k with
  | 0 => .object "Fishclock$Row"
  | 1 => .object "Fishclock$Row"
  | 2 => .object "Fishclock$Row"
  | 3 => .object "Fishclock$Row"
  | 4 => .object "Fishclock$Row"
  | 5 => .object "Fishclock$Row"
  | 6 => .object "Fishclock$Row"
  | 7 => .object "Fishclock$Row"
  | 8 => .object "Fishclock$Row"
  | 9 => .object "Fishclock$Row"
  | 10 => .object "Fishclock$Row"
  | 11 => .object "Fishclock$Row"
  | 12 => .object "Fishclock$Row"
  | _ => .int
theorem nmX1 : ∀ a, a < 14 → ∀ b, b < 14 → a ≠ b → (TX1 a).2.1 ≠ (TX1 b).2.1 := by decide +kernel
theorem tyX1_ok : ∀ k, k < 14 → parseFieldDescriptor (TX1 k).2.2.1 = some (tyX1 k) := by decide +kernel
abbrev cX1_init : ByteArray := prog_3_method_1_code
def yX1_init : MethodName := ⟨RX1, "<init>", "()V"⟩
abbrev cX1_rankOf : ByteArray := prog_3_method_2_code
def yX1_rankOf : MethodName := ⟨RX1, "rankOf", "(III)I"⟩
abbrev cX1_kindOf : ByteArray := prog_3_method_3_code
def yX1_kindOf : MethodName := ⟨RX1, "kindOf", "(I)I"⟩
abbrev cX1_sizeOf : ByteArray := prog_3_method_4_code
def yX1_sizeOf : MethodName := ⟨RX1, "sizeOf", "(I)I"⟩
abbrev cX1_freshOf : ByteArray := prog_3_method_5_code
def yX1_freshOf : MethodName := ⟨RX1, "freshOf", "(I)I"⟩
abbrev cX1_sumOf : ByteArray := prog_3_method_6_code
def yX1_sumOf : MethodName := ⟨RX1, "sumOf", "(I)I"⟩
abbrev cX1_add : ByteArray := prog_3_method_7_code
def yX1_add : MethodName := ⟨RX1, "add", "(IIIII)I"⟩
abbrev cX1_isWaiting : ByteArray := prog_3_method_8_code
def yX1_isWaiting : MethodName := ⟨RX1, "isWaiting", "(I)Z"⟩
abbrev cX1_countWaiting : ByteArray := prog_3_method_9_code
def yX1_countWaiting : MethodName := ⟨RX1, "countWaiting", "()I"⟩
abbrev cX1_move : ByteArray := prog_3_method_10_code
def yX1_move : MethodName := ⟨RX1, "move", "(II)V"⟩
abbrev cX1_sell : ByteArray := prog_3_method_11_code
def yX1_sell : MethodName := ⟨RX1, "sell", "(III)V"⟩
abbrev cX1_canBeCarried : ByteArray := prog_3_method_12_code
def yX1_canBeCarried : MethodName := ⟨RX1, "canBeCarried", "(I)Z"⟩
abbrev cX1_carry : ByteArray := prog_3_method_13_code
def yX1_carry : MethodName := ⟨RX1, "carry", "(I)V"⟩
abbrev cX1_centsLacking : ByteArray := prog_3_method_14_code
def yX1_centsLacking : MethodName := ⟨RX1, "centsLacking", "(I)I"⟩
def RX2 : String := "Fishclock$Buyers"
def TX2 : u_T := fun k => match k with
  | 0 => ("Fishclock$Buyers", "guarantee", "LFishclock$Row;", true)
  | 1 => ("Fishclock$Buyers", "delay", "LFishclock$Row;", true)
  | 2 => ("Fishclock$Buyers", "owed", "LFishclock$Row;", true)
  | 3 => ("Fishclock$Buyers", "bought", "LFishclock$Row;", true)
  | _ => ("Fishclock$Buyers", "line", "LFishclock$Row;", true)
def tyX2 : Nat → FieldType := fun k => match k with
  | 0 => .object "Fishclock$Row"
  | 1 => .object "Fishclock$Row"
  | 2 => .object "Fishclock$Row"
  | 3 => .object "Fishclock$Row"
  | _ => .object "Fishclock$Row"
theorem nmX2 : ∀ a, a < 5 → ∀ b, b < 5 → a ≠ b → (TX2 a).2.1 ≠ (TX2 b).2.1 := by decide +kernel
theorem tyX2_ok : ∀ k, k < 5 → parseFieldDescriptor (TX2 k).2.2.1 = some (tyX2 k) := by decide +kernel
abbrev cX2_init : ByteArray := prog_4_method_1_code
def yX2_init : MethodName := ⟨RX2, "<init>", "()V"⟩
abbrev cX2_leftOf : ByteArray := prog_4_method_2_code
def yX2_leftOf : MethodName := ⟨RX2, "leftOf", "(I)I"⟩
abbrev cX2_greatestDelay : ByteArray := prog_4_method_3_code
def yX2_greatestDelay : MethodName := ⟨RX2, "greatestDelay", "()I"⟩
def RX3 : String := "Fishclock$Clocks"
def TX3 : u_T := fun k => match k with
  | 0 => ("Fishclock$Clocks", "state", "LFishclock$Row;", true)
  | 1 => ("Fishclock$Clocks", "lot", "LFishclock$Row;", true)
  | 2 => ("Fishclock$Clocks", "price", "LFishclock$Row;", true)
  | 3 => ("Fishclock$Clocks", "winner", "LFishclock$Row;", true)
  | 4 => ("Fishclock$Clocks", "lotsLeft", "LFishclock$Row;", true)
  | 5 => ("Fishclock$Clocks", "until", "LFishclock$Row;", true)
  | 6 => ("Fishclock$Clocks", "step", "LFishclock$Row;", true)
  | _ => ("Fishclock$Clocks", "power", "LFishclock$Row;", true)
def tyX3 : Nat → FieldType := fun k => match k with
  | 0 => .object "Fishclock$Row"
  | 1 => .object "Fishclock$Row"
  | 2 => .object "Fishclock$Row"
  | 3 => .object "Fishclock$Row"
  | 4 => .object "Fishclock$Row"
  | 5 => .object "Fishclock$Row"
  | 6 => .object "Fishclock$Row"
  | _ => .object "Fishclock$Row"
theorem nmX3 : ∀ a, a < 8 → ∀ b, b < 8 → a ≠ b → (TX3 a).2.1 ≠ (TX3 b).2.1 := by decide +kernel
theorem tyX3_ok : ∀ k, k < 8 → parseFieldDescriptor (TX3 k).2.2.1 = some (tyX3 k) := by decide +kernel
abbrev cX3_init : ByteArray := prog_5_method_1_code
def yX3_init : MethodName := ⟨RX3, "<init>", "()V"⟩
def RX4 : String := "Fishclock$Kinds"
def TX4 : u_T := fun k => match k with
  | 0 => ("Fishclock$Kinds", "start", "LFishclock$Row;", true)
  | 1 => ("Fishclock$Kinds", "minimum", "LFishclock$Row;", true)
  | _ => ("Fishclock$Kinds", "hall", "LFishclock$Row;", true)
def tyX4 : Nat → FieldType := fun k => match k with
  | 0 => .object "Fishclock$Row"
  | 1 => .object "Fishclock$Row"
  | _ => .object "Fishclock$Row"
theorem nmX4 : ∀ a, a < 3 → ∀ b, b < 3 → a ≠ b → (TX4 a).2.1 ≠ (TX4 b).2.1 := by decide +kernel
theorem tyX4_ok : ∀ k, k < 3 → parseFieldDescriptor (TX4 k).2.2.1 = some (tyX4 k) := by decide +kernel
abbrev cX4_init : ByteArray := prog_6_method_1_code
def yX4_init : MethodName := ⟨RX4, "<init>", "()V"⟩
abbrev cX4_minimumOf : ByteArray := prog_6_method_2_code
def yX4_minimumOf : MethodName := ⟨RX4, "minimumOf", "(I)I"⟩
def RX5 : String := "Fishclock$Lorries"
def TX5 : u_T := fun k => match k with
  | 0 => ("Fishclock$Lorries", "buyer", "LFishclock$Row;", true)
  | 1 => ("Fishclock$Lorries", "tick", "LFishclock$Row;", true)
  | 2 => ("Fishclock$Lorries", "many", "LFishclock$Row;", true)
  | 3 => ("Fishclock$Lorries", "loaded", "LFishclock$Row;", true)
  | _ => ("Fishclock$Lorries", "count", "I", false)
def tyX5 : Nat → FieldType := fun k => match k with
  | 0 => .object "Fishclock$Row"
  | 1 => .object "Fishclock$Row"
  | 2 => .object "Fishclock$Row"
  | 3 => .object "Fishclock$Row"
  | _ => .int
theorem nmX5 : ∀ a, a < 5 → ∀ b, b < 5 → a ≠ b → (TX5 a).2.1 ≠ (TX5 b).2.1 := by decide +kernel
theorem tyX5_ok : ∀ k, k < 5 → parseFieldDescriptor (TX5 k).2.2.1 = some (tyX5 k) := by decide +kernel
abbrev cX5_init : ByteArray := prog_7_method_1_code
def yX5_init : MethodName := ⟨RX5, "<init>", "()V"⟩
abbrev cX5_add : ByteArray := prog_7_method_2_code
def yX5_add : MethodName := ⟨RX5, "add", "(III)I"⟩
def RX6 : String := "Fishclock$Lots"
def TX6 : u_T := fun k => match k with
  | 0 => ("Fishclock$Lots", "boat", "LFishclock$Row;", true)
  | 1 => ("Fishclock$Lots", "rank", "LFishclock$Row;", true)
  | 2 => ("Fishclock$Lots", "hall", "LFishclock$Row;", true)
  | 3 => ("Fishclock$Lots", "first", "LFishclock$Row;", true)
  | 4 => ("Fishclock$Lots", "behind", "LFishclock$Row;", true)
  | 5 => ("Fishclock$Lots", "order", "LFishclock$Row;", true)
  | 6 => ("Fishclock$Lots", "alike", "LFishclock$Row;", true)
  | 7 => ("Fishclock$Lots", "count", "I", false)
  | _ => ("Fishclock$Lots", "reserved", "I", false)
def tyX6 : Nat → FieldType := fun k => match k with
  | 0 => .object "Fishclock$Row"
  | 1 => .object "Fishclock$Row"
  | 2 => .object "Fishclock$Row"
  | 3 => .object "Fishclock$Row"
  | 4 => .object "Fishclock$Row"
  | 5 => .object "Fishclock$Row"
  | 6 => .object "Fishclock$Row"
  | 7 => .int
  | _ => .int
theorem nmX6 : ∀ a, a < 9 → ∀ b, b < 9 → a ≠ b → (TX6 a).2.1 ≠ (TX6 b).2.1 := by decide +kernel
theorem tyX6_ok : ∀ k, k < 9 → parseFieldDescriptor (TX6 k).2.2.1 = some (tyX6 k) := by decide +kernel
abbrev cX6_init : ByteArray := prog_8_method_1_code
def yX6_init : MethodName := ⟨RX6, "<init>", "()V"⟩
abbrev cX6_clear : ByteArray := prog_8_method_2_code
def yX6_clear : MethodName := ⟨RX6, "clear", "()V"⟩
abbrev cX6_add : ByteArray := prog_8_method_3_code
def yX6_add : MethodName := ⟨RX6, "add", "(III)V"⟩
abbrev cX6_addBox : ByteArray := prog_8_method_4_code
def yX6_addBox : MethodName := ⟨RX6, "addBox", "(II)I"⟩
abbrev cX6_left : ByteArray := prog_8_method_5_code
def yX6_left : MethodName := ⟨RX6, "left", "(I)I"⟩
abbrev cX6_boxAt : ByteArray := prog_8_method_6_code
def yX6_boxAt : MethodName := ⟨RX6, "boxAt", "(II)I"⟩
abbrev cX6_countIn : ByteArray := prog_8_method_7_code
def yX6_countIn : MethodName := ⟨RX6, "countIn", "(I)I"⟩
abbrev cX6_nextIn : ByteArray := prog_8_method_8_code
def yX6_nextIn : MethodName := ⟨RX6, "nextIn", "(II)I"⟩
def RX7 : String := "Fishclock$Presses"
def TX7 : u_T := fun k => match k with
  | 0 => ("Fishclock$Presses", "price", "LFishclock$Row;", true)
  | 1 => ("Fishclock$Presses", "tick", "LFishclock$Row;", true)
  | _ => ("Fishclock$Presses", "comes", "LFishclock$Row;", true)
def tyX7 : Nat → FieldType := fun k => match k with
  | 0 => .object "Fishclock$Row"
  | 1 => .object "Fishclock$Row"
  | _ => .object "Fishclock$Row"
theorem nmX7 : ∀ a, a < 3 → ∀ b, b < 3 → a ≠ b → (TX7 a).2.1 ≠ (TX7 b).2.1 := by decide +kernel
theorem tyX7_ok : ∀ k, k < 3 → parseFieldDescriptor (TX7 k).2.2.1 = some (tyX7 k) := by decide +kernel
abbrev cX7_init : ByteArray := prog_9_method_1_code
def yX7_init : MethodName := ⟨RX7, "<init>", "()V"⟩
abbrev cX7_placeOf : ByteArray := prog_9_method_2_code
def yX7_placeOf : MethodName := ⟨RX7, "placeOf", "(II)I"⟩
abbrev cX7_make : ByteArray := prog_9_method_3_code
def yX7_make : MethodName := ⟨RX7, "make", "(IIIII)V"⟩
abbrev cX7_forget : ByteArray := prog_9_method_4_code
def yX7_forget : MethodName := ⟨RX7, "forget", "(I)V"⟩
abbrev cX7_isMade : ByteArray := prog_9_method_5_code
def yX7_isMade : MethodName := ⟨RX7, "isMade", "(II)Z"⟩
abbrev cX7_isHeard : ByteArray := prog_9_method_6_code
def yX7_isHeard : MethodName := ⟨RX7, "isHeard", "(III)Z"⟩
abbrev cX7_isAnyHeard : ByteArray := prog_9_method_7_code
def yX7_isAnyHeard : MethodName := ⟨RX7, "isAnyHeard", "(II)Z"⟩
abbrev cX7_priceOf : ByteArray := prog_9_method_8_code
def yX7_priceOf : MethodName := ⟨RX7, "priceOf", "(II)I"⟩
abbrev cX7_isAhead : ByteArray := prog_9_method_9_code
def yX7_isAhead : MethodName := ⟨RX7, "isAhead", "(III)Z"⟩
def RX8 : String := "Fishclock$Row"
def TX8 : u_T := fun k => match k with
  | _ => ("Fishclock$Row", "cells", "[I", true)
def tyX8 : Nat → FieldType := fun k => match k with
  | _ => .array .int
theorem nmX8 : ∀ a, a < 1 → ∀ b, b < 1 → a ≠ b → (TX8 a).2.1 ≠ (TX8 b).2.1 := by decide +kernel
theorem tyX8_ok : ∀ k, k < 1 → parseFieldDescriptor (TX8 k).2.2.1 = some (tyX8 k) := by decide +kernel
abbrev cX8_init : ByteArray := prog_10_method_1_code
def yX8_init : MethodName := ⟨RX8, "<init>", "(II)V"⟩
abbrev cX8_at : ByteArray := prog_10_method_2_code
def yX8_at : MethodName := ⟨RX8, "at", "(I)I"⟩
abbrev cX8_put : ByteArray := prog_10_method_3_code
def yX8_put : MethodName := ⟨RX8, "put", "(II)V"⟩
abbrev cX8_add : ByteArray := prog_10_method_4_code
def yX8_add : MethodName := ⟨RX8, "add", "(II)V"⟩
abbrev cX8_swap : ByteArray := prog_10_method_5_code
def yX8_swap : MethodName := ⟨RX8, "swap", "(II)I"⟩
abbrev cX8_fill : ByteArray := prog_10_method_6_code
def yX8_fill : MethodName := ⟨RX8, "fill", "(I)V"⟩
def RX9 : String := "Fishclock"
def TX9 : u_T := fun k => match k with
  | 0 => ("Fishclock", "boats", "LFishclock$Boats;", true)
  | 1 => ("Fishclock", "kinds", "LFishclock$Kinds;", true)
  | 2 => ("Fishclock", "buyers", "LFishclock$Buyers;", true)
  | 3 => ("Fishclock", "boxes", "LFishclock$Boxes;", true)
  | 4 => ("Fishclock", "lots", "LFishclock$Lots;", true)
  | 5 => ("Fishclock", "clocks", "LFishclock$Clocks;", true)
  | 6 => ("Fishclock", "presses", "LFishclock$Presses;", true)
  | 7 => ("Fishclock", "lorries", "LFishclock$Lorries;", true)
  | 8 => ("Fishclock", "now", "I", false)
  | 9 => ("Fishclock", "day", "I", false)
  | 10 => ("Fishclock", "isOpen", "Z", false)
  | _ => ("Fishclock", "drawn", "I", false)
def tyX9 : Nat → FieldType := fun k => match k with
  | 0 => .object "Fishclock$Boats"
  | 1 => .object "Fishclock$Kinds"
  | 2 => .object "Fishclock$Buyers"
  | 3 => .object "Fishclock$Boxes"
  | 4 => .object "Fishclock$Lots"
  | 5 => .object "Fishclock$Clocks"
  | 6 => .object "Fishclock$Presses"
  | 7 => .object "Fishclock$Lorries"
  | 8 => .int
  | 9 => .int
  | 10 => .boolean
  | _ => .int
theorem nmX9 : ∀ a, a < 12 → ∀ b, b < 12 → a ≠ b → (TX9 a).2.1 ≠ (TX9 b).2.1 := by decide +kernel
theorem tyX9_ok : ∀ k, k < 12 → parseFieldDescriptor (TX9 k).2.2.1 = some (tyX9 k) := by decide +kernel
abbrev cX9_init : ByteArray := prog_1_method_1_code
def yX9_init : MethodName := ⟨RX9, "<init>", "()V"⟩
abbrev cX9_quota : ByteArray := prog_1_method_2_code
def yX9_quota : MethodName := ⟨RX9, "quota", "(III)I"⟩
abbrev cX9_aid : ByteArray := prog_1_method_3_code
def yX9_aid : MethodName := ⟨RX9, "aid", "(IIZ)I"⟩
abbrev cX9_kind : ByteArray := prog_1_method_4_code
def yX9_kind : MethodName := ⟨RX9, "kind", "(IIII)V"⟩
abbrev cX9_step : ByteArray := prog_1_method_5_code
def yX9_step : MethodName := ⟨RX9, "step", "(II)I"⟩
abbrev cX9_buyer : ByteArray := prog_1_method_6_code
def yX9_buyer : MethodName := ⟨RX9, "buyer", "(III)I"⟩
abbrev cX9_draw : ByteArray := prog_1_method_7_code
def yX9_draw : MethodName := ⟨RX9, "draw", "(I)I"⟩
abbrev cX9_power : ByteArray := prog_1_method_8_code
def yX9_power : MethodName := ⟨RX9, "power", "(IZ)Z"⟩
abbrev cX9_line : ByteArray := prog_1_method_9_code
def yX9_line : MethodName := ⟨RX9, "line", "(IZ)Z"⟩
abbrev cX9_land : ByteArray := prog_1_method_10_code
def yX9_land : MethodName := ⟨RX9, "land", "(IIIIII)I"⟩
abbrev cX9_open : ByteArray := prog_1_method_11_code
def yX9_open : MethodName := ⟨RX9, "open", "()I"⟩
abbrev cX9_end : ByteArray := prog_1_method_12_code
def yX9_end : MethodName := ⟨RX9, "end", "()I"⟩
abbrev cX9_press : ByteArray := prog_1_method_13_code
def yX9_press : MethodName := ⟨RX9, "press", "(II)I"⟩
abbrev cX9_take : ByteArray := prog_1_method_14_code
def yX9_take : MethodName := ⟨RX9, "take", "(III)I"⟩
abbrev cX9_pass : ByteArray := prog_1_method_15_code
def yX9_pass : MethodName := ⟨RX9, "pass", "(I)I"⟩
abbrev cX9_lorry : ByteArray := prog_1_method_16_code
def yX9_lorry : MethodName := ⟨RX9, "lorry", "(III)I"⟩
abbrev cX9_pay : ByteArray := prog_1_method_17_code
def yX9_pay : MethodName := ⟨RX9, "pay", "(II)I"⟩
abbrev cX9_claim : ByteArray := prog_1_method_18_code
def yX9_claim : MethodName := ⟨RX9, "claim", "(II)I"⟩
abbrev cX9_settle : ByteArray := prog_1_method_19_code
def yX9_settle : MethodName := ⟨RX9, "settle", "(III)I"⟩
abbrev cX9_now : ByteArray := prog_1_method_20_code
def yX9_now : MethodName := ⟨RX9, "now", "()I"⟩
abbrev cX9_day : ByteArray := prog_1_method_21_code
def yX9_day : MethodName := ⟨RX9, "day", "()I"⟩
abbrev cX9_isOpen : ByteArray := prog_1_method_22_code
def yX9_isOpen : MethodName := ⟨RX9, "isOpen", "()Z"⟩
abbrev cX9_told : ByteArray := prog_1_method_23_code
def yX9_told : MethodName := ⟨RX9, "told", "(II)I"⟩
abbrev cX9_lot : ByteArray := prog_1_method_24_code
def yX9_lot : MethodName := ⟨RX9, "lot", "(II)I"⟩
abbrev cX9_hall : ByteArray := prog_1_method_25_code
def yX9_hall : MethodName := ⟨RX9, "hall", "(II)I"⟩
abbrev cX9_account : ByteArray := prog_1_method_26_code
def yX9_account : MethodName := ⟨RX9, "account", "(II)I"⟩
abbrev cX9_ship : ByteArray := prog_1_method_27_code
def yX9_ship : MethodName := ⟨RX9, "ship", "(II)I"⟩
abbrev cX9_kilos : ByteArray := prog_1_method_28_code
def yX9_kilos : MethodName := ⟨RX9, "kilos", "(I)I"⟩
abbrev cX9_kilosAnew : ByteArray := prog_1_method_29_code
def yX9_kilosAnew : MethodName := ⟨RX9, "kilosAnew", "(I)I"⟩
abbrev cX9_average : ByteArray := prog_1_method_30_code
def yX9_average : MethodName := ⟨RX9, "average", "(II)I"⟩
abbrev cX9_loaded : ByteArray := prog_1_method_31_code
def yX9_loaded : MethodName := ⟨RX9, "loaded", "(I)I"⟩
abbrev cX9_mustExist : ByteArray := prog_1_method_32_code
def yX9_mustExist : MethodName := ⟨RX9, "mustExist", "(II)V"⟩
abbrev cX9_mustBeIn : ByteArray := prog_1_method_33_code
def yX9_mustBeIn : MethodName := ⟨RX9, "mustBeIn", "(III)V"⟩
abbrev cX9_mustHold : ByteArray := prog_1_method_34_code
def yX9_mustHold : MethodName := ⟨RX9, "mustHold", "(Z)V"⟩
abbrev cX9_countWaitingBoxes : ByteArray := prog_1_method_35_code
def yX9_countWaitingBoxes : MethodName := ⟨RX9, "countWaitingBoxes", "()V"⟩
abbrev cX9_offerBoats : ByteArray := prog_1_method_36_code
def yX9_offerBoats : MethodName := ⟨RX9, "offerBoats", "(Z)V"⟩
abbrev cX9_offerBoat : ByteArray := prog_1_method_37_code
def yX9_offerBoat : MethodName := ⟨RX9, "offerBoat", "(I)V"⟩
abbrev cX9_tickHalls : ByteArray := prog_1_method_38_code
def yX9_tickHalls : MethodName := ⟨RX9, "tickHalls", "()V"⟩
abbrev cX9_tickFalling : ByteArray := prog_1_method_39_code
def yX9_tickFalling : MethodName := ⟨RX9, "tickFalling", "(I)V"⟩
abbrev cX9_tickStanding : ByteArray := prog_1_method_40_code
def yX9_tickStanding : MethodName := ⟨RX9, "tickStanding", "(I)V"⟩
abbrev cX9_tickTaking : ByteArray := prog_1_method_41_code
def yX9_tickTaking : MethodName := ⟨RX9, "tickTaking", "(I)V"⟩
abbrev cX9_findWinner : ByteArray := prog_1_method_42_code
def yX9_findWinner : MethodName := ⟨RX9, "findWinner", "(I)I"⟩
abbrev cX9_bringToClock : ByteArray := prog_1_method_43_code
def yX9_bringToClock : MethodName := ⟨RX9, "bringToClock", "(II)V"⟩
abbrev cX9_beginRound : ByteArray := prog_1_method_44_code
def yX9_beginRound : MethodName := ⟨RX9, "beginRound", "(I)V"⟩
abbrev cX9_goOn : ByteArray := prog_1_method_45_code
def yX9_goOn : MethodName := ⟨RX9, "goOn", "(I)V"⟩
abbrev cX9_costOfFirst : ByteArray := prog_1_method_46_code
def yX9_costOfFirst : MethodName := ⟨RX9, "costOfFirst", "(II)I"⟩
abbrev cX9_sellFirst : ByteArray := prog_1_method_47_code
def yX9_sellFirst : MethodName := ⟨RX9, "sellFirst", "(II)V"⟩
abbrev cX9_withdrawRest : ByteArray := prog_1_method_48_code
def yX9_withdrawRest : MethodName := ⟨RX9, "withdrawRest", "(I)I"⟩
abbrev cX9_withdraw : ByteArray := prog_1_method_49_code
def yX9_withdraw : MethodName := ⟨RX9, "withdraw", "(I)V"⟩
abbrev cX9_sendLorries : ByteArray := prog_1_method_50_code
def yX9_sendLorries : MethodName := ⟨RX9, "sendLorries", "()V"⟩
abbrev cX9_fetch : ByteArray := prog_1_method_51_code
def yX9_fetch : MethodName := ⟨RX9, "fetch", "(I)V"⟩
def RX10 : String := "FishclockModel"
def TX10 : u_T := fun k => match k with
  | 0 => ("FishclockModel", "now", "I", false)
  | 1 => ("FishclockModel", "day", "I", false)
  | 2 => ("FishclockModel", "isOpen", "Z", false)
  | 3 => ("FishclockModel", "x", "I", false)
  | 4 => ("FishclockModel", "quota", "[I", true)
  | 5 => ("FishclockModel", "landed", "[I", true)
  | 6 => ("FishclockModel", "aid", "[I", true)
  | 7 => ("FishclockModel", "isDay", "[Z", true)
  | 8 => ("FishclockModel", "purse", "[I", true)
  | 9 => ("FishclockModel", "start", "[I", true)
  | 10 => ("FishclockModel", "minimum", "[I", true)
  | 11 => ("FishclockModel", "hallOf", "[I", true)
  | 12 => ("FishclockModel", "guarantee", "[I", true)
  | 13 => ("FishclockModel", "delay", "[I", true)
  | 14 => ("FishclockModel", "owes", "[I", true)
  | 15 => ("FishclockModel", "isUp", "[Z", true)
  | 16 => ("FishclockModel", "boxes", "I", false)
  | 17 => ("FishclockModel", "boat", "[I", true)
  | 18 => ("FishclockModel", "kind", "[I", true)
  | 19 => ("FishclockModel", "size", "[I", true)
  | 20 => ("FishclockModel", "fresh", "[I", true)
  | 21 => ("FishclockModel", "kilos", "[I", true)
  | 22 => ("FishclockModel", "real", "[I", true)
  | 23 => ("FishclockModel", "state", "[I", true)
  | 24 => ("FishclockModel", "wasCarried", "[Z", true)
  | 25 => ("FishclockModel", "buyer", "[I", true)
  | 26 => ("FishclockModel", "price", "[I", true)
  | 27 => ("FishclockModel", "soldAt", "[I", true)
  | 28 => ("FishclockModel", "soldOn", "[I", true)
  | 29 => ("FishclockModel", "isClaimed", "[Z", true)
  | 30 => ("FishclockModel", "lotOf", "[I", true)
  | 31 => ("FishclockModel", "lots", "I", false)
  | 32 => ("FishclockModel", "lotBoat", "[I", true)
  | 33 => ("FishclockModel", "lotKind", "[I", true)
  | 34 => ("FishclockModel", "lotSize", "[I", true)
  | 35 => ("FishclockModel", "lotFresh", "[I", true)
  | 36 => ("FishclockModel", "lotHall", "[I", true)
  | 37 => ("FishclockModel", "isDone", "[Z", true)
  | 38 => ("FishclockModel", "step", "[I", true)
  | 39 => ("FishclockModel", "hasPower", "[Z", true)
  | 40 => ("FishclockModel", "clock", "[I", true)
  | 41 => ("FishclockModel", "at", "[I", true)
  | 42 => ("FishclockModel", "shown", "[I", true)
  | 43 => ("FishclockModel", "until", "[I", true)
  | 44 => ("FishclockModel", "winner", "[I", true)
  | 45 => ("FishclockModel", "pressed", "[I", true)
  | 46 => ("FishclockModel", "comes", "[I", true)
  | 47 => ("FishclockModel", "kept", "[I", true)
  | 48 => ("FishclockModel", "isHeard", "[Z", true)
  | 49 => ("FishclockModel", "lorries", "I", false)
  | 50 => ("FishclockModel", "lorryBuyer", "[I", true)
  | 51 => ("FishclockModel", "lorryTick", "[I", true)
  | 52 => ("FishclockModel", "lorryMany", "[I", true)
  | 53 => ("FishclockModel", "loaded", "[I", true)
  | _ => ("FishclockModel", "thrown", "I", false)
def tyX10 : Nat → FieldType := fun k => match k with
  | 0 => .int
  | 1 => .int
  | 2 => .boolean
  | 3 => .int
  | 4 => .array .int
  | 5 => .array .int
  | 6 => .array .int
  | 7 => .array .boolean
  | 8 => .array .int
  | 9 => .array .int
  | 10 => .array .int
  | 11 => .array .int
  | 12 => .array .int
  | 13 => .array .int
  | 14 => .array .int
  | 15 => .array .boolean
  | 16 => .int
  | 17 => .array .int
  | 18 => .array .int
  | 19 => .array .int
  | 20 => .array .int
  | 21 => .array .int
  | 22 => .array .int
  | 23 => .array .int
  | 24 => .array .boolean
  | 25 => .array .int
  | 26 => .array .int
  | 27 => .array .int
  | 28 => .array .int
  | 29 => .array .boolean
  | 30 => .array .int
  | 31 => .int
  | 32 => .array .int
  | 33 => .array .int
  | 34 => .array .int
  | 35 => .array .int
  | 36 => .array .int
  | 37 => .array .boolean
  | 38 => .array .int
  | 39 => .array .boolean
  | 40 => .array .int
  | 41 => .array .int
  | 42 => .array .int
  | 43 => .array .int
  | 44 => .array .int
  | 45 => .array .int
  | 46 => .array .int
  | 47 => .array .int
  | 48 => .array .boolean
  | 49 => .int
  | 50 => .array .int
  | 51 => .array .int
  | 52 => .array .int
  | 53 => .array .int
  | _ => .int
theorem nmX10 : ∀ a, a < 55 → ∀ b, b < 55 → a ≠ b → (TX10 a).2.1 ≠ (TX10 b).2.1 := by decide +kernel
theorem tyX10_ok : ∀ k, k < 55 → parseFieldDescriptor (TX10 k).2.2.1 = some (tyX10 k) := by decide +kernel
abbrev cX10_init : ByteArray := prog_12_method_1_code
def yX10_init : MethodName := ⟨RX10, "<init>", "()V"⟩
abbrev cX10_thrown : ByteArray := prog_12_method_2_code
def yX10_thrown : MethodName := ⟨RX10, "thrown", "()I"⟩
abbrev cX10_fails : ByteArray := prog_12_method_3_code
def yX10_fails : MethodName := ⟨RX10, "fails", "(I)Z"⟩
abbrev cX10_isIn : ByteArray := prog_12_method_4_code
def yX10_isIn : MethodName := ⟨RX10, "isIn", "(III)Z"⟩
abbrev cX10_isEight : ByteArray := prog_12_method_5_code
def yX10_isEight : MethodName := ⟨RX10, "isEight", "(I)Z"⟩
abbrev cX10_isKind : ByteArray := prog_12_method_6_code
def yX10_isKind : MethodName := ⟨RX10, "isKind", "(I)Z"⟩
abbrev cX10_isHall : ByteArray := prog_12_method_7_code
def yX10_isHall : MethodName := ⟨RX10, "isHall", "(I)Z"⟩
abbrev cX10_isBox : ByteArray := prog_12_method_8_code
def yX10_isBox : MethodName := ⟨RX10, "isBox", "(I)Z"⟩
abbrev cX10_quota : ByteArray := prog_12_method_9_code
def yX10_quota : MethodName := ⟨RX10, "quota", "(III)I"⟩
abbrev cX10_aid : ByteArray := prog_12_method_10_code
def yX10_aid : MethodName := ⟨RX10, "aid", "(IIZ)I"⟩
abbrev cX10_kind : ByteArray := prog_12_method_11_code
def yX10_kind : MethodName := ⟨RX10, "kind", "(IIII)V"⟩
abbrev cX10_step : ByteArray := prog_12_method_12_code
def yX10_step : MethodName := ⟨RX10, "step", "(II)I"⟩
abbrev cX10_buyer : ByteArray := prog_12_method_13_code
def yX10_buyer : MethodName := ⟨RX10, "buyer", "(III)I"⟩
abbrev cX10_draw : ByteArray := prog_12_method_14_code
def yX10_draw : MethodName := ⟨RX10, "draw", "(I)I"⟩
abbrev cX10_power : ByteArray := prog_12_method_15_code
def yX10_power : MethodName := ⟨RX10, "power", "(IZ)Z"⟩
abbrev cX10_line : ByteArray := prog_12_method_16_code
def yX10_line : MethodName := ⟨RX10, "line", "(IZ)Z"⟩
abbrev cX10_land : ByteArray := prog_12_method_17_code
def yX10_land : MethodName := ⟨RX10, "land", "(IIIIII)I"⟩
abbrev cX10_isToSell : ByteArray := prog_12_method_18_code
def yX10_isToSell : MethodName := ⟨RX10, "isToSell", "(I)Z"⟩
abbrev cX10_ready : ByteArray := prog_12_method_19_code
def yX10_ready : MethodName := ⟨RX10, "ready", "(Z)I"⟩
abbrev cX10_size : ByteArray := prog_12_method_20_code
def yX10_size : MethodName := ⟨RX10, "size", "(I)I"⟩
abbrev cX10_drawn : ByteArray := prog_12_method_21_code
def yX10_drawn : MethodName := ⟨RX10, "drawn", "(I)I"⟩
abbrev cX10_parts : ByteArray := prog_12_method_22_code
def yX10_parts : MethodName := ⟨RX10, "parts", "(I)V"⟩
abbrev cX10_drawsAll : ByteArray := prog_12_method_23_code
def yX10_drawsAll : MethodName := ⟨RX10, "drawsAll", "(Z)V"⟩
abbrev cX10_open : ByteArray := prog_12_method_24_code
def yX10_open : MethodName := ⟨RX10, "open", "()I"⟩
abbrev cX10_comes : ByteArray := prog_12_method_25_code
def yX10_comes : MethodName := ⟨RX10, "comes", "(I)V"⟩
abbrev cX10_begins : ByteArray := prog_12_method_26_code
def yX10_begins : MethodName := ⟨RX10, "begins", "(I)V"⟩
abbrev cX10_withdraws : ByteArray := prog_12_method_27_code
def yX10_withdraws : MethodName := ⟨RX10, "withdraws", "(I)V"⟩
abbrev cX10_withdrawsAll : ByteArray := prog_12_method_28_code
def yX10_withdrawsAll : MethodName := ⟨RX10, "withdrawsAll", "(I)I"⟩
abbrev cX10_ends : ByteArray := prog_12_method_29_code
def yX10_ends : MethodName := ⟨RX10, "ends", "(I)V"⟩
abbrev cX10_end : ByteArray := prog_12_method_30_code
def yX10_end : MethodName := ⟨RX10, "end", "()I"⟩
abbrev cX10_press : ByteArray := prog_12_method_31_code
def yX10_press : MethodName := ⟨RX10, "press", "(II)I"⟩
abbrev cX10_firstOf : ByteArray := prog_12_method_32_code
def yX10_firstOf : MethodName := ⟨RX10, "firstOf", "(I)I"⟩
abbrev cX10_leftOf : ByteArray := prog_12_method_33_code
def yX10_leftOf : MethodName := ⟨RX10, "leftOf", "(I)I"⟩
abbrev cX10_canPay : ByteArray := prog_12_method_34_code
def yX10_canPay : MethodName := ⟨RX10, "canPay", "(II)Z"⟩
abbrev cX10_costOf : ByteArray := prog_12_method_35_code
def yX10_costOf : MethodName := ⟨RX10, "costOf", "(III)I"⟩
abbrev cX10_gets : ByteArray := prog_12_method_36_code
def yX10_gets : MethodName := ⟨RX10, "gets", "(II)V"⟩
abbrev cX10_take : ByteArray := prog_12_method_37_code
def yX10_take : MethodName := ⟨RX10, "take", "(III)I"⟩
abbrev cX10_hears : ByteArray := prog_12_method_38_code
def yX10_hears : MethodName := ⟨RX10, "hears", "(I)Z"⟩
abbrev cX10_slowest : ByteArray := prog_12_method_39_code
def yX10_slowest : MethodName := ⟨RX10, "slowest", "()I"⟩
abbrev cX10_falls : ByteArray := prog_12_method_40_code
def yX10_falls : MethodName := ⟨RX10, "falls", "(I)V"⟩
abbrev cX10_isBefore : ByteArray := prog_12_method_41_code
def yX10_isBefore : MethodName := ⟨RX10, "isBefore", "(II)Z"⟩
abbrev cX10_stands : ByteArray := prog_12_method_42_code
def yX10_stands : MethodName := ⟨RX10, "stands", "(I)V"⟩
abbrev cX10_waits : ByteArray := prog_12_method_43_code
def yX10_waits : MethodName := ⟨RX10, "waits", "(I)V"⟩
abbrev cX10_leaves : ByteArray := prog_12_method_44_code
def yX10_leaves : MethodName := ⟨RX10, "leaves", "(I)V"⟩
abbrev cX10_passes : ByteArray := prog_12_method_45_code
def yX10_passes : MethodName := ⟨RX10, "passes", "()V"⟩
abbrev cX10_pass : ByteArray := prog_12_method_46_code
def yX10_pass : MethodName := ⟨RX10, "pass", "(I)I"⟩
abbrev cX10_lorry : ByteArray := prog_12_method_47_code
def yX10_lorry : MethodName := ⟨RX10, "lorry", "(III)I"⟩
abbrev cX10_areCents : ByteArray := prog_12_method_48_code
def yX10_areCents : MethodName := ⟨RX10, "areCents", "(I)Z"⟩
abbrev cX10_pay : ByteArray := prog_12_method_49_code
def yX10_pay : MethodName := ⟨RX10, "pay", "(II)I"⟩
abbrev cX10_claim : ByteArray := prog_12_method_50_code
def yX10_claim : MethodName := ⟨RX10, "claim", "(II)I"⟩
abbrev cX10_settle : ByteArray := prog_12_method_51_code
def yX10_settle : MethodName := ⟨RX10, "settle", "(III)I"⟩
abbrev cX10_now : ByteArray := prog_12_method_52_code
def yX10_now : MethodName := ⟨RX10, "now", "()I"⟩
abbrev cX10_day : ByteArray := prog_12_method_53_code
def yX10_day : MethodName := ⟨RX10, "day", "()I"⟩
abbrev cX10_isOpen : ByteArray := prog_12_method_54_code
def yX10_isOpen : MethodName := ⟨RX10, "isOpen", "()Z"⟩
abbrev cX10_told : ByteArray := prog_12_method_55_code
def yX10_told : MethodName := ⟨RX10, "told", "(II)I"⟩
abbrev cX10_lot : ByteArray := prog_12_method_56_code
def yX10_lot : MethodName := ⟨RX10, "lot", "(II)I"⟩
abbrev cX10_lotsOf : ByteArray := prog_12_method_57_code
def yX10_lotsOf : MethodName := ⟨RX10, "lotsOf", "(I)I"⟩
abbrev cX10_hall : ByteArray := prog_12_method_58_code
def yX10_hall : MethodName := ⟨RX10, "hall", "(II)I"⟩
abbrev cX10_account : ByteArray := prog_12_method_59_code
def yX10_account : MethodName := ⟨RX10, "account", "(II)I"⟩
abbrev cX10_ship : ByteArray := prog_12_method_60_code
def yX10_ship : MethodName := ⟨RX10, "ship", "(II)I"⟩
abbrev cX10_isOf : ByteArray := prog_12_method_61_code
def yX10_isOf : MethodName := ⟨RX10, "isOf", "(II)Z"⟩
abbrev cX10_kilos : ByteArray := prog_12_method_62_code
def yX10_kilos : MethodName := ⟨RX10, "kilos", "(I)I"⟩
abbrev cX10_kilosAnew : ByteArray := prog_12_method_63_code
def yX10_kilosAnew : MethodName := ⟨RX10, "kilosAnew", "(I)I"⟩
abbrev cX10_average : ByteArray := prog_12_method_64_code
def yX10_average : MethodName := ⟨RX10, "average", "(II)I"⟩
abbrev cX10_loaded : ByteArray := prog_12_method_65_code
def yX10_loaded : MethodName := ⟨RX10, "loaded", "(I)I"⟩
def RJ9 : String := "java/lang/Math"
def TJ9 : u_T := fun k => match k with
  | _ => ("", "", "", false)
def tyJ9 : Nat → FieldType := fun k => match k with
  | _ => .int
theorem nmJ9 : ∀ a, a < 0 → ∀ b, b < 0 → a ≠ b → (TJ9 a).2.1 ≠ (TJ9 b).2.1 := by decide +kernel
theorem tyJ9_ok : ∀ k, k < 0 → parseFieldDescriptor (TJ9 k).2.2.1 = some (tyJ9 k) := by decide +kernel
abbrev cJ9_max_7cf53 : ByteArray := prog_17_method_65_code
def yJ9_max_7cf53 : MethodName := ⟨RJ9, "max", "(II)I"⟩
abbrev cJ9_max_f86c9 : ByteArray := prog_17_method_66_code
def yJ9_max_f86c9 : MethodName := ⟨RJ9, "max", "(JJ)J"⟩
abbrev cJ9_min_7cf53 : ByteArray := prog_17_method_69_code
def yJ9_min_7cf53 : MethodName := ⟨RJ9, "min", "(II)I"⟩
def RJ0 : String := "java/lang/String"
def TJ0 : u_T := fun k => match k with
  | _ => ("", "", "", false)
def tyJ0 : Nat → FieldType := fun k => match k with
  | _ => .int
theorem nmJ0 : ∀ a, a < 0 → ∀ b, b < 0 → a ≠ b → (TJ0 a).2.1 ≠ (TJ0 b).2.1 := by decide +kernel
theorem tyJ0_ok : ∀ k, k < 0 → parseFieldDescriptor (TJ0 k).2.2.1 = some (tyJ0 k) := by decide +kernel
def RL : String := "FishclockLaw"
abbrev cL_quota : ByteArray := method_3_code
def yL_quota : MethodName := ⟨RL, "quota", "(LFishclock;III[J)I"⟩
abbrev cL_aid : ByteArray := method_4_code
def yL_aid : MethodName := ⟨RL, "aid", "(LFishclock;IIZ[J)I"⟩
abbrev cL_kind : ByteArray := method_5_code
def yL_kind : MethodName := ⟨RL, "kind", "(LFishclock;IIII)I"⟩
abbrev cL_step : ByteArray := method_6_code
def yL_step : MethodName := ⟨RL, "step", "(LFishclock;II[J)I"⟩
abbrev cL_buyer : ByteArray := method_7_code
def yL_buyer : MethodName := ⟨RL, "buyer", "(LFishclock;III[J)I"⟩
abbrev cL_power : ByteArray := method_8_code
def yL_power : MethodName := ⟨RL, "power", "(LFishclock;IZ[J)I"⟩
abbrev cL_line : ByteArray := method_9_code
def yL_line : MethodName := ⟨RL, "line", "(LFishclock;IZ[J)I"⟩
abbrev cL_land : ByteArray := method_10_code
def yL_land : MethodName := ⟨RL, "land", "(LFishclock;IIIIII[J)I"⟩
abbrev cL_open : ByteArray := method_11_code
def yL_open : MethodName := ⟨RL, "open", "(LFishclock;[J)I"⟩
abbrev cL_end : ByteArray := method_12_code
def yL_end : MethodName := ⟨RL, "end", "(LFishclock;[J)I"⟩
abbrev cL_press : ByteArray := method_13_code
def yL_press : MethodName := ⟨RL, "press", "(LFishclock;II[J)I"⟩
abbrev cL_take : ByteArray := method_14_code
def yL_take : MethodName := ⟨RL, "take", "(LFishclock;III[J)I"⟩
abbrev cL_pass : ByteArray := method_15_code
def yL_pass : MethodName := ⟨RL, "pass", "(LFishclock;I[J)I"⟩
abbrev cL_lorry : ByteArray := method_16_code
def yL_lorry : MethodName := ⟨RL, "lorry", "(LFishclock;III[J)I"⟩
abbrev cL_pay : ByteArray := method_17_code
def yL_pay : MethodName := ⟨RL, "pay", "(LFishclock;II[J)I"⟩
abbrev cL_claim : ByteArray := method_18_code
def yL_claim : MethodName := ⟨RL, "claim", "(LFishclock;II[J)I"⟩
abbrev cL_settle : ByteArray := method_19_code
def yL_settle : MethodName := ⟨RL, "settle", "(LFishclock;III[J)I"⟩
abbrev cL_told : ByteArray := method_20_code
def yL_told : MethodName := ⟨RL, "told", "(LFishclock;II[J)I"⟩
abbrev cL_lot : ByteArray := method_21_code
def yL_lot : MethodName := ⟨RL, "lot", "(LFishclock;II[J)I"⟩
abbrev cL_hall : ByteArray := method_22_code
def yL_hall : MethodName := ⟨RL, "hall", "(LFishclock;II[J)I"⟩
abbrev cL_account : ByteArray := method_23_code
def yL_account : MethodName := ⟨RL, "account", "(LFishclock;II[J)I"⟩
abbrev cL_ship : ByteArray := method_24_code
def yL_ship : MethodName := ⟨RL, "ship", "(LFishclock;II[J)I"⟩
abbrev cL_kilos : ByteArray := method_25_code
def yL_kilos : MethodName := ⟨RL, "kilos", "(LFishclock;I[J)I"⟩
abbrev cL_kilosAnew : ByteArray := method_26_code
def yL_kilosAnew : MethodName := ⟨RL, "kilosAnew", "(LFishclock;I[J)I"⟩
abbrev cL_average : ByteArray := method_27_code
def yL_average : MethodName := ⟨RL, "average", "(LFishclock;II[J)I"⟩
abbrev cL_loaded : ByteArray := method_28_code
def yL_loaded : MethodName := ⟨RL, "loaded", "(LFishclock;I[J)I"⟩
abbrev cL_law : ByteArray := code
def yL_law : MethodName := ⟨RL, "law", "([I)Z"⟩
abbrev vwCl : List vw_C := [(RX0, TX0, 7), (RX1, TX1, 14), (RX2, TX2, 5), (RX3, TX3, 8), (RX4, TX4, 3), (RX5, TX5, 5), (RX6, TX6, 9), (RX7, TX7, 3), (RX8, TX8, 1), (RX9, TX9, 12), (RX10, TX10, 55)]
/-- the tables' words that hold in every later state -/
def gT : List Cond := lw_tbl.filter goodWord
theorem gT_of {w : Cond} (h : w ∈ lw_tbl) (g : goodWord w = true) : w ∈ gT := List.mem_filter.mpr ⟨h, g⟩
theorem gT_in : ∀ w ∈ gT, w ∈ lw_tbl := fun _ h => (List.mem_filter.mp h).1
theorem gT_self : ∀ w ∈ gT, w ∈ gT ∧ ((w.onTables && w.keeps) = true ∨ ∃ ty, w = .arrayClass ty) := fun _ h => ⟨h, good_of_word (List.mem_filter.mp h).2⟩
theorem lw_tab {w : Cond} (h : w ∈ tables_1) : w ∈ lw_tbl := List.mem_append_right _ h
theorem lw_0 {w : Cond} (i : Nat) (h : (k2_sels lw_privs)[i]? = some w) : w ∈ lw_tbl := List.mem_append_left _ (List.mem_of_getElem? h)
theorem lw_1 {w : Cond} (i : Nat) (h : tables_1_1[i]? = some w) : w ∈ lw_tbl := lw_tab (List.mem_append_left _ (List.mem_of_getElem? h))
theorem lw_2 {w : Cond} (i : Nat) (h : tables_1_2[i]? = some w) : w ∈ lw_tbl := lw_tab (List.mem_append_right _ (List.mem_append_left _ (List.mem_of_getElem? h)))
theorem lw_3 {w : Cond} (i : Nat) (h : tables_1_3[i]? = some w) : w ∈ lw_tbl := lw_tab (List.mem_append_right _ (List.mem_append_right _ (List.mem_append_left _ (List.mem_of_getElem? h))))
theorem lw_4 {w : Cond} (i : Nat) (h : tables_1_4[i]? = some w) : w ∈ lw_tbl := lw_tab (List.mem_append_right _ (List.mem_append_right _ (List.mem_append_right _ (List.mem_append_left _ (List.mem_of_getElem? h)))))
theorem lw_5 {w : Cond} (i : Nat) (h : tables_1_5[i]? = some w) : w ∈ lw_tbl := lw_tab (List.mem_append_right _ (List.mem_append_right _ (List.mem_append_right _ (List.mem_append_right _ (List.mem_append_left _ (List.mem_of_getElem? h))))))
theorem lw_6 {w : Cond} (i : Nat) (h : tables_1_6[i]? = some w) : w ∈ lw_tbl := lw_tab (List.mem_append_right _ (List.mem_append_right _ (List.mem_append_right _ (List.mem_append_right _ (List.mem_append_right _ (List.mem_of_getElem? h))))))
theorem gT_0 {w : Cond} (i : Nat) (h : (k2_sels lw_privs)[i]? = some w) (g : goodWord w = true) : w ∈ gT := gT_of (lw_0 i h) g
theorem gT_1 {w : Cond} (i : Nat) (h : tables_1_1[i]? = some w) (g : goodWord w = true) : w ∈ gT := gT_of (lw_1 i h) g
theorem gT_2 {w : Cond} (i : Nat) (h : tables_1_2[i]? = some w) (g : goodWord w = true) : w ∈ gT := gT_of (lw_2 i h) g
theorem gT_3 {w : Cond} (i : Nat) (h : tables_1_3[i]? = some w) (g : goodWord w = true) : w ∈ gT := gT_of (lw_3 i h) g
theorem gT_4 {w : Cond} (i : Nat) (h : tables_1_4[i]? = some w) (g : goodWord w = true) : w ∈ gT := gT_of (lw_4 i h) g
theorem gT_5 {w : Cond} (i : Nat) (h : tables_1_5[i]? = some w) (g : goodWord w = true) : w ∈ gT := gT_of (lw_5 i h) g
theorem gT_6 {w : Cond} (i : Nat) (h : tables_1_6[i]? = some w) (g : goodWord w = true) : w ∈ gT := gT_of (lw_6 i h) g
end
section
/-! words by their places -/
theorem lay_X0_0 : u_lay RX0 TX0 0 ∈ gT := gT_1 57 rfl rfl
theorem lay_X0_1 : u_lay RX0 TX0 1 ∈ gT := gT_1 59 rfl rfl
theorem lay_X0_2 : u_lay RX0 TX0 2 ∈ gT := gT_1 61 rfl rfl
theorem lay_X0_3 : u_lay RX0 TX0 3 ∈ gT := gT_1 63 rfl rfl
theorem lay_X0_4 : u_lay RX0 TX0 4 ∈ gT := gT_1 65 rfl rfl
theorem lay_X0_5 : u_lay RX0 TX0 5 ∈ gT := gT_1 67 rfl rfl
theorem lay_X0_6 : u_lay RX0 TX0 6 ∈ gT := gT_1 69 rfl rfl
theorem inX0 : ∀ w ∈ u_ws RX0 TX0 7, w ∈ gT := by
  intro w hw
  obtain ⟨k, hk, rfl⟩ := List.mem_map.mp hw
  have hk := List.mem_range.mp hk
  match k, hk with
  | 0, _ => exact lay_X0_0
  | 1, _ => exact lay_X0_1
  | 2, _ => exact lay_X0_2
  | 3, _ => exact lay_X0_3
  | 4, _ => exact lay_X0_4
  | 5, _ => exact lay_X0_5
  | 6, _ => exact lay_X0_6
  | k + 7, h => exact absurd h (by omega)
theorem lay_X1_0 : u_lay RX1 TX1 0 ∈ gT := gT_1 160 rfl rfl
theorem lay_X1_1 : u_lay RX1 TX1 1 ∈ gT := gT_1 162 rfl rfl
theorem lay_X1_2 : u_lay RX1 TX1 2 ∈ gT := gT_1 164 rfl rfl
theorem lay_X1_3 : u_lay RX1 TX1 3 ∈ gT := gT_1 166 rfl rfl
theorem lay_X1_4 : u_lay RX1 TX1 4 ∈ gT := gT_1 168 rfl rfl
theorem lay_X1_5 : u_lay RX1 TX1 5 ∈ gT := gT_1 170 rfl rfl
theorem lay_X1_6 : u_lay RX1 TX1 6 ∈ gT := gT_1 172 rfl rfl
theorem lay_X1_7 : u_lay RX1 TX1 7 ∈ gT := gT_1 174 rfl rfl
theorem lay_X1_8 : u_lay RX1 TX1 8 ∈ gT := gT_1 176 rfl rfl
theorem lay_X1_9 : u_lay RX1 TX1 9 ∈ gT := gT_1 178 rfl rfl
theorem lay_X1_10 : u_lay RX1 TX1 10 ∈ gT := gT_1 180 rfl rfl
theorem lay_X1_11 : u_lay RX1 TX1 11 ∈ gT := gT_1 182 rfl rfl
theorem lay_X1_12 : u_lay RX1 TX1 12 ∈ gT := gT_1 184 rfl rfl
theorem lay_X1_13 : u_lay RX1 TX1 13 ∈ gT := gT_1 186 rfl rfl
theorem inX1 : ∀ w ∈ u_ws RX1 TX1 14, w ∈ gT := by
  intro w hw
  obtain ⟨k, hk, rfl⟩ := List.mem_map.mp hw
  have hk := List.mem_range.mp hk
  match k, hk with
  | 0, _ => exact lay_X1_0
  | 1, _ => exact lay_X1_1
  | 2, _ => exact lay_X1_2
  | 3, _ => exact lay_X1_3
  | 4, _ => exact lay_X1_4
  | 5, _ => exact lay_X1_5
  | 6, _ => exact lay_X1_6
  | 7, _ => exact lay_X1_7
  | 8, _ => exact lay_X1_8
  | 9, _ => exact lay_X1_9
  | 10, _ => exact lay_X1_10
  | 11, _ => exact lay_X1_11
  | 12, _ => exact lay_X1_12
  | 13, _ => exact lay_X1_13
  | k + 14, h => exact absurd h (by omega)
theorem lay_X2_0 : u_lay RX2 TX2 0 ∈ gT := gT_1 115 rfl rfl
theorem lay_X2_1 : u_lay RX2 TX2 1 ∈ gT := gT_1 117 rfl rfl
theorem lay_X2_2 : u_lay RX2 TX2 2 ∈ gT := gT_1 119 rfl rfl
theorem lay_X2_3 : u_lay RX2 TX2 3 ∈ gT := gT_1 121 rfl rfl
theorem lay_X2_4 : u_lay RX2 TX2 4 ∈ gT := gT_1 123 rfl rfl
theorem inX2 : ∀ w ∈ u_ws RX2 TX2 5, w ∈ gT := by
  intro w hw
  obtain ⟨k, hk, rfl⟩ := List.mem_map.mp hw
  have hk := List.mem_range.mp hk
  match k, hk with
  | 0, _ => exact lay_X2_0
  | 1, _ => exact lay_X2_1
  | 2, _ => exact lay_X2_2
  | 3, _ => exact lay_X2_3
  | 4, _ => exact lay_X2_4
  | k + 5, h => exact absurd h (by omega)
theorem lay_X3_0 : u_lay RX3 TX3 0 ∈ gT := gT_2 15 rfl rfl
theorem lay_X3_1 : u_lay RX3 TX3 1 ∈ gT := gT_2 17 rfl rfl
theorem lay_X3_2 : u_lay RX3 TX3 2 ∈ gT := gT_2 19 rfl rfl
theorem lay_X3_3 : u_lay RX3 TX3 3 ∈ gT := gT_2 21 rfl rfl
theorem lay_X3_4 : u_lay RX3 TX3 4 ∈ gT := gT_2 23 rfl rfl
theorem lay_X3_5 : u_lay RX3 TX3 5 ∈ gT := gT_2 25 rfl rfl
theorem lay_X3_6 : u_lay RX3 TX3 6 ∈ gT := gT_2 27 rfl rfl
theorem lay_X3_7 : u_lay RX3 TX3 7 ∈ gT := gT_2 29 rfl rfl
theorem inX3 : ∀ w ∈ u_ws RX3 TX3 8, w ∈ gT := by
  intro w hw
  obtain ⟨k, hk, rfl⟩ := List.mem_map.mp hw
  have hk := List.mem_range.mp hk
  match k, hk with
  | 0, _ => exact lay_X3_0
  | 1, _ => exact lay_X3_1
  | 2, _ => exact lay_X3_2
  | 3, _ => exact lay_X3_3
  | 4, _ => exact lay_X3_4
  | 5, _ => exact lay_X3_5
  | 6, _ => exact lay_X3_6
  | 7, _ => exact lay_X3_7
  | k + 8, h => exact absurd h (by omega)
theorem lay_X4_0 : u_lay RX4 TX4 0 ∈ gT := gT_1 90 rfl rfl
theorem lay_X4_1 : u_lay RX4 TX4 1 ∈ gT := gT_1 92 rfl rfl
theorem lay_X4_2 : u_lay RX4 TX4 2 ∈ gT := gT_1 94 rfl rfl
theorem inX4 : ∀ w ∈ u_ws RX4 TX4 3, w ∈ gT := by
  intro w hw
  obtain ⟨k, hk, rfl⟩ := List.mem_map.mp hw
  have hk := List.mem_range.mp hk
  match k, hk with
  | 0, _ => exact lay_X4_0
  | 1, _ => exact lay_X4_1
  | 2, _ => exact lay_X4_2
  | k + 3, h => exact absurd h (by omega)
theorem lay_X5_0 : u_lay RX5 TX5 0 ∈ gT := gT_2 68 rfl rfl
theorem lay_X5_1 : u_lay RX5 TX5 1 ∈ gT := gT_2 70 rfl rfl
theorem lay_X5_2 : u_lay RX5 TX5 2 ∈ gT := gT_2 72 rfl rfl
theorem lay_X5_3 : u_lay RX5 TX5 3 ∈ gT := gT_2 74 rfl rfl
theorem lay_X5_4 : u_lay RX5 TX5 4 ∈ gT := gT_2 76 rfl rfl
theorem inX5 : ∀ w ∈ u_ws RX5 TX5 5, w ∈ gT := by
  intro w hw
  obtain ⟨k, hk, rfl⟩ := List.mem_map.mp hw
  have hk := List.mem_range.mp hk
  match k, hk with
  | 0, _ => exact lay_X5_0
  | 1, _ => exact lay_X5_1
  | 2, _ => exact lay_X5_2
  | 3, _ => exact lay_X5_3
  | 4, _ => exact lay_X5_4
  | k + 5, h => exact absurd h (by omega)
theorem lay_X6_0 : u_lay RX6 TX6 0 ∈ gT := gT_1 212 rfl rfl
theorem lay_X6_1 : u_lay RX6 TX6 1 ∈ gT := gT_1 214 rfl rfl
theorem lay_X6_2 : u_lay RX6 TX6 2 ∈ gT := gT_1 216 rfl rfl
theorem lay_X6_3 : u_lay RX6 TX6 3 ∈ gT := gT_1 218 rfl rfl
theorem lay_X6_4 : u_lay RX6 TX6 4 ∈ gT := gT_1 220 rfl rfl
theorem lay_X6_5 : u_lay RX6 TX6 5 ∈ gT := gT_1 222 rfl rfl
theorem lay_X6_6 : u_lay RX6 TX6 6 ∈ gT := gT_1 224 rfl rfl
theorem lay_X6_7 : u_lay RX6 TX6 7 ∈ gT := gT_1 226 rfl rfl
theorem lay_X6_8 : u_lay RX6 TX6 8 ∈ gT := gT_1 228 rfl rfl
theorem inX6 : ∀ w ∈ u_ws RX6 TX6 9, w ∈ gT := by
  intro w hw
  obtain ⟨k, hk, rfl⟩ := List.mem_map.mp hw
  have hk := List.mem_range.mp hk
  match k, hk with
  | 0, _ => exact lay_X6_0
  | 1, _ => exact lay_X6_1
  | 2, _ => exact lay_X6_2
  | 3, _ => exact lay_X6_3
  | 4, _ => exact lay_X6_4
  | 5, _ => exact lay_X6_5
  | 6, _ => exact lay_X6_6
  | 7, _ => exact lay_X6_7
  | 8, _ => exact lay_X6_8
  | k + 9, h => exact absurd h (by omega)
theorem lay_X7_0 : u_lay RX7 TX7 0 ∈ gT := gT_2 43 rfl rfl
theorem lay_X7_1 : u_lay RX7 TX7 1 ∈ gT := gT_2 45 rfl rfl
theorem lay_X7_2 : u_lay RX7 TX7 2 ∈ gT := gT_2 47 rfl rfl
theorem inX7 : ∀ w ∈ u_ws RX7 TX7 3, w ∈ gT := by
  intro w hw
  obtain ⟨k, hk, rfl⟩ := List.mem_map.mp hw
  have hk := List.mem_range.mp hk
  match k, hk with
  | 0, _ => exact lay_X7_0
  | 1, _ => exact lay_X7_1
  | 2, _ => exact lay_X7_2
  | k + 3, h => exact absurd h (by omega)
theorem lay_X8_0 : u_lay RX8 TX8 0 ∈ gT := gT_1 40 rfl rfl
theorem inX8 : ∀ w ∈ u_ws RX8 TX8 1, w ∈ gT := by
  intro w hw
  obtain ⟨k, hk, rfl⟩ := List.mem_map.mp hw
  have hk := List.mem_range.mp hk
  match k, hk with
  | 0, _ => exact lay_X8_0
  | k + 1, h => exact absurd h (by omega)
theorem lay_X9_0 : u_lay RX9 TX9 0 ∈ gT := gT_2 91 rfl rfl
theorem lay_X9_1 : u_lay RX9 TX9 1 ∈ gT := gT_2 93 rfl rfl
theorem lay_X9_2 : u_lay RX9 TX9 2 ∈ gT := gT_2 95 rfl rfl
theorem lay_X9_3 : u_lay RX9 TX9 3 ∈ gT := gT_2 97 rfl rfl
theorem lay_X9_4 : u_lay RX9 TX9 4 ∈ gT := gT_2 99 rfl rfl
theorem lay_X9_5 : u_lay RX9 TX9 5 ∈ gT := gT_2 101 rfl rfl
theorem lay_X9_6 : u_lay RX9 TX9 6 ∈ gT := gT_2 103 rfl rfl
theorem lay_X9_7 : u_lay RX9 TX9 7 ∈ gT := gT_2 105 rfl rfl
theorem lay_X9_8 : u_lay RX9 TX9 8 ∈ gT := gT_2 107 rfl rfl
theorem lay_X9_9 : u_lay RX9 TX9 9 ∈ gT := gT_2 109 rfl rfl
theorem lay_X9_10 : u_lay RX9 TX9 10 ∈ gT := gT_2 111 rfl rfl
theorem lay_X9_11 : u_lay RX9 TX9 11 ∈ gT := gT_2 113 rfl rfl
theorem inX9 : ∀ w ∈ u_ws RX9 TX9 12, w ∈ gT := by
  intro w hw
  obtain ⟨k, hk, rfl⟩ := List.mem_map.mp hw
  have hk := List.mem_range.mp hk
  match k, hk with
  | 0, _ => exact lay_X9_0
  | 1, _ => exact lay_X9_1
  | 2, _ => exact lay_X9_2
  | 3, _ => exact lay_X9_3
  | 4, _ => exact lay_X9_4
  | 5, _ => exact lay_X9_5
  | 6, _ => exact lay_X9_6
  | 7, _ => exact lay_X9_7
  | 8, _ => exact lay_X9_8
  | 9, _ => exact lay_X9_9
  | 10, _ => exact lay_X9_10
  | 11, _ => exact lay_X9_11
  | k + 12, h => exact absurd h (by omega)
theorem lay_X10_0 : u_lay RX10 TX10 0 ∈ gT := gT_5 42 rfl rfl
theorem lay_X10_1 : u_lay RX10 TX10 1 ∈ gT := gT_5 44 rfl rfl
theorem lay_X10_2 : u_lay RX10 TX10 2 ∈ gT := gT_5 46 rfl rfl
theorem lay_X10_3 : u_lay RX10 TX10 3 ∈ gT := gT_5 48 rfl rfl
theorem lay_X10_4 : u_lay RX10 TX10 4 ∈ gT := gT_5 50 rfl rfl
theorem lay_X10_5 : u_lay RX10 TX10 5 ∈ gT := gT_5 52 rfl rfl
theorem lay_X10_6 : u_lay RX10 TX10 6 ∈ gT := gT_5 54 rfl rfl
theorem lay_X10_7 : u_lay RX10 TX10 7 ∈ gT := gT_5 56 rfl rfl
theorem lay_X10_8 : u_lay RX10 TX10 8 ∈ gT := gT_5 58 rfl rfl
theorem lay_X10_9 : u_lay RX10 TX10 9 ∈ gT := gT_5 60 rfl rfl
theorem lay_X10_10 : u_lay RX10 TX10 10 ∈ gT := gT_5 62 rfl rfl
theorem lay_X10_11 : u_lay RX10 TX10 11 ∈ gT := gT_5 64 rfl rfl
theorem lay_X10_12 : u_lay RX10 TX10 12 ∈ gT := gT_5 66 rfl rfl
theorem lay_X10_13 : u_lay RX10 TX10 13 ∈ gT := gT_5 68 rfl rfl
theorem lay_X10_14 : u_lay RX10 TX10 14 ∈ gT := gT_5 70 rfl rfl
theorem lay_X10_15 : u_lay RX10 TX10 15 ∈ gT := gT_5 72 rfl rfl
theorem lay_X10_16 : u_lay RX10 TX10 16 ∈ gT := gT_5 74 rfl rfl
theorem lay_X10_17 : u_lay RX10 TX10 17 ∈ gT := gT_5 76 rfl rfl
theorem lay_X10_18 : u_lay RX10 TX10 18 ∈ gT := gT_5 78 rfl rfl
theorem lay_X10_19 : u_lay RX10 TX10 19 ∈ gT := gT_5 80 rfl rfl
theorem lay_X10_20 : u_lay RX10 TX10 20 ∈ gT := gT_5 82 rfl rfl
theorem lay_X10_21 : u_lay RX10 TX10 21 ∈ gT := gT_5 84 rfl rfl
theorem lay_X10_22 : u_lay RX10 TX10 22 ∈ gT := gT_5 86 rfl rfl
theorem lay_X10_23 : u_lay RX10 TX10 23 ∈ gT := gT_5 88 rfl rfl
theorem lay_X10_24 : u_lay RX10 TX10 24 ∈ gT := gT_5 90 rfl rfl
theorem lay_X10_25 : u_lay RX10 TX10 25 ∈ gT := gT_5 92 rfl rfl
theorem lay_X10_26 : u_lay RX10 TX10 26 ∈ gT := gT_5 94 rfl rfl
theorem lay_X10_27 : u_lay RX10 TX10 27 ∈ gT := gT_5 96 rfl rfl
theorem lay_X10_28 : u_lay RX10 TX10 28 ∈ gT := gT_5 98 rfl rfl
theorem lay_X10_29 : u_lay RX10 TX10 29 ∈ gT := gT_5 100 rfl rfl
theorem lay_X10_30 : u_lay RX10 TX10 30 ∈ gT := gT_5 102 rfl rfl
theorem lay_X10_31 : u_lay RX10 TX10 31 ∈ gT := gT_5 104 rfl rfl
theorem lay_X10_32 : u_lay RX10 TX10 32 ∈ gT := gT_5 106 rfl rfl
theorem lay_X10_33 : u_lay RX10 TX10 33 ∈ gT := gT_5 108 rfl rfl
theorem lay_X10_34 : u_lay RX10 TX10 34 ∈ gT := gT_5 110 rfl rfl
theorem lay_X10_35 : u_lay RX10 TX10 35 ∈ gT := gT_5 112 rfl rfl
theorem lay_X10_36 : u_lay RX10 TX10 36 ∈ gT := gT_5 114 rfl rfl
theorem lay_X10_37 : u_lay RX10 TX10 37 ∈ gT := gT_5 116 rfl rfl
theorem lay_X10_38 : u_lay RX10 TX10 38 ∈ gT := gT_5 118 rfl rfl
theorem lay_X10_39 : u_lay RX10 TX10 39 ∈ gT := gT_5 120 rfl rfl
theorem lay_X10_40 : u_lay RX10 TX10 40 ∈ gT := gT_5 122 rfl rfl
theorem lay_X10_41 : u_lay RX10 TX10 41 ∈ gT := gT_5 124 rfl rfl
theorem lay_X10_42 : u_lay RX10 TX10 42 ∈ gT := gT_5 126 rfl rfl
theorem lay_X10_43 : u_lay RX10 TX10 43 ∈ gT := gT_5 128 rfl rfl
theorem lay_X10_44 : u_lay RX10 TX10 44 ∈ gT := gT_5 130 rfl rfl
theorem lay_X10_45 : u_lay RX10 TX10 45 ∈ gT := gT_5 132 rfl rfl
theorem lay_X10_46 : u_lay RX10 TX10 46 ∈ gT := gT_5 134 rfl rfl
theorem lay_X10_47 : u_lay RX10 TX10 47 ∈ gT := gT_5 136 rfl rfl
theorem lay_X10_48 : u_lay RX10 TX10 48 ∈ gT := gT_5 138 rfl rfl
theorem lay_X10_49 : u_lay RX10 TX10 49 ∈ gT := gT_5 140 rfl rfl
theorem lay_X10_50 : u_lay RX10 TX10 50 ∈ gT := gT_5 142 rfl rfl
theorem lay_X10_51 : u_lay RX10 TX10 51 ∈ gT := gT_5 144 rfl rfl
theorem lay_X10_52 : u_lay RX10 TX10 52 ∈ gT := gT_5 146 rfl rfl
theorem lay_X10_53 : u_lay RX10 TX10 53 ∈ gT := gT_5 148 rfl rfl
theorem lay_X10_54 : u_lay RX10 TX10 54 ∈ gT := gT_5 150 rfl rfl
theorem inX10 : ∀ w ∈ u_ws RX10 TX10 55, w ∈ gT := by
  intro w hw
  obtain ⟨k, hk, rfl⟩ := List.mem_map.mp hw
  have hk := List.mem_range.mp hk
  match k, hk with
  | 0, _ => exact lay_X10_0
  | 1, _ => exact lay_X10_1
  | 2, _ => exact lay_X10_2
  | 3, _ => exact lay_X10_3
  | 4, _ => exact lay_X10_4
  | 5, _ => exact lay_X10_5
  | 6, _ => exact lay_X10_6
  | 7, _ => exact lay_X10_7
  | 8, _ => exact lay_X10_8
  | 9, _ => exact lay_X10_9
  | 10, _ => exact lay_X10_10
  | 11, _ => exact lay_X10_11
  | 12, _ => exact lay_X10_12
  | 13, _ => exact lay_X10_13
  | 14, _ => exact lay_X10_14
  | 15, _ => exact lay_X10_15
  | 16, _ => exact lay_X10_16
  | 17, _ => exact lay_X10_17
  | 18, _ => exact lay_X10_18
  | 19, _ => exact lay_X10_19
  | 20, _ => exact lay_X10_20
  | 21, _ => exact lay_X10_21
  | 22, _ => exact lay_X10_22
  | 23, _ => exact lay_X10_23
  | 24, _ => exact lay_X10_24
  | 25, _ => exact lay_X10_25
  | 26, _ => exact lay_X10_26
  | 27, _ => exact lay_X10_27
  | 28, _ => exact lay_X10_28
  | 29, _ => exact lay_X10_29
  | 30, _ => exact lay_X10_30
  | 31, _ => exact lay_X10_31
  | 32, _ => exact lay_X10_32
  | 33, _ => exact lay_X10_33
  | 34, _ => exact lay_X10_34
  | 35, _ => exact lay_X10_35
  | 36, _ => exact lay_X10_36
  | 37, _ => exact lay_X10_37
  | 38, _ => exact lay_X10_38
  | 39, _ => exact lay_X10_39
  | 40, _ => exact lay_X10_40
  | 41, _ => exact lay_X10_41
  | 42, _ => exact lay_X10_42
  | 43, _ => exact lay_X10_43
  | 44, _ => exact lay_X10_44
  | 45, _ => exact lay_X10_45
  | 46, _ => exact lay_X10_46
  | 47, _ => exact lay_X10_47
  | 48, _ => exact lay_X10_48
  | 49, _ => exact lay_X10_49
  | 50, _ => exact lay_X10_50
  | 51, _ => exact lay_X10_51
  | 52, _ => exact lay_X10_52
  | 53, _ => exact lay_X10_53
  | 54, _ => exact lay_X10_54
  | k + 55, h => exact absurd h (by omega)
theorem wf_X9_10 : Cond.fieldLink RX9 10 (TX9 0).1 (TX9 0).2.1 (TX9 0).2.2.1 ∈ gT := gT_2 79 rfl rfl
theorem wf_X9_19 : Cond.fieldLink RX9 19 (TX9 1).1 (TX9 1).2.1 (TX9 1).2.2.1 ∈ gT := gT_2 80 rfl rfl
theorem wf_X9_26 : Cond.fieldLink RX9 26 (TX9 2).1 (TX9 2).2.1 (TX9 2).2.2.1 ∈ gT := gT_2 81 rfl rfl
theorem wf_X9_33 : Cond.fieldLink RX9 33 (TX9 3).1 (TX9 3).2.1 (TX9 3).2.2.1 ∈ gT := gT_2 82 rfl rfl
theorem wf_X9_40 : Cond.fieldLink RX9 40 (TX9 4).1 (TX9 4).2.1 (TX9 4).2.2.1 ∈ gT := gT_2 83 rfl rfl
theorem wf_X9_47 : Cond.fieldLink RX9 47 (TX9 5).1 (TX9 5).2.1 (TX9 5).2.2.1 ∈ gT := gT_2 84 rfl rfl
theorem wf_X9_54 : Cond.fieldLink RX9 54 (TX9 6).1 (TX9 6).2.1 (TX9 6).2.2.1 ∈ gT := gT_2 85 rfl rfl
theorem wf_X9_61 : Cond.fieldLink RX9 61 (TX9 7).1 (TX9 7).2.1 (TX9 7).2.2.1 ∈ gT := gT_2 86 rfl rfl
theorem wf_X9_65 : Cond.fieldLink RX9 65 (TX9 8).1 (TX9 8).2.1 (TX9 8).2.2.1 ∈ gT := gT_2 87 rfl rfl
theorem wf_X9_69 : Cond.fieldLink RX9 69 (TX9 9).1 (TX9 9).2.1 (TX9 9).2.2.1 ∈ gT := gT_2 88 rfl rfl
theorem wf_X9_72 : Cond.fieldLink RX9 72 (TX9 10).1 (TX9 10).2.1 (TX9 10).2.2.1 ∈ gT := gT_2 89 rfl rfl
theorem wf_X9_76 : Cond.fieldLink RX9 76 (TX9 11).1 (TX9 11).2.1 (TX9 11).2.2.1 ∈ gT := gT_2 90 rfl rfl
theorem wf_X9_88 : Cond.fieldLink RX9 88 (TX0 0).1 (TX0 0).2.1 (TX0 0).2.2.1 ∈ gT := gT_1 45 rfl rfl
theorem wf_X9_101 : Cond.fieldLink RX9 101 (TX0 4).1 (TX0 4).2.1 (TX0 4).2.2.1 ∈ gT := gT_1 52 rfl rfl
theorem wf_X9_107 : Cond.fieldLink RX9 107 (TX0 3).1 (TX0 3).2.1 (TX0 3).2.2.1 ∈ gT := gT_1 50 rfl rfl
theorem wf_X9_110 : Cond.fieldLink RX9 110 (TX4 0).1 (TX4 0).2.1 (TX4 0).2.2.1 ∈ gT := gT_1 85 rfl rfl
theorem wf_X9_113 : Cond.fieldLink RX9 113 (TX4 1).1 (TX4 1).2.1 (TX4 1).2.2.1 ∈ gT := gT_1 87 rfl rfl
theorem wf_X9_116 : Cond.fieldLink RX9 116 (TX4 2).1 (TX4 2).2.1 (TX4 2).2.2.1 ∈ gT := gT_1 89 rfl rfl
theorem wf_X9_119 : Cond.fieldLink RX9 119 (TX3 6).1 (TX3 6).2.1 (TX3 6).2.2.1 ∈ gT := gT_2 12 rfl rfl
theorem wf_X9_123 : Cond.fieldLink RX9 123 (TX2 1).1 (TX2 1).2.1 (TX2 1).2.2.1 ∈ gT := gT_1 108 rfl rfl
theorem wf_X9_126 : Cond.fieldLink RX9 126 (TX2 0).1 (TX2 0).2.1 (TX2 0).2.2.1 ∈ gT := gT_1 106 rfl rfl
theorem wf_X9_129 : Cond.fieldLink RX9 129 (TX3 7).1 (TX3 7).2.1 (TX3 7).2.2.1 ∈ gT := gT_2 14 rfl rfl
theorem wf_X9_132 : Cond.fieldLink RX9 132 (TX2 4).1 (TX2 4).2.1 (TX2 4).2.2.1 ∈ gT := gT_1 114 rfl rfl
theorem wf_X9_135 : Cond.fieldLink RX9 135 (TX1 13).1 (TX1 13).2.1 (TX1 13).2.2.1 ∈ gT := gT_1 159 rfl rfl
theorem wf_X9_167 : Cond.fieldLink RX9 167 (TX3 4).1 (TX3 4).2.1 (TX3 4).2.2.1 ∈ gT := gT_2 8 rfl rfl
theorem wf_X9_184 : Cond.fieldLink RX9 184 (TX6 7).1 (TX6 7).2.1 (TX6 7).2.2.1 ∈ gT := gT_1 210 rfl rfl
theorem wf_X9_191 : Cond.fieldLink RX9 191 (TX1 5).1 (TX1 5).2.1 (TX1 5).2.2.1 ∈ gT := gT_1 144 rfl rfl
theorem wf_X9_197 : Cond.fieldLink RX9 197 (TX3 0).1 (TX3 0).2.1 (TX3 0).2.2.1 ∈ gT := gT_2 0 rfl rfl
theorem wf_X9_206 : Cond.fieldLink RX9 206 (TX3 2).1 (TX3 2).2.1 (TX3 2).2.2.1 ∈ gT := gT_2 4 rfl rfl
theorem wf_X9_213 : Cond.fieldLink RX9 213 (TX3 3).1 (TX3 3).2.1 (TX3 3).2.2.1 ∈ gT := gT_2 6 rfl rfl
theorem wf_X9_216 : Cond.fieldLink RX9 216 (TX3 1).1 (TX3 1).2.1 (TX3 1).2.2.1 ∈ gT := gT_2 2 rfl rfl
theorem wf_X9_238 : Cond.fieldLink RX9 238 (TX5 4).1 (TX5 4).2.1 (TX5 4).2.2.1 ∈ gT := gT_2 67 rfl rfl
theorem wf_X9_241 : Cond.fieldLink RX9 241 (TX2 2).1 (TX2 2).2.1 (TX2 2).2.2.1 ∈ gT := gT_1 110 rfl rfl
theorem wf_X9_254 : Cond.fieldLink RX9 254 (TX1 6).1 (TX1 6).2.1 (TX1 6).2.2.1 ∈ gT := gT_1 146 rfl rfl
theorem wf_X9_257 : Cond.fieldLink RX9 257 (TX1 11).1 (TX1 11).2.1 (TX1 11).2.2.1 ∈ gT := gT_1 155 rfl rfl
theorem wf_X9_260 : Cond.fieldLink RX9 260 (TX1 8).1 (TX1 8).2.1 (TX1 8).2.2.1 ∈ gT := gT_1 150 rfl rfl
theorem wf_X9_266 : Cond.fieldLink RX9 266 (TX0 5).1 (TX0 5).2.1 (TX0 5).2.2.1 ∈ gT := gT_1 54 rfl rfl
theorem wf_X9_269 : Cond.fieldLink RX9 269 (TX1 0).1 (TX1 0).2.1 (TX1 0).2.2.1 ∈ gT := gT_1 135 rfl rfl
theorem wf_X9_278 : Cond.fieldLink RX9 278 (TX1 4).1 (TX1 4).2.1 (TX1 4).2.2.1 ∈ gT := gT_1 142 rfl rfl
theorem wf_X9_279 : Cond.fieldLink RX9 279 (TX1 1).1 (TX1 1).2.1 (TX1 1).2.2.1 ∈ gT := gT_1 137 rfl rfl
theorem wf_X9_285 : Cond.fieldLink RX9 285 (TX1 7).1 (TX1 7).2.1 (TX1 7).2.2.1 ∈ gT := gT_1 148 rfl rfl
theorem wf_X9_286 : Cond.fieldLink RX9 286 (TX6 0).1 (TX6 0).2.1 (TX6 0).2.2.1 ∈ gT := gT_1 198 rfl rfl
theorem wf_X9_287 : Cond.fieldLink RX9 287 (TX6 1).1 (TX6 1).2.1 (TX6 1).2.2.1 ∈ gT := gT_1 200 rfl rfl
theorem wf_X9_294 : Cond.fieldLink RX9 294 (TX6 2).1 (TX6 2).2.1 (TX6 2).2.2.1 ∈ gT := gT_1 202 rfl rfl
theorem wf_X9_295 : Cond.fieldLink RX9 295 (TX2 3).1 (TX2 3).2.1 (TX2 3).2.2.1 ∈ gT := gT_1 112 rfl rfl
theorem wf_X9_298 : Cond.fieldLink RX9 298 (TX0 2).1 (TX0 2).2.1 (TX0 2).2.2.1 ∈ gT := gT_1 48 rfl rfl
theorem wf_X9_301 : Cond.fieldLink RX9 301 (TX1 12).1 (TX1 12).2.1 (TX1 12).2.2.1 ∈ gT := gT_1 157 rfl rfl
theorem wf_X9_307 : Cond.fieldLink RX9 307 (TX1 2).1 (TX1 2).2.1 (TX1 2).2.2.1 ∈ gT := gT_1 139 rfl rfl
theorem wf_X9_310 : Cond.fieldLink RX9 310 (TX1 9).1 (TX1 9).2.1 (TX1 9).2.2.1 ∈ gT := gT_1 152 rfl rfl
theorem wf_X9_313 : Cond.fieldLink RX9 313 (TX5 3).1 (TX5 3).2.1 (TX5 3).2.2.1 ∈ gT := gT_2 65 rfl rfl
theorem wf_X9_337 : Cond.fieldLink RX9 337 (TX0 6).1 (TX0 6).2.1 (TX0 6).2.2.1 ∈ gT := gT_1 56 rfl rfl
theorem wf_X9_351 : Cond.fieldLink RX9 351 (TX6 6).1 (TX6 6).2.1 (TX6 6).2.2.1 ∈ gT := gT_1 208 rfl rfl
theorem wf_X9_374 : Cond.fieldLink RX9 374 (TX3 5).1 (TX3 5).2.1 (TX3 5).2.2.1 ∈ gT := gT_2 10 rfl rfl
theorem wf_X9_405 : Cond.fieldLink RX9 405 (TX6 3).1 (TX6 3).2.1 (TX6 3).2.2.1 ∈ gT := gT_1 204 rfl rfl
theorem wf_X9_417 : Cond.fieldLink RX9 417 (TX5 1).1 (TX5 1).2.1 (TX5 1).2.2.1 ∈ gT := gT_2 61 rfl rfl
theorem wf_X9_423 : Cond.fieldLink RX9 423 (TX5 2).1 (TX5 2).2.1 (TX5 2).2.2.1 ∈ gT := gT_2 63 rfl rfl
theorem wf_X9_426 : Cond.fieldLink RX9 426 (TX5 0).1 (TX5 0).2.1 (TX5 0).2.2.1 ∈ gT := gT_2 59 rfl rfl
theorem wf_X0_14 : Cond.fieldLink RX0 14 (TX0 0).1 (TX0 0).2.1 (TX0 0).2.2.1 ∈ gT := gT_1 44 rfl rfl
theorem wf_X0_20 : Cond.fieldLink RX0 20 (TX0 1).1 (TX0 1).2.1 (TX0 1).2.2.1 ∈ gT := gT_1 46 rfl rfl
theorem wf_X0_23 : Cond.fieldLink RX0 23 (TX0 2).1 (TX0 2).2.1 (TX0 2).2.2.1 ∈ gT := gT_1 47 rfl rfl
theorem wf_X0_26 : Cond.fieldLink RX0 26 (TX0 3).1 (TX0 3).2.1 (TX0 3).2.2.1 ∈ gT := gT_1 49 rfl rfl
theorem wf_X0_29 : Cond.fieldLink RX0 29 (TX0 4).1 (TX0 4).2.1 (TX0 4).2.2.1 ∈ gT := gT_1 51 rfl rfl
theorem wf_X0_32 : Cond.fieldLink RX0 32 (TX0 5).1 (TX0 5).2.1 (TX0 5).2.2.1 ∈ gT := gT_1 53 rfl rfl
theorem wf_X0_35 : Cond.fieldLink RX0 35 (TX0 6).1 (TX0 6).2.1 (TX0 6).2.2.1 ∈ gT := gT_1 55 rfl rfl
theorem wf_X1_14 : Cond.fieldLink RX1 14 (TX1 0).1 (TX1 0).2.1 (TX1 0).2.2.1 ∈ gT := gT_1 134 rfl rfl
theorem wf_X1_20 : Cond.fieldLink RX1 20 (TX1 1).1 (TX1 1).2.1 (TX1 1).2.2.1 ∈ gT := gT_1 136 rfl rfl
theorem wf_X1_23 : Cond.fieldLink RX1 23 (TX1 2).1 (TX1 2).2.1 (TX1 2).2.2.1 ∈ gT := gT_1 138 rfl rfl
theorem wf_X1_26 : Cond.fieldLink RX1 26 (TX1 3).1 (TX1 3).2.1 (TX1 3).2.2.1 ∈ gT := gT_1 140 rfl rfl
theorem wf_X1_29 : Cond.fieldLink RX1 29 (TX1 4).1 (TX1 4).2.1 (TX1 4).2.2.1 ∈ gT := gT_1 141 rfl rfl
theorem wf_X1_32 : Cond.fieldLink RX1 32 (TX1 5).1 (TX1 5).2.1 (TX1 5).2.2.1 ∈ gT := gT_1 143 rfl rfl
theorem wf_X1_35 : Cond.fieldLink RX1 35 (TX1 6).1 (TX1 6).2.1 (TX1 6).2.2.1 ∈ gT := gT_1 145 rfl rfl
theorem wf_X1_38 : Cond.fieldLink RX1 38 (TX1 7).1 (TX1 7).2.1 (TX1 7).2.2.1 ∈ gT := gT_1 147 rfl rfl
theorem wf_X1_41 : Cond.fieldLink RX1 41 (TX1 8).1 (TX1 8).2.1 (TX1 8).2.2.1 ∈ gT := gT_1 149 rfl rfl
theorem wf_X1_44 : Cond.fieldLink RX1 44 (TX1 9).1 (TX1 9).2.1 (TX1 9).2.2.1 ∈ gT := gT_1 151 rfl rfl
theorem wf_X1_47 : Cond.fieldLink RX1 47 (TX1 10).1 (TX1 10).2.1 (TX1 10).2.2.1 ∈ gT := gT_1 153 rfl rfl
theorem wf_X1_50 : Cond.fieldLink RX1 50 (TX1 11).1 (TX1 11).2.1 (TX1 11).2.2.1 ∈ gT := gT_1 154 rfl rfl
theorem wf_X1_53 : Cond.fieldLink RX1 53 (TX1 12).1 (TX1 12).2.1 (TX1 12).2.2.1 ∈ gT := gT_1 156 rfl rfl
theorem wf_X1_56 : Cond.fieldLink RX1 56 (TX1 13).1 (TX1 13).2.1 (TX1 13).2.2.1 ∈ gT := gT_1 158 rfl rfl
theorem wf_X2_14 : Cond.fieldLink RX2 14 (TX2 0).1 (TX2 0).2.1 (TX2 0).2.2.1 ∈ gT := gT_1 105 rfl rfl
theorem wf_X2_20 : Cond.fieldLink RX2 20 (TX2 1).1 (TX2 1).2.1 (TX2 1).2.2.1 ∈ gT := gT_1 107 rfl rfl
theorem wf_X2_23 : Cond.fieldLink RX2 23 (TX2 2).1 (TX2 2).2.1 (TX2 2).2.2.1 ∈ gT := gT_1 109 rfl rfl
theorem wf_X2_26 : Cond.fieldLink RX2 26 (TX2 3).1 (TX2 3).2.1 (TX2 3).2.2.1 ∈ gT := gT_1 111 rfl rfl
theorem wf_X2_29 : Cond.fieldLink RX2 29 (TX2 4).1 (TX2 4).2.1 (TX2 4).2.2.1 ∈ gT := gT_1 113 rfl rfl
theorem wf_X3_14 : Cond.fieldLink RX3 14 (TX3 0).1 (TX3 0).2.1 (TX3 0).2.2.1 ∈ gT := gT_1 239 rfl rfl
theorem wf_X3_20 : Cond.fieldLink RX3 20 (TX3 1).1 (TX3 1).2.1 (TX3 1).2.2.1 ∈ gT := gT_2 1 rfl rfl
theorem wf_X3_23 : Cond.fieldLink RX3 23 (TX3 2).1 (TX3 2).2.1 (TX3 2).2.2.1 ∈ gT := gT_2 3 rfl rfl
theorem wf_X3_26 : Cond.fieldLink RX3 26 (TX3 3).1 (TX3 3).2.1 (TX3 3).2.2.1 ∈ gT := gT_2 5 rfl rfl
theorem wf_X3_29 : Cond.fieldLink RX3 29 (TX3 4).1 (TX3 4).2.1 (TX3 4).2.2.1 ∈ gT := gT_2 7 rfl rfl
theorem wf_X3_32 : Cond.fieldLink RX3 32 (TX3 5).1 (TX3 5).2.1 (TX3 5).2.2.1 ∈ gT := gT_2 9 rfl rfl
theorem wf_X3_35 : Cond.fieldLink RX3 35 (TX3 6).1 (TX3 6).2.1 (TX3 6).2.2.1 ∈ gT := gT_2 11 rfl rfl
theorem wf_X3_38 : Cond.fieldLink RX3 38 (TX3 7).1 (TX3 7).2.1 (TX3 7).2.2.1 ∈ gT := gT_2 13 rfl rfl
theorem wf_X4_14 : Cond.fieldLink RX4 14 (TX4 0).1 (TX4 0).2.1 (TX4 0).2.2.1 ∈ gT := gT_1 84 rfl rfl
theorem wf_X4_20 : Cond.fieldLink RX4 20 (TX4 1).1 (TX4 1).2.1 (TX4 1).2.2.1 ∈ gT := gT_1 86 rfl rfl
theorem wf_X4_23 : Cond.fieldLink RX4 23 (TX4 2).1 (TX4 2).2.1 (TX4 2).2.2.1 ∈ gT := gT_1 88 rfl rfl
theorem wf_X5_14 : Cond.fieldLink RX5 14 (TX5 0).1 (TX5 0).2.1 (TX5 0).2.2.1 ∈ gT := gT_2 58 rfl rfl
theorem wf_X5_20 : Cond.fieldLink RX5 20 (TX5 1).1 (TX5 1).2.1 (TX5 1).2.2.1 ∈ gT := gT_2 60 rfl rfl
theorem wf_X5_23 : Cond.fieldLink RX5 23 (TX5 2).1 (TX5 2).2.1 (TX5 2).2.2.1 ∈ gT := gT_2 62 rfl rfl
theorem wf_X5_26 : Cond.fieldLink RX5 26 (TX5 3).1 (TX5 3).2.1 (TX5 3).2.2.1 ∈ gT := gT_2 64 rfl rfl
theorem wf_X5_29 : Cond.fieldLink RX5 29 (TX5 4).1 (TX5 4).2.1 (TX5 4).2.2.1 ∈ gT := gT_2 66 rfl rfl
theorem wf_X6_14 : Cond.fieldLink RX6 14 (TX6 0).1 (TX6 0).2.1 (TX6 0).2.2.1 ∈ gT := gT_1 197 rfl rfl
theorem wf_X6_20 : Cond.fieldLink RX6 20 (TX6 1).1 (TX6 1).2.1 (TX6 1).2.2.1 ∈ gT := gT_1 199 rfl rfl
theorem wf_X6_23 : Cond.fieldLink RX6 23 (TX6 2).1 (TX6 2).2.1 (TX6 2).2.2.1 ∈ gT := gT_1 201 rfl rfl
theorem wf_X6_26 : Cond.fieldLink RX6 26 (TX6 3).1 (TX6 3).2.1 (TX6 3).2.2.1 ∈ gT := gT_1 203 rfl rfl
theorem wf_X6_29 : Cond.fieldLink RX6 29 (TX6 4).1 (TX6 4).2.1 (TX6 4).2.2.1 ∈ gT := gT_1 205 rfl rfl
theorem wf_X6_32 : Cond.fieldLink RX6 32 (TX6 5).1 (TX6 5).2.1 (TX6 5).2.2.1 ∈ gT := gT_1 206 rfl rfl
theorem wf_X6_37 : Cond.fieldLink RX6 37 (TX6 6).1 (TX6 6).2.1 (TX6 6).2.2.1 ∈ gT := gT_1 207 rfl rfl
theorem wf_X6_40 : Cond.fieldLink RX6 40 (TX6 7).1 (TX6 7).2.1 (TX6 7).2.2.1 ∈ gT := gT_1 209 rfl rfl
theorem wf_X6_44 : Cond.fieldLink RX6 44 (TX6 8).1 (TX6 8).2.1 (TX6 8).2.2.1 ∈ gT := gT_1 211 rfl rfl
theorem wf_X7_14 : Cond.fieldLink RX7 14 (TX7 0).1 (TX7 0).2.1 (TX7 0).2.2.1 ∈ gT := gT_2 40 rfl rfl
theorem wf_X7_20 : Cond.fieldLink RX7 20 (TX7 1).1 (TX7 1).2.1 (TX7 1).2.2.1 ∈ gT := gT_2 41 rfl rfl
theorem wf_X7_23 : Cond.fieldLink RX7 23 (TX7 2).1 (TX7 2).2.1 (TX7 2).2.2.1 ∈ gT := gT_2 42 rfl rfl
theorem wf_X8_7 : Cond.fieldLink RX8 7 (TX8 0).1 (TX8 0).2.1 (TX8 0).2.2.1 ∈ gT := gT_1 39 rfl rfl
theorem wf_X10_7 : Cond.fieldLink RX10 7 (TX10 3).1 (TX10 3).2.1 (TX10 3).2.2.1 ∈ gT := gT_4 230 rfl rfl
theorem wf_X10_13 : Cond.fieldLink RX10 13 (TX10 4).1 (TX10 4).2.1 (TX10 4).2.2.1 ∈ gT := gT_4 231 rfl rfl
theorem wf_X10_17 : Cond.fieldLink RX10 17 (TX10 5).1 (TX10 5).2.1 (TX10 5).2.2.1 ∈ gT := gT_4 232 rfl rfl
theorem wf_X10_20 : Cond.fieldLink RX10 20 (TX10 6).1 (TX10 6).2.1 (TX10 6).2.2.1 ∈ gT := gT_4 233 rfl rfl
theorem wf_X10_23 : Cond.fieldLink RX10 23 (TX10 7).1 (TX10 7).2.1 (TX10 7).2.2.1 ∈ gT := gT_4 234 rfl rfl
theorem wf_X10_27 : Cond.fieldLink RX10 27 (TX10 8).1 (TX10 8).2.1 (TX10 8).2.2.1 ∈ gT := gT_4 235 rfl rfl
theorem wf_X10_30 : Cond.fieldLink RX10 30 (TX10 9).1 (TX10 9).2.1 (TX10 9).2.2.1 ∈ gT := gT_4 236 rfl rfl
theorem wf_X10_33 : Cond.fieldLink RX10 33 (TX10 10).1 (TX10 10).2.1 (TX10 10).2.2.1 ∈ gT := gT_4 237 rfl rfl
theorem wf_X10_36 : Cond.fieldLink RX10 36 (TX10 11).1 (TX10 11).2.1 (TX10 11).2.2.1 ∈ gT := gT_4 238 rfl rfl
theorem wf_X10_39 : Cond.fieldLink RX10 39 (TX10 12).1 (TX10 12).2.1 (TX10 12).2.2.1 ∈ gT := gT_4 239 rfl rfl
theorem wf_X10_42 : Cond.fieldLink RX10 42 (TX10 13).1 (TX10 13).2.1 (TX10 13).2.2.1 ∈ gT := gT_5 0 rfl rfl
theorem wf_X10_45 : Cond.fieldLink RX10 45 (TX10 14).1 (TX10 14).2.1 (TX10 14).2.2.1 ∈ gT := gT_5 1 rfl rfl
theorem wf_X10_48 : Cond.fieldLink RX10 48 (TX10 15).1 (TX10 15).2.1 (TX10 15).2.2.1 ∈ gT := gT_5 2 rfl rfl
theorem wf_X10_51 : Cond.fieldLink RX10 51 (TX10 17).1 (TX10 17).2.1 (TX10 17).2.2.1 ∈ gT := gT_5 4 rfl rfl
theorem wf_X10_54 : Cond.fieldLink RX10 54 (TX10 18).1 (TX10 18).2.1 (TX10 18).2.2.1 ∈ gT := gT_5 5 rfl rfl
theorem wf_X10_57 : Cond.fieldLink RX10 57 (TX10 19).1 (TX10 19).2.1 (TX10 19).2.2.1 ∈ gT := gT_5 6 rfl rfl
theorem wf_X10_60 : Cond.fieldLink RX10 60 (TX10 20).1 (TX10 20).2.1 (TX10 20).2.2.1 ∈ gT := gT_5 7 rfl rfl
theorem wf_X10_63 : Cond.fieldLink RX10 63 (TX10 21).1 (TX10 21).2.1 (TX10 21).2.2.1 ∈ gT := gT_5 8 rfl rfl
theorem wf_X10_66 : Cond.fieldLink RX10 66 (TX10 22).1 (TX10 22).2.1 (TX10 22).2.2.1 ∈ gT := gT_5 9 rfl rfl
theorem wf_X10_69 : Cond.fieldLink RX10 69 (TX10 23).1 (TX10 23).2.1 (TX10 23).2.2.1 ∈ gT := gT_5 10 rfl rfl
theorem wf_X10_72 : Cond.fieldLink RX10 72 (TX10 24).1 (TX10 24).2.1 (TX10 24).2.2.1 ∈ gT := gT_5 11 rfl rfl
theorem wf_X10_75 : Cond.fieldLink RX10 75 (TX10 25).1 (TX10 25).2.1 (TX10 25).2.2.1 ∈ gT := gT_5 12 rfl rfl
theorem wf_X10_78 : Cond.fieldLink RX10 78 (TX10 26).1 (TX10 26).2.1 (TX10 26).2.2.1 ∈ gT := gT_5 13 rfl rfl
theorem wf_X10_81 : Cond.fieldLink RX10 81 (TX10 27).1 (TX10 27).2.1 (TX10 27).2.2.1 ∈ gT := gT_5 14 rfl rfl
theorem wf_X10_84 : Cond.fieldLink RX10 84 (TX10 28).1 (TX10 28).2.1 (TX10 28).2.2.1 ∈ gT := gT_5 15 rfl rfl
theorem wf_X10_87 : Cond.fieldLink RX10 87 (TX10 29).1 (TX10 29).2.1 (TX10 29).2.2.1 ∈ gT := gT_5 16 rfl rfl
theorem wf_X10_90 : Cond.fieldLink RX10 90 (TX10 30).1 (TX10 30).2.1 (TX10 30).2.2.1 ∈ gT := gT_5 17 rfl rfl
theorem wf_X10_93 : Cond.fieldLink RX10 93 (TX10 32).1 (TX10 32).2.1 (TX10 32).2.2.1 ∈ gT := gT_5 19 rfl rfl
theorem wf_X10_96 : Cond.fieldLink RX10 96 (TX10 33).1 (TX10 33).2.1 (TX10 33).2.2.1 ∈ gT := gT_5 20 rfl rfl
theorem wf_X10_99 : Cond.fieldLink RX10 99 (TX10 34).1 (TX10 34).2.1 (TX10 34).2.2.1 ∈ gT := gT_5 21 rfl rfl
theorem wf_X10_102 : Cond.fieldLink RX10 102 (TX10 35).1 (TX10 35).2.1 (TX10 35).2.2.1 ∈ gT := gT_5 22 rfl rfl
theorem wf_X10_105 : Cond.fieldLink RX10 105 (TX10 36).1 (TX10 36).2.1 (TX10 36).2.2.1 ∈ gT := gT_5 23 rfl rfl
theorem wf_X10_108 : Cond.fieldLink RX10 108 (TX10 37).1 (TX10 37).2.1 (TX10 37).2.2.1 ∈ gT := gT_5 24 rfl rfl
theorem wf_X10_111 : Cond.fieldLink RX10 111 (TX10 38).1 (TX10 38).2.1 (TX10 38).2.2.1 ∈ gT := gT_5 25 rfl rfl
theorem wf_X10_114 : Cond.fieldLink RX10 114 (TX10 39).1 (TX10 39).2.1 (TX10 39).2.2.1 ∈ gT := gT_5 26 rfl rfl
theorem wf_X10_117 : Cond.fieldLink RX10 117 (TX10 40).1 (TX10 40).2.1 (TX10 40).2.2.1 ∈ gT := gT_5 27 rfl rfl
theorem wf_X10_120 : Cond.fieldLink RX10 120 (TX10 41).1 (TX10 41).2.1 (TX10 41).2.2.1 ∈ gT := gT_5 28 rfl rfl
theorem wf_X10_123 : Cond.fieldLink RX10 123 (TX10 42).1 (TX10 42).2.1 (TX10 42).2.2.1 ∈ gT := gT_5 29 rfl rfl
theorem wf_X10_126 : Cond.fieldLink RX10 126 (TX10 43).1 (TX10 43).2.1 (TX10 43).2.2.1 ∈ gT := gT_5 30 rfl rfl
theorem wf_X10_129 : Cond.fieldLink RX10 129 (TX10 44).1 (TX10 44).2.1 (TX10 44).2.2.1 ∈ gT := gT_5 31 rfl rfl
theorem wf_X10_132 : Cond.fieldLink RX10 132 (TX10 45).1 (TX10 45).2.1 (TX10 45).2.2.1 ∈ gT := gT_5 32 rfl rfl
theorem wf_X10_135 : Cond.fieldLink RX10 135 (TX10 46).1 (TX10 46).2.1 (TX10 46).2.2.1 ∈ gT := gT_5 33 rfl rfl
theorem wf_X10_138 : Cond.fieldLink RX10 138 (TX10 47).1 (TX10 47).2.1 (TX10 47).2.2.1 ∈ gT := gT_5 34 rfl rfl
theorem wf_X10_141 : Cond.fieldLink RX10 141 (TX10 48).1 (TX10 48).2.1 (TX10 48).2.2.1 ∈ gT := gT_5 35 rfl rfl
theorem wf_X10_144 : Cond.fieldLink RX10 144 (TX10 50).1 (TX10 50).2.1 (TX10 50).2.2.1 ∈ gT := gT_5 37 rfl rfl
theorem wf_X10_147 : Cond.fieldLink RX10 147 (TX10 51).1 (TX10 51).2.1 (TX10 51).2.2.1 ∈ gT := gT_5 38 rfl rfl
theorem wf_X10_150 : Cond.fieldLink RX10 150 (TX10 52).1 (TX10 52).2.1 (TX10 52).2.2.1 ∈ gT := gT_5 39 rfl rfl
theorem wf_X10_153 : Cond.fieldLink RX10 153 (TX10 53).1 (TX10 53).2.1 (TX10 53).2.2.1 ∈ gT := gT_5 40 rfl rfl
theorem wf_X10_160 : Cond.fieldLink RX10 160 (TX10 54).1 (TX10 54).2.1 (TX10 54).2.2.1 ∈ gT := gT_5 41 rfl rfl
theorem wf_X10_167 : Cond.fieldLink RX10 167 (TX10 16).1 (TX10 16).2.1 (TX10 16).2.2.1 ∈ gT := gT_5 3 rfl rfl
theorem wf_X10_192 : Cond.fieldLink RX10 192 (TX10 31).1 (TX10 31).2.1 (TX10 31).2.2.1 ∈ gT := gT_5 18 rfl rfl
theorem wf_X10_205 : Cond.fieldLink RX10 205 (TX10 2).1 (TX10 2).2.1 (TX10 2).2.2.1 ∈ gT := gT_4 229 rfl rfl
theorem wf_X10_221 : Cond.fieldLink RX10 221 (TX10 1).1 (TX10 1).2.1 (TX10 1).2.2.1 ∈ gT := gT_4 228 rfl rfl
theorem wf_X10_224 : Cond.fieldLink RX10 224 (TX10 0).1 (TX10 0).2.1 (TX10 0).2.2.1 ∈ gT := gT_4 227 rfl rfl
theorem wf_X10_267 : Cond.fieldLink RX10 267 (TX10 49).1 (TX10 49).2.1 (TX10 49).2.2.1 ∈ gT := gT_5 36 rfl rfl
theorem wm_X9_9 : Cond.methodLinkNest RX9 9 yX0_init RX9 ∈ lw_tbl := lw_1 29 rfl
theorem wm_X9_18 : Cond.methodLink RX9 18 yX4_init ∈ gT := gT_1 74 rfl rfl
theorem wm_X9_25 : Cond.methodLinkNest RX9 25 yX2_init RX9 ∈ lw_tbl := lw_1 99 rfl
theorem wm_X9_32 : Cond.methodLinkNest RX9 32 yX1_init RX9 ∈ lw_tbl := lw_1 128 rfl
theorem wm_X9_39 : Cond.methodLinkNest RX9 39 yX6_init RX9 ∈ lw_tbl := lw_1 191 rfl
theorem wm_X9_46 : Cond.methodLinkNest RX9 46 yX3_init RX9 ∈ lw_tbl := lw_1 233 rfl
theorem wm_X9_53 : Cond.methodLinkNest RX9 53 yX7_init RX9 ∈ lw_tbl := lw_2 34 rfl
theorem wm_X9_60 : Cond.methodLinkNest RX9 60 yX5_init RX9 ∈ lw_tbl := lw_2 52 rfl
theorem wm_X9_79 : Cond.methodLink RX9 79 yX9_mustExist ∈ gT := gT_2 141 rfl rfl
theorem wm_X9_84 : Cond.methodLink RX9 84 yX9_mustBeIn ∈ gT := gT_2 213 rfl rfl
theorem wm_X9_92 : Cond.methodLink RX9 92 yX0_placeOf ∈ gT := gT_2 232 rfl rfl
theorem wm_X9_96 : Cond.methodLink RX9 96 yX8_swap ∈ gT := gT_2 235 rfl rfl
theorem wm_X9_104 : Cond.methodLink RX9 104 yX8_put ∈ gT := gT_3 11 rfl rfl
theorem wm_X9_138 : Cond.methodLink RX9 138 yX9_mustHold ∈ gT := gT_3 56 rfl rfl
theorem wm_X9_142 : Cond.methodLink RX9 142 yX0_addLanded ∈ gT := gT_3 75 rfl rfl
theorem wm_X9_145 : Cond.methodLink RX9 145 yX0_isAboveQuota ∈ gT := gT_3 84 rfl rfl
theorem wm_X9_149 : Cond.methodLink RX9 149 yX1_rankOf ∈ gT := gT_3 89 rfl rfl
theorem wm_X9_153 : Cond.methodLink RX9 153 yX1_add ∈ gT := gT_3 92 rfl rfl
theorem wm_X9_157 : Cond.methodLink RX9 157 yX1_countWaiting ∈ gT := gT_3 108 rfl rfl
theorem wm_X9_161 : Cond.methodLink RX9 161 yX9_countWaitingBoxes ∈ gT := gT_3 117 rfl rfl
theorem wm_X9_164 : Cond.methodLink RX9 164 yX9_offerBoats ∈ gT := gT_3 124 rfl rfl
theorem wm_X9_170 : Cond.methodLink RX9 170 yX6_countIn ∈ gT := gT_3 168 rfl rfl
theorem wm_X9_174 : Cond.methodLink RX9 174 yX6_nextIn ∈ gT := gT_3 172 rfl rfl
theorem wm_X9_177 : Cond.methodLink RX9 177 yX9_bringToClock ∈ gT := gT_3 176 rfl rfl
theorem wm_X9_180 : Cond.methodLink RX9 180 yX9_beginRound ∈ gT := gT_3 180 rfl rfl
theorem wm_X9_185 : Cond.methodLink RX9 185 yX9_withdrawRest ∈ gT := gT_3 199 rfl rfl
theorem wm_X9_188 : Cond.methodLink RX9 188 yX6_clear ∈ gT := gT_3 227 rfl rfl
theorem wm_X9_194 : Cond.methodLink RX9 194 yX8_fill ∈ gT := gT_3 145 rfl rfl
theorem wm_X9_200 : Cond.methodLink RX9 200 yX8_at ∈ gT := gT_3 122 rfl rfl
theorem wm_X9_203 : Cond.methodLink RX9 203 yX7_isMade ∈ gT := gT_3 238 rfl rfl
theorem wm_X9_209 : Cond.methodLink RX9 209 yX7_make ∈ gT := gT_4 3 rfl rfl
theorem wm_X9_217 : Cond.methodLink RX9 217 yX6_left ∈ gT := gT_3 203 rfl rfl
theorem wm_X9_220 : Cond.methodLink RX9 220 yX9_costOfFirst ∈ gT := gT_4 14 rfl rfl
theorem wm_X9_223 : Cond.methodLink RX9 223 yX2_leftOf ∈ gT := gT_4 18 rfl rfl
theorem wm_X9_226 : Cond.methodLink RX9 226 yX9_sellFirst ∈ gT := gT_4 23 rfl rfl
theorem wm_X9_229 : Cond.methodLink RX9 229 yX9_goOn ∈ gT := gT_4 31 rfl rfl
theorem wm_X9_232 : Cond.methodLink RX9 232 yX9_tickHalls ∈ gT := gT_4 42 rfl rfl
theorem wm_X9_235 : Cond.methodLink RX9 235 yX9_sendLorries ∈ gT := gT_4 97 rfl rfl
theorem wm_X9_239 : Cond.methodLink RX9 239 yX5_add ∈ gT := gT_4 112 rfl rfl
theorem wm_X9_244 : Cond.methodLink RX9 244 Lib.Math.min.name ∈ gT := gT_4 124 rfl rfl
theorem wm_X9_249 : Cond.methodLink RX9 249 Lib.Math.max.name ∈ gT := gT_4 127 rfl rfl
theorem wm_X9_252 : Cond.methodLink RX9 252 yX8_add ∈ gT := gT_3 123 rfl rfl
theorem wm_X9_263 : Cond.methodLink RX9 263 yX1_centsLacking ∈ gT := gT_4 135 rfl rfl
theorem wm_X9_273 : Cond.methodLink RX9 273 Lib.MathLoose.max_long.x ∈ gT := gT_4 147 rfl rfl
theorem wm_X9_282 : Cond.methodLink RX9 282 yX1_freshOf ∈ gT := gT_4 158 rfl rfl
theorem wm_X9_288 : Cond.methodLink RX9 288 yX1_kindOf ∈ gT := gT_3 149 rfl rfl
theorem wm_X9_291 : Cond.methodLink RX9 291 yX1_sizeOf ∈ gT := gT_4 166 rfl rfl
theorem wm_X9_304 : Cond.methodLink RX9 304 yX1_sumOf ∈ gT := gT_4 202 rfl rfl
theorem wm_X9_333 : Cond.methodLink RX9 333 yX1_isWaiting ∈ gT := gT_3 121 rfl rfl
theorem wm_X9_340 : Cond.methodLink RX9 340 yX0_countWaiting ∈ gT := gT_3 128 rfl rfl
theorem wm_X9_344 : Cond.methodLink RX9 344 yX0_findWaiting ∈ gT := gT_3 137 rfl rfl
theorem wm_X9_348 : Cond.methodLink RX9 348 yX9_offerBoat ∈ gT := gT_3 141 rfl rfl
theorem wm_X9_354 : Cond.methodLink RX9 354 yX6_add ∈ gT := gT_3 152 rfl rfl
theorem wm_X9_356 : Cond.methodLink RX9 356 yX6_addBox ∈ gT := gT_3 158 rfl rfl
theorem wm_X9_359 : Cond.methodLink RX9 359 yX1_move ∈ gT := gT_3 164 rfl rfl
theorem wm_X9_362 : Cond.methodLink RX9 362 yX9_tickFalling ∈ gT := gT_4 46 rfl rfl
theorem wm_X9_365 : Cond.methodLink RX9 365 yX9_tickStanding ∈ gT := gT_4 75 rfl rfl
theorem wm_X9_368 : Cond.methodLink RX9 368 yX9_tickTaking ∈ gT := gT_4 93 rfl rfl
theorem wm_X9_371 : Cond.methodLink RX9 371 yX7_isAnyHeard ∈ gT := gT_4 50 rfl rfl
theorem wm_X9_377 : Cond.methodLink RX9 377 yX2_greatestDelay ∈ gT := gT_4 59 rfl rfl
theorem wm_X9_380 : Cond.methodLink RX9 380 yX4_minimumOf ∈ gT := gT_4 66 rfl rfl
theorem wm_X9_383 : Cond.methodLink RX9 383 yX9_findWinner ∈ gT := gT_4 79 rfl rfl
theorem wm_X9_386 : Cond.methodLink RX9 386 yX7_priceOf ∈ gT := gT_4 84 rfl rfl
theorem wm_X9_389 : Cond.methodLink RX9 389 yX6_boxAt ∈ gT := gT_3 207 rfl rfl
theorem wm_X9_392 : Cond.methodLink RX9 392 yX7_isHeard ∈ gT := gT_4 83 rfl rfl
theorem wm_X9_396 : Cond.methodLink RX9 396 yX7_isAhead ∈ gT := gT_4 88 rfl rfl
theorem wm_X9_399 : Cond.methodLink RX9 399 yX7_forget ∈ gT := gT_3 184 rfl rfl
theorem wm_X9_402 : Cond.methodLink RX9 402 yX1_sell ∈ gT := gT_4 27 rfl rfl
theorem wm_X9_408 : Cond.methodLink RX9 408 yX9_withdraw ∈ gT := gT_3 211 rfl rfl
theorem wm_X9_411 : Cond.methodLink RX9 411 yX1_canBeCarried ∈ gT := gT_3 215 rfl rfl
theorem wm_X9_414 : Cond.methodLink RX9 414 yX1_carry ∈ gT := gT_3 222 rfl rfl
theorem wm_X9_420 : Cond.methodLink RX9 420 yX9_fetch ∈ gT := gT_4 101 rfl rfl
theorem wm_X0_11 : Cond.methodLink RX0 11 yX8_init ∈ gT := gT_1 35 rfl rfl
theorem wm_X0_38 : Cond.methodLink RX0 38 yX8_add ∈ gT := gT_3 79 rfl rfl
theorem wm_X0_41 : Cond.methodLink RX0 41 yX0_placeOf ∈ gT := gT_3 83 rfl rfl
theorem wm_X0_45 : Cond.methodLink RX0 45 yX8_at ∈ gT := gT_3 88 rfl rfl
theorem wm_X0_49 : Cond.methodLink RX0 49 yX0_waits ∈ gT := gT_3 132 rfl rfl
theorem wm_X1_11 : Cond.methodLink RX1 11 yX8_init ∈ gT := gT_1 133 rfl rfl
theorem wm_X1_60 : Cond.methodLink RX1 60 yX8_put ∈ gT := gT_3 96 rfl rfl
theorem wm_X1_63 : Cond.methodLink RX1 63 yX8_add ∈ gT := gT_3 97 rfl rfl
theorem wm_X1_66 : Cond.methodLink RX1 66 yX1_sumOf ∈ gT := gT_3 98 rfl rfl
theorem wm_X1_70 : Cond.methodLink RX1 70 yX8_at ∈ gT := gT_3 116 rfl rfl
theorem wm_X1_73 : Cond.methodLink RX1 73 yX1_isWaiting ∈ gT := gT_3 112 rfl rfl
theorem wm_X1_77 : Cond.methodLink RX1 77 yX1_move ∈ gT := gT_3 226 rfl rfl
theorem wm_X1_80 : Cond.methodLink RX1 80 yX1_freshOf ∈ gT := gT_3 219 rfl rfl
theorem wm_X2_11 : Cond.methodLink RX2 11 yX8_init ∈ gT := gT_1 104 rfl rfl
theorem wm_X2_32 : Cond.methodLink RX2 32 yX8_at ∈ gT := gT_4 22 rfl rfl
theorem wm_X2_36 : Cond.methodLink RX2 36 Lib.Math.max.name ∈ gT := gT_4 63 rfl rfl
theorem wm_X3_11 : Cond.methodLink RX3 11 yX8_init ∈ gT := gT_1 238 rfl rfl
theorem wm_X4_11 : Cond.methodLink RX4 11 yX8_init ∈ gT := gT_1 79 rfl rfl
theorem wm_X4_26 : Cond.methodLink RX4 26 yX8_put ∈ gT := gT_1 80 rfl rfl
theorem wm_X4_29 : Cond.methodLink RX4 29 yX1_kindOf ∈ gT := gT_4 70 rfl rfl
theorem wm_X4_35 : Cond.methodLink RX4 35 yX8_at ∈ gT := gT_4 71 rfl rfl
theorem wm_X4_38 : Cond.methodLink RX4 38 yX1_sizeOf ∈ gT := gT_4 72 rfl rfl
theorem wm_X5_11 : Cond.methodLink RX5 11 yX8_init ∈ gT := gT_2 57 rfl rfl
theorem wm_X5_33 : Cond.methodLink RX5 33 yX8_put ∈ gT := gT_4 116 rfl rfl
theorem wm_X6_11 : Cond.methodLink RX6 11 yX8_init ∈ gT := gT_1 196 rfl rfl
theorem wm_X6_47 : Cond.methodLink RX6 47 yX8_put ∈ gT := gT_3 156 rfl rfl
theorem wm_X6_50 : Cond.methodLink RX6 50 yX8_swap ∈ gT := gT_3 157 rfl rfl
theorem wm_X6_54 : Cond.methodLink RX6 54 yX8_at ∈ gT := gT_3 162 rfl rfl
theorem wm_X6_58 : Cond.methodLink RX6 58 yX8_add ∈ gT := gT_3 163 rfl rfl
theorem wm_X7_11 : Cond.methodLink RX7 11 yX8_init ∈ gT := gT_2 39 rfl rfl
theorem wm_X7_26 : Cond.methodLink RX7 26 yX7_placeOf ∈ gT := gT_3 188 rfl rfl
theorem wm_X7_30 : Cond.methodLink RX7 30 yX8_put ∈ gT := gT_3 191 rfl rfl
theorem wm_X7_33 : Cond.methodLink RX7 33 yX8_at ∈ gT := gT_4 2 rfl rfl
theorem wm_X7_37 : Cond.methodLink RX7 37 yX7_isMade ∈ gT := gT_4 58 rfl rfl
theorem wm_X7_41 : Cond.methodLink RX7 41 yX7_isHeard ∈ gT := gT_4 54 rfl rfl
theorem wm_X7_45 : Cond.methodLink RX7 45 yX7_priceOf ∈ gT := gT_4 92 rfl rfl
theorem wm_X8_13 : Cond.methodLink RX8 13 yX8_at ∈ gT := gT_2 239 rfl rfl
theorem wm_X8_17 : Cond.methodLink RX8 17 yX8_put ∈ gT := gT_3 3 rfl rfl
theorem wm_L_7 : Cond.methodLink RL 7 yX9_quota ∈ gT := gT_2 137 rfl rfl
theorem wm_L_17 : Cond.methodLink RL 17 yX9_aid ∈ gT := gT_3 7 rfl rfl
theorem wm_L_21 : Cond.methodLink RL 21 yX9_kind ∈ gT := gT_3 15 rfl rfl
theorem wm_L_25 : Cond.methodLink RL 25 yX9_step ∈ gT := gT_3 22 rfl rfl
theorem wm_L_29 : Cond.methodLink RL 29 yX9_buyer ∈ gT := gT_3 29 rfl rfl
theorem wm_L_32 : Cond.methodLink RL 32 yX9_power ∈ gT := gT_3 37 rfl rfl
theorem wm_L_36 : Cond.methodLink RL 36 yX9_line ∈ gT := gT_3 44 rfl rfl
theorem wm_L_39 : Cond.methodLink RL 39 yX9_land ∈ gT := gT_3 52 rfl rfl
theorem wm_L_45 : Cond.methodLink RL 45 yX9_open ∈ gT := gT_3 104 rfl rfl
theorem wm_L_49 : Cond.methodLink RL 49 yX9_end ∈ gT := gT_3 195 rfl rfl
theorem wm_L_52 : Cond.methodLink RL 52 yX9_press ∈ gT := gT_3 234 rfl rfl
theorem wm_L_55 : Cond.methodLink RL 55 yX9_take ∈ gT := gT_4 10 rfl rfl
theorem wm_L_58 : Cond.methodLink RL 58 yX9_pass ∈ gT := gT_4 38 rfl rfl
theorem wm_L_62 : Cond.methodLink RL 62 yX9_lorry ∈ gT := gT_4 108 rfl rfl
theorem wm_L_65 : Cond.methodLink RL 65 yX9_pay ∈ gT := gT_4 120 rfl rfl
theorem wm_L_68 : Cond.methodLink RL 68 yX9_claim ∈ gT := gT_4 131 rfl rfl
theorem wm_L_71 : Cond.methodLink RL 71 yX9_settle ∈ gT := gT_4 142 rfl rfl
theorem wm_L_74 : Cond.methodLink RL 74 yX9_told ∈ gT := gT_4 154 rfl rfl
theorem wm_L_77 : Cond.methodLink RL 77 yX9_lot ∈ gT := gT_4 162 rfl rfl
theorem wm_L_80 : Cond.methodLink RL 80 yX9_hall ∈ gT := gT_4 170 rfl rfl
theorem wm_L_83 : Cond.methodLink RL 83 yX9_account ∈ gT := gT_4 177 rfl rfl
theorem wm_L_86 : Cond.methodLink RL 86 yX9_ship ∈ gT := gT_4 184 rfl rfl
theorem wm_L_89 : Cond.methodLink RL 89 yX9_kilos ∈ gT := gT_4 191 rfl rfl
theorem wm_L_92 : Cond.methodLink RL 92 yX9_kilosAnew ∈ gT := gT_4 198 rfl rfl
theorem wm_L_95 : Cond.methodLink RL 95 yX9_average ∈ gT := gT_4 206 rfl rfl
theorem wm_L_98 : Cond.methodLink RL 98 yX9_loaded ∈ gT := gT_4 213 rfl rfl
theorem wm_L_101 : Cond.methodLink RL 101 yX9_init ∈ gT := gT_1 21 rfl rfl
theorem wm_L_104 : Cond.methodLink RL 104 yX10_init ∈ gT := gT_4 219 rfl rfl
theorem wm_L_105 : Cond.methodLink RL 105 yL_quota ∈ gT := gT_2 132 rfl rfl
theorem wm_L_110 : Cond.methodLink RL 110 yX10_quota ∈ gT := gT_5 158 rfl rfl
theorem wm_L_111 : Cond.methodLink RL 111 yX10_thrown ∈ gT := gT_5 154 rfl rfl
theorem wm_L_114 : Cond.methodLink RL 114 yL_aid ∈ gT := gT_3 4 rfl rfl
theorem wm_L_117 : Cond.methodLink RL 117 yX10_aid ∈ gT := gT_5 176 rfl rfl
theorem wm_L_118 : Cond.methodLink RL 118 yL_kind ∈ gT := gT_3 12 rfl rfl
theorem wm_L_121 : Cond.methodLink RL 121 yX10_kind ∈ gT := gT_5 180 rfl rfl
theorem wm_L_122 : Cond.methodLink RL 122 yL_step ∈ gT := gT_3 19 rfl rfl
theorem wm_L_125 : Cond.methodLink RL 125 yX10_step ∈ gT := gT_5 187 rfl rfl
theorem wm_L_126 : Cond.methodLink RL 126 yL_buyer ∈ gT := gT_3 26 rfl rfl
theorem wm_L_128 : Cond.methodLink RL 128 yX10_buyer ∈ gT := gT_5 191 rfl rfl
theorem wm_L_129 : Cond.methodLink RL 129 yX9_draw ∈ gT := gT_2 116 rfl rfl
theorem wm_L_132 : Cond.methodLink RL 132 yX10_draw ∈ gT := gT_5 196 rfl rfl
theorem wm_L_133 : Cond.methodLink RL 133 yL_power ∈ gT := gT_3 34 rfl rfl
theorem wm_L_136 : Cond.methodLink RL 136 yX10_power ∈ gT := gT_5 200 rfl rfl
theorem wm_L_137 : Cond.methodLink RL 137 yL_line ∈ gT := gT_3 41 rfl rfl
theorem wm_L_139 : Cond.methodLink RL 139 yX10_line ∈ gT := gT_5 204 rfl rfl
theorem wm_L_140 : Cond.methodLink RL 140 yL_land ∈ gT := gT_3 48 rfl rfl
theorem wm_L_143 : Cond.methodLink RL 143 yX10_land ∈ gT := gT_5 208 rfl rfl
theorem wm_L_144 : Cond.methodLink RL 144 yL_open ∈ gT := gT_3 101 rfl rfl
theorem wm_L_147 : Cond.methodLink RL 147 yX10_open ∈ gT := gT_5 212 rfl rfl
theorem wm_L_148 : Cond.methodLink RL 148 yL_end ∈ gT := gT_3 192 rfl rfl
theorem wm_L_150 : Cond.methodLink RL 150 yX10_end ∈ gT := gT_6 4 rfl rfl
theorem wm_L_151 : Cond.methodLink RL 151 yL_press ∈ gT := gT_3 231 rfl rfl
theorem wm_L_153 : Cond.methodLink RL 153 yX10_press ∈ gT := gT_6 16 rfl rfl
theorem wm_L_154 : Cond.methodLink RL 154 yL_take ∈ gT := gT_4 7 rfl rfl
theorem wm_L_156 : Cond.methodLink RL 156 yX10_take ∈ gT := gT_6 20 rfl rfl
theorem wm_L_157 : Cond.methodLink RL 157 yL_pass ∈ gT := gT_4 35 rfl rfl
theorem wm_L_160 : Cond.methodLink RL 160 yX10_pass ∈ gT := gT_6 48 rfl rfl
theorem wm_L_161 : Cond.methodLink RL 161 yL_lorry ∈ gT := gT_4 105 rfl rfl
theorem wm_L_163 : Cond.methodLink RL 163 yX10_lorry ∈ gT := gT_6 84 rfl rfl
theorem wm_L_164 : Cond.methodLink RL 164 yL_pay ∈ gT := gT_4 117 rfl rfl
theorem wm_L_166 : Cond.methodLink RL 166 yX10_pay ∈ gT := gT_6 88 rfl rfl
theorem wm_L_167 : Cond.methodLink RL 167 yL_claim ∈ gT := gT_4 128 rfl rfl
theorem wm_L_169 : Cond.methodLink RL 169 yX10_claim ∈ gT := gT_6 95 rfl rfl
theorem wm_L_170 : Cond.methodLink RL 170 yL_settle ∈ gT := gT_4 139 rfl rfl
theorem wm_L_172 : Cond.methodLink RL 172 yX10_settle ∈ gT := gT_6 103 rfl rfl
theorem wm_L_173 : Cond.methodLink RL 173 yX9_now ∈ gT := gT_2 120 rfl rfl
theorem wm_L_176 : Cond.methodLink RL 176 yX10_now ∈ gT := gT_6 110 rfl rfl
theorem wm_L_177 : Cond.methodLink RL 177 yX9_day ∈ gT := gT_2 124 rfl rfl
theorem wm_L_180 : Cond.methodLink RL 180 yX10_day ∈ gT := gT_6 114 rfl rfl
theorem wm_L_181 : Cond.methodLink RL 181 yX9_isOpen ∈ gT := gT_2 128 rfl rfl
theorem wm_L_185 : Cond.methodLink RL 185 yX10_isOpen ∈ gT := gT_6 118 rfl rfl
theorem wm_L_186 : Cond.methodLink RL 186 yL_told ∈ gT := gT_4 151 rfl rfl
theorem wm_L_188 : Cond.methodLink RL 188 yX10_told ∈ gT := gT_6 122 rfl rfl
theorem wm_L_189 : Cond.methodLink RL 189 yL_lot ∈ gT := gT_4 159 rfl rfl
theorem wm_L_191 : Cond.methodLink RL 191 yX10_lot ∈ gT := gT_6 126 rfl rfl
theorem wm_L_192 : Cond.methodLink RL 192 yL_hall ∈ gT := gT_4 167 rfl rfl
theorem wm_L_194 : Cond.methodLink RL 194 yX10_hall ∈ gT := gT_6 130 rfl rfl
theorem wm_L_195 : Cond.methodLink RL 195 yL_account ∈ gT := gT_4 174 rfl rfl
theorem wm_L_197 : Cond.methodLink RL 197 yX10_account ∈ gT := gT_6 138 rfl rfl
theorem wm_L_198 : Cond.methodLink RL 198 yL_ship ∈ gT := gT_4 181 rfl rfl
theorem wm_L_200 : Cond.methodLink RL 200 yX10_ship ∈ gT := gT_6 142 rfl rfl
theorem wm_L_201 : Cond.methodLink RL 201 yL_kilos ∈ gT := gT_4 188 rfl rfl
theorem wm_L_203 : Cond.methodLink RL 203 yX10_kilos ∈ gT := gT_6 146 rfl rfl
theorem wm_L_204 : Cond.methodLink RL 204 yL_kilosAnew ∈ gT := gT_4 195 rfl rfl
theorem wm_L_206 : Cond.methodLink RL 206 yX10_kilosAnew ∈ gT := gT_6 153 rfl rfl
theorem wm_L_207 : Cond.methodLink RL 207 yL_average ∈ gT := gT_4 203 rfl rfl
theorem wm_L_209 : Cond.methodLink RL 209 yX10_average ∈ gT := gT_6 158 rfl rfl
theorem wm_L_210 : Cond.methodLink RL 210 yL_loaded ∈ gT := gT_4 210 rfl rfl
theorem wm_L_212 : Cond.methodLink RL 212 yX10_loaded ∈ gT := gT_6 162 rfl rfl
theorem wm_X10_156 : Cond.methodLink RX10 156 yX10_begins ∈ gT := gT_4 223 rfl rfl
theorem wm_X10_163 : Cond.methodLink RX10 163 yX10_isIn ∈ gT := gT_5 165 rfl rfl
theorem wm_X10_170 : Cond.methodLink RX10 170 yX10_isEight ∈ gT := gT_5 162 rfl rfl
theorem wm_X10_174 : Cond.methodLink RX10 174 yX10_isKind ∈ gT := gT_5 168 rfl rfl
theorem wm_X10_178 : Cond.methodLink RX10 178 yX10_fails ∈ gT := gT_5 172 rfl rfl
theorem wm_X10_181 : Cond.methodLink RX10 181 yX10_isHall ∈ gT := gT_5 184 rfl rfl
theorem wm_X10_185 : Cond.methodLink RX10 185 yX10_isToSell ∈ gT := gT_5 220 rfl rfl
theorem wm_X10_189 : Cond.methodLink RX10 189 yX10_size ∈ gT := gT_5 233 rfl rfl
theorem wm_X10_195 : Cond.methodLink RX10 195 yX10_ready ∈ gT := gT_5 216 rfl rfl
theorem wm_X10_199 : Cond.methodLink RX10 199 yX10_drawn ∈ gT := gT_5 228 rfl rfl
theorem wm_X10_202 : Cond.methodLink RX10 202 yX10_parts ∈ gT := gT_5 236 rfl rfl
theorem wm_X10_209 : Cond.methodLink RX10 209 yX10_drawsAll ∈ gT := gT_5 224 rfl rfl
theorem wm_X10_213 : Cond.methodLink RX10 213 yX10_comes ∈ gT := gT_6 0 rfl rfl
theorem wm_X10_215 : Cond.methodLink RX10 215 yX10_withdraws ∈ gT := gT_6 12 rfl rfl
theorem wm_X10_218 : Cond.methodLink RX10 218 yX10_withdrawsAll ∈ gT := gT_6 8 rfl rfl
theorem wm_X10_227 : Cond.methodLink RX10 227 yX10_firstOf ∈ gT := gT_6 40 rfl rfl
theorem wm_X10_230 : Cond.methodLink RX10 230 yX10_leftOf ∈ gT := gT_6 24 rfl rfl
theorem wm_X10_233 : Cond.methodLink RX10 233 yX10_ends ∈ gT := gT_6 44 rfl rfl
theorem wm_X10_236 : Cond.methodLink RX10 236 yX10_costOf ∈ gT := gT_6 28 rfl rfl
theorem wm_X10_240 : Cond.methodLink RX10 240 yX10_canPay ∈ gT := gT_6 32 rfl rfl
theorem wm_X10_244 : Cond.methodLink RX10 244 yX10_gets ∈ gT := gT_6 36 rfl rfl
theorem wm_X10_248 : Cond.methodLink RX10 248 yX10_hears ∈ gT := gT_6 60 rfl rfl
theorem wm_X10_251 : Cond.methodLink RX10 251 yX10_slowest ∈ gT := gT_6 64 rfl rfl
theorem wm_X10_255 : Cond.methodLink RX10 255 yX10_isBefore ∈ gT := gT_6 72 rfl rfl
theorem wm_X10_258 : Cond.methodLink RX10 258 yX10_falls ∈ gT := gT_6 56 rfl rfl
theorem wm_X10_261 : Cond.methodLink RX10 261 yX10_stands ∈ gT := gT_6 68 rfl rfl
theorem wm_X10_264 : Cond.methodLink RX10 264 yX10_waits ∈ gT := gT_6 76 rfl rfl
theorem wm_X10_270 : Cond.methodLink RX10 270 yX10_leaves ∈ gT := gT_6 80 rfl rfl
theorem wm_X10_273 : Cond.methodLink RX10 273 yX10_passes ∈ gT := gT_6 52 rfl rfl
theorem wm_X10_276 : Cond.methodLink RX10 276 yX10_areCents ∈ gT := gT_6 92 rfl rfl
theorem wm_X10_279 : Cond.methodLink RX10 279 yX10_isBox ∈ gT := gT_6 99 rfl rfl
theorem wm_X10_287 : Cond.methodLink RX10 287 yX10_lotsOf ∈ gT := gT_6 134 rfl rfl
theorem wm_X10_290 : Cond.methodLink RX10 290 yX10_isOf ∈ gT := gT_6 150 rfl rfl
theorem wm_X10_293 : Cond.methodLink RX10 293 yX10_kilos ∈ gT := gT_6 157 rfl rfl
theorem wk_X9_83 : Cond.constant RX9 83 100000 ∈ gT := gT_2 212 rfl rfl
theorem wk_X9_122 : Cond.constant RX9 122 100000000 ∈ gT := gT_3 33 rfl rfl
theorem wk_X9_343 : Cond.constant RX9 343 1103515245 ∈ gT := gT_3 136 rfl rfl
theorem wk_X9_272 : Cond.constant RX9 272 10000000 ∈ gT := gT_4 146 rfl rfl
theorem wk_X10_177 : Cond.constant RX10 177 100000 ∈ gT := gT_5 171 rfl rfl
theorem wk_X10_184 : Cond.constant RX10 184 100000000 ∈ gT := gT_5 195 rfl rfl
theorem wk_X10_188 : Cond.constant RX10 188 1103515245 ∈ gT := gT_5 232 rfl rfl
theorem wk_X10_282 : Cond.constant RX10 282 10000000 ∈ gT := gT_6 107 rfl rfl
theorem wk_X9_276 : Cond.constantLong RX9 276 100 ∈ gT := gT_4 150 rfl rfl
theorem wk_X10_283 : Cond.constantLong RX10 283 3 ∈ gT := gT_6 108 rfl rfl
theorem wk_X10_285 : Cond.constantLong RX10 285 100 ∈ gT := gT_6 109 rfl rfl
theorem wc_X9_init : Cond.code yX9_init cX9_init 1 none ∈ gT := gT_1 23 rfl rfl
theorem wi_X9_init : Cond.instanceMethod yX9_init ∈ gT := gT_1 22 rfl rfl
theorem wc_X0_init : Cond.code yX0_init cX0_init 1 none ∈ gT := gT_1 31 rfl rfl
theorem wi_X0_init : Cond.instanceMethod yX0_init ∈ gT := gT_1 30 rfl rfl
theorem wc_X8_init : Cond.code yX8_init cX8_init 4 none ∈ gT := gT_1 37 rfl rfl
theorem wi_X8_init : Cond.instanceMethod yX8_init ∈ gT := gT_1 36 rfl rfl
theorem wc_X4_init : Cond.code yX4_init cX4_init 2 none ∈ gT := gT_1 76 rfl rfl
theorem wi_X4_init : Cond.instanceMethod yX4_init ∈ gT := gT_1 75 rfl rfl
theorem wc_X8_put : Cond.code yX8_put cX8_put 3 none ∈ gT := gT_1 83 rfl rfl
theorem wi_X8_put : Cond.instanceMethod yX8_put ∈ gT := gT_1 81 rfl rfl
theorem ws_X8_put : Cond.selects RX8 yX8_put yX8_put ∈ gT := gT_1 82 rfl rfl
theorem wc_X2_init : Cond.code yX2_init cX2_init 1 none ∈ gT := gT_1 101 rfl rfl
theorem wi_X2_init : Cond.instanceMethod yX2_init ∈ gT := gT_1 100 rfl rfl
theorem wc_X1_init : Cond.code yX1_init cX1_init 1 none ∈ gT := gT_1 130 rfl rfl
theorem wi_X1_init : Cond.instanceMethod yX1_init ∈ gT := gT_1 129 rfl rfl
theorem wc_X6_init : Cond.code yX6_init cX6_init 1 none ∈ gT := gT_1 193 rfl rfl
theorem wi_X6_init : Cond.instanceMethod yX6_init ∈ gT := gT_1 192 rfl rfl
theorem wc_X3_init : Cond.code yX3_init cX3_init 1 none ∈ gT := gT_1 235 rfl rfl
theorem wi_X3_init : Cond.instanceMethod yX3_init ∈ gT := gT_1 234 rfl rfl
theorem wc_X7_init : Cond.code yX7_init cX7_init 1 none ∈ gT := gT_2 36 rfl rfl
theorem wi_X7_init : Cond.instanceMethod yX7_init ∈ gT := gT_2 35 rfl rfl
theorem wc_X5_init : Cond.code yX5_init cX5_init 1 none ∈ gT := gT_2 54 rfl rfl
theorem wi_X5_init : Cond.instanceMethod yX5_init ∈ gT := gT_2 53 rfl rfl
theorem wc_X9_draw : Cond.code yX9_draw cX9_draw 3 (some .int) ∈ gT := gT_2 119 rfl rfl
theorem wi_X9_draw : Cond.instanceMethod yX9_draw ∈ gT := gT_2 117 rfl rfl
theorem ws_X9_draw : Cond.selects RX9 yX9_draw yX9_draw ∈ gT := gT_2 118 rfl rfl
theorem wc_X9_now : Cond.code yX9_now cX9_now 1 (some .int) ∈ gT := gT_2 123 rfl rfl
theorem wi_X9_now : Cond.instanceMethod yX9_now ∈ gT := gT_2 121 rfl rfl
theorem ws_X9_now : Cond.selects RX9 yX9_now yX9_now ∈ gT := gT_2 122 rfl rfl
theorem wc_X9_day : Cond.code yX9_day cX9_day 1 (some .int) ∈ gT := gT_2 127 rfl rfl
theorem wi_X9_day : Cond.instanceMethod yX9_day ∈ gT := gT_2 125 rfl rfl
theorem ws_X9_day : Cond.selects RX9 yX9_day yX9_day ∈ gT := gT_2 126 rfl rfl
theorem wc_X9_isOpen : Cond.code yX9_isOpen cX9_isOpen 1 (some .boolean) ∈ gT := gT_2 131 rfl rfl
theorem wi_X9_isOpen : Cond.instanceMethod yX9_isOpen ∈ gT := gT_2 129 rfl rfl
theorem ws_X9_isOpen : Cond.selects RX9 yX9_isOpen yX9_isOpen ∈ gT := gT_2 130 rfl rfl
theorem wt_L_quota : Cond.static yL_quota ∈ gT := gT_2 133 rfl rfl
theorem wc_X9_quota : Cond.code yX9_quota cX9_quota 4 (some .int) ∈ gT := gT_2 140 rfl rfl
theorem wi_X9_quota : Cond.instanceMethod yX9_quota ∈ gT := gT_2 138 rfl rfl
theorem ws_X9_quota : Cond.selects RX9 yX9_quota yX9_quota ∈ gT := gT_2 139 rfl rfl
theorem wc_X9_mustExist : Cond.code yX9_mustExist cX9_mustExist 2 none ∈ gT := gT_2 143 rfl rfl
theorem wt_X9_mustExist : Cond.static yX9_mustExist ∈ gT := gT_2 142 rfl rfl
theorem wc_X9_mustBeIn : Cond.code yX9_mustBeIn cX9_mustBeIn 3 none ∈ gT := gT_2 215 rfl rfl
theorem wt_X9_mustBeIn : Cond.static yX9_mustBeIn ∈ gT := gT_2 214 rfl rfl
theorem wc_X0_placeOf : Cond.code yX0_placeOf cX0_placeOf 2 (some .int) ∈ gT := gT_2 234 rfl rfl
theorem wt_X0_placeOf : Cond.static yX0_placeOf ∈ gT := gT_2 233 rfl rfl
theorem wc_X8_swap : Cond.code yX8_swap cX8_swap 4 (some .int) ∈ gT := gT_2 238 rfl rfl
theorem wi_X8_swap : Cond.instanceMethod yX8_swap ∈ gT := gT_2 236 rfl rfl
theorem ws_X8_swap : Cond.selects RX8 yX8_swap yX8_swap ∈ gT := gT_2 237 rfl rfl
theorem wc_X8_at : Cond.code yX8_at cX8_at 2 (some .int) ∈ gT := gT_3 2 rfl rfl
theorem wi_X8_at : Cond.instanceMethod yX8_at ∈ gT := gT_3 0 rfl rfl
theorem ws_X8_at : Cond.selects RX8 yX8_at yX8_at ∈ gT := gT_3 1 rfl rfl
theorem wt_L_aid : Cond.static yL_aid ∈ gT := gT_3 5 rfl rfl
theorem wc_X9_aid : Cond.code yX9_aid cX9_aid 4 (some .int) ∈ gT := gT_3 10 rfl rfl
theorem wi_X9_aid : Cond.instanceMethod yX9_aid ∈ gT := gT_3 8 rfl rfl
theorem ws_X9_aid : Cond.selects RX9 yX9_aid yX9_aid ∈ gT := gT_3 9 rfl rfl
theorem wt_L_kind : Cond.static yL_kind ∈ gT := gT_3 13 rfl rfl
theorem wc_X9_kind : Cond.code yX9_kind cX9_kind 5 none ∈ gT := gT_3 18 rfl rfl
theorem wi_X9_kind : Cond.instanceMethod yX9_kind ∈ gT := gT_3 16 rfl rfl
theorem ws_X9_kind : Cond.selects RX9 yX9_kind yX9_kind ∈ gT := gT_3 17 rfl rfl
theorem wt_L_step : Cond.static yL_step ∈ gT := gT_3 20 rfl rfl
theorem wc_X9_step : Cond.code yX9_step cX9_step 3 (some .int) ∈ gT := gT_3 25 rfl rfl
theorem wi_X9_step : Cond.instanceMethod yX9_step ∈ gT := gT_3 23 rfl rfl
theorem ws_X9_step : Cond.selects RX9 yX9_step yX9_step ∈ gT := gT_3 24 rfl rfl
theorem wt_L_buyer : Cond.static yL_buyer ∈ gT := gT_3 27 rfl rfl
theorem wc_X9_buyer : Cond.code yX9_buyer cX9_buyer 4 (some .int) ∈ gT := gT_3 32 rfl rfl
theorem wi_X9_buyer : Cond.instanceMethod yX9_buyer ∈ gT := gT_3 30 rfl rfl
theorem ws_X9_buyer : Cond.selects RX9 yX9_buyer yX9_buyer ∈ gT := gT_3 31 rfl rfl
theorem wt_L_power : Cond.static yL_power ∈ gT := gT_3 35 rfl rfl
theorem wc_X9_power : Cond.code yX9_power cX9_power 3 (some .boolean) ∈ gT := gT_3 40 rfl rfl
theorem wi_X9_power : Cond.instanceMethod yX9_power ∈ gT := gT_3 38 rfl rfl
theorem ws_X9_power : Cond.selects RX9 yX9_power yX9_power ∈ gT := gT_3 39 rfl rfl
theorem wt_L_line : Cond.static yL_line ∈ gT := gT_3 42 rfl rfl
theorem wc_X9_line : Cond.code yX9_line cX9_line 3 (some .boolean) ∈ gT := gT_3 47 rfl rfl
theorem wi_X9_line : Cond.instanceMethod yX9_line ∈ gT := gT_3 45 rfl rfl
theorem ws_X9_line : Cond.selects RX9 yX9_line yX9_line ∈ gT := gT_3 46 rfl rfl
theorem wt_L_land : Cond.static yL_land ∈ gT := gT_3 49 rfl rfl
theorem wc_X9_land : Cond.code yX9_land cX9_land 8 (some .int) ∈ gT := gT_3 55 rfl rfl
theorem wi_X9_land : Cond.instanceMethod yX9_land ∈ gT := gT_3 53 rfl rfl
theorem ws_X9_land : Cond.selects RX9 yX9_land yX9_land ∈ gT := gT_3 54 rfl rfl
theorem wc_X9_mustHold : Cond.code yX9_mustHold cX9_mustHold 1 none ∈ gT := gT_3 58 rfl rfl
theorem wt_X9_mustHold : Cond.static yX9_mustHold ∈ gT := gT_3 57 rfl rfl
theorem wc_X0_addLanded : Cond.code yX0_addLanded cX0_addLanded 4 none ∈ gT := gT_3 78 rfl rfl
theorem wi_X0_addLanded : Cond.instanceMethod yX0_addLanded ∈ gT := gT_3 76 rfl rfl
theorem ws_X0_addLanded : Cond.selects RX0 yX0_addLanded yX0_addLanded ∈ gT := gT_3 77 rfl rfl
theorem wc_X8_add : Cond.code yX8_add cX8_add 3 none ∈ gT := gT_3 82 rfl rfl
theorem wi_X8_add : Cond.instanceMethod yX8_add ∈ gT := gT_3 80 rfl rfl
theorem ws_X8_add : Cond.selects RX8 yX8_add yX8_add ∈ gT := gT_3 81 rfl rfl
theorem wc_X0_isAboveQuota : Cond.code yX0_isAboveQuota cX0_isAboveQuota 4 (some .boolean) ∈ gT := gT_3 87 rfl rfl
theorem wi_X0_isAboveQuota : Cond.instanceMethod yX0_isAboveQuota ∈ gT := gT_3 85 rfl rfl
theorem ws_X0_isAboveQuota : Cond.selects RX0 yX0_isAboveQuota yX0_isAboveQuota ∈ gT := gT_3 86 rfl rfl
theorem wc_X1_rankOf : Cond.code yX1_rankOf cX1_rankOf 3 (some .int) ∈ gT := gT_3 91 rfl rfl
theorem wt_X1_rankOf : Cond.static yX1_rankOf ∈ gT := gT_3 90 rfl rfl
theorem wc_X1_add : Cond.code yX1_add cX1_add 7 (some .int) ∈ gT := gT_3 95 rfl rfl
theorem wi_X1_add : Cond.instanceMethod yX1_add ∈ gT := gT_3 93 rfl rfl
theorem ws_X1_add : Cond.selects RX1 yX1_add yX1_add ∈ gT := gT_3 94 rfl rfl
theorem wc_X1_sumOf : Cond.code yX1_sumOf cX1_sumOf 1 (some .int) ∈ gT := gT_3 100 rfl rfl
theorem wt_X1_sumOf : Cond.static yX1_sumOf ∈ gT := gT_3 99 rfl rfl
theorem wt_L_open : Cond.static yL_open ∈ gT := gT_3 102 rfl rfl
theorem wc_X9_open : Cond.code yX9_open cX9_open 2 (some .int) ∈ gT := gT_3 107 rfl rfl
theorem wi_X9_open : Cond.instanceMethod yX9_open ∈ gT := gT_3 105 rfl rfl
theorem ws_X9_open : Cond.selects RX9 yX9_open yX9_open ∈ gT := gT_3 106 rfl rfl
theorem wc_X1_countWaiting : Cond.code yX1_countWaiting cX1_countWaiting 3 (some .int) ∈ gT := gT_3 111 rfl rfl
theorem wi_X1_countWaiting : Cond.instanceMethod yX1_countWaiting ∈ gT := gT_3 109 rfl rfl
theorem ws_X1_countWaiting : Cond.selects RX1 yX1_countWaiting yX1_countWaiting ∈ gT := gT_3 110 rfl rfl
theorem wc_X1_isWaiting : Cond.code yX1_isWaiting cX1_isWaiting 2 (some .boolean) ∈ gT := gT_3 115 rfl rfl
theorem wi_X1_isWaiting : Cond.instanceMethod yX1_isWaiting ∈ gT := gT_3 113 rfl rfl
theorem ws_X1_isWaiting : Cond.selects RX1 yX1_isWaiting yX1_isWaiting ∈ gT := gT_3 114 rfl rfl
theorem wc_X9_countWaitingBoxes : Cond.code yX9_countWaitingBoxes cX9_countWaitingBoxes 2 none ∈ gT := gT_3 120 rfl rfl
theorem wi_X9_countWaitingBoxes : Cond.instanceMethod yX9_countWaitingBoxes ∈ gT := gT_3 119 rfl rfl
theorem ws_X9_countWaitingBoxes : Cond.selects RX9 yX9_countWaitingBoxes yX9_countWaitingBoxes ∈ gT := gT_0 1 rfl rfl
theorem wc_X9_offerBoats : Cond.code yX9_offerBoats cX9_offerBoats 3 none ∈ gT := gT_3 127 rfl rfl
theorem wi_X9_offerBoats : Cond.instanceMethod yX9_offerBoats ∈ gT := gT_3 126 rfl rfl
theorem ws_X9_offerBoats : Cond.selects RX9 yX9_offerBoats yX9_offerBoats ∈ gT := gT_0 2 rfl rfl
theorem wc_X0_countWaiting : Cond.code yX0_countWaiting cX0_countWaiting 4 (some .int) ∈ gT := gT_3 131 rfl rfl
theorem wi_X0_countWaiting : Cond.instanceMethod yX0_countWaiting ∈ gT := gT_3 129 rfl rfl
theorem ws_X0_countWaiting : Cond.selects RX0 yX0_countWaiting yX0_countWaiting ∈ gT := gT_3 130 rfl rfl
theorem wc_X0_waits : Cond.code yX0_waits cX0_waits 3 (some .boolean) ∈ gT := gT_3 135 rfl rfl
theorem wi_X0_waits : Cond.instanceMethod yX0_waits ∈ gT := gT_3 133 rfl rfl
theorem ws_X0_waits : Cond.selects RX0 yX0_waits yX0_waits ∈ gT := gT_3 134 rfl rfl
theorem wc_X0_findWaiting : Cond.code yX0_findWaiting cX0_findWaiting 5 (some .int) ∈ gT := gT_3 140 rfl rfl
theorem wi_X0_findWaiting : Cond.instanceMethod yX0_findWaiting ∈ gT := gT_3 138 rfl rfl
theorem ws_X0_findWaiting : Cond.selects RX0 yX0_findWaiting yX0_findWaiting ∈ gT := gT_3 139 rfl rfl
theorem wc_X9_offerBoat : Cond.code yX9_offerBoat cX9_offerBoat 3 none ∈ gT := gT_3 144 rfl rfl
theorem wi_X9_offerBoat : Cond.instanceMethod yX9_offerBoat ∈ gT := gT_3 143 rfl rfl
theorem ws_X9_offerBoat : Cond.selects RX9 yX9_offerBoat yX9_offerBoat ∈ gT := gT_0 3 rfl rfl
theorem wc_X8_fill : Cond.code yX8_fill cX8_fill 3 none ∈ gT := gT_3 148 rfl rfl
theorem wi_X8_fill : Cond.instanceMethod yX8_fill ∈ gT := gT_3 146 rfl rfl
theorem ws_X8_fill : Cond.selects RX8 yX8_fill yX8_fill ∈ gT := gT_3 147 rfl rfl
theorem wc_X1_kindOf : Cond.code yX1_kindOf cX1_kindOf 1 (some .int) ∈ gT := gT_3 151 rfl rfl
theorem wt_X1_kindOf : Cond.static yX1_kindOf ∈ gT := gT_3 150 rfl rfl
theorem wc_X6_add : Cond.code yX6_add cX6_add 4 none ∈ gT := gT_3 155 rfl rfl
theorem wi_X6_add : Cond.instanceMethod yX6_add ∈ gT := gT_3 153 rfl rfl
theorem ws_X6_add : Cond.selects RX6 yX6_add yX6_add ∈ gT := gT_3 154 rfl rfl
theorem wc_X6_addBox : Cond.code yX6_addBox cX6_addBox 4 (some .int) ∈ gT := gT_3 161 rfl rfl
theorem wi_X6_addBox : Cond.instanceMethod yX6_addBox ∈ gT := gT_3 159 rfl rfl
theorem ws_X6_addBox : Cond.selects RX6 yX6_addBox yX6_addBox ∈ gT := gT_3 160 rfl rfl
theorem wc_X1_move : Cond.code yX1_move cX1_move 3 none ∈ gT := gT_3 167 rfl rfl
theorem wi_X1_move : Cond.instanceMethod yX1_move ∈ gT := gT_3 165 rfl rfl
theorem ws_X1_move : Cond.selects RX1 yX1_move yX1_move ∈ gT := gT_3 166 rfl rfl
theorem wc_X6_countIn : Cond.code yX6_countIn cX6_countIn 4 (some .int) ∈ gT := gT_3 171 rfl rfl
theorem wi_X6_countIn : Cond.instanceMethod yX6_countIn ∈ gT := gT_3 169 rfl rfl
theorem ws_X6_countIn : Cond.selects RX6 yX6_countIn yX6_countIn ∈ gT := gT_3 170 rfl rfl
theorem wc_X6_nextIn : Cond.code yX6_nextIn cX6_nextIn 4 (some .int) ∈ gT := gT_3 175 rfl rfl
theorem wi_X6_nextIn : Cond.instanceMethod yX6_nextIn ∈ gT := gT_3 173 rfl rfl
theorem ws_X6_nextIn : Cond.selects RX6 yX6_nextIn yX6_nextIn ∈ gT := gT_3 174 rfl rfl
theorem wc_X9_bringToClock : Cond.code yX9_bringToClock cX9_bringToClock 3 none ∈ gT := gT_3 179 rfl rfl
theorem wi_X9_bringToClock : Cond.instanceMethod yX9_bringToClock ∈ gT := gT_3 178 rfl rfl
theorem ws_X9_bringToClock : Cond.selects RX9 yX9_bringToClock yX9_bringToClock ∈ gT := gT_0 4 rfl rfl
theorem wc_X9_beginRound : Cond.code yX9_beginRound cX9_beginRound 2 none ∈ gT := gT_3 183 rfl rfl
theorem wi_X9_beginRound : Cond.instanceMethod yX9_beginRound ∈ gT := gT_3 182 rfl rfl
theorem ws_X9_beginRound : Cond.selects RX9 yX9_beginRound yX9_beginRound ∈ gT := gT_0 5 rfl rfl
theorem wc_X7_forget : Cond.code yX7_forget cX7_forget 3 none ∈ gT := gT_3 187 rfl rfl
theorem wi_X7_forget : Cond.instanceMethod yX7_forget ∈ gT := gT_3 185 rfl rfl
theorem ws_X7_forget : Cond.selects RX7 yX7_forget yX7_forget ∈ gT := gT_3 186 rfl rfl
theorem wc_X7_placeOf : Cond.code yX7_placeOf cX7_placeOf 2 (some .int) ∈ gT := gT_3 190 rfl rfl
theorem wt_X7_placeOf : Cond.static yX7_placeOf ∈ gT := gT_3 189 rfl rfl
theorem wt_L_end : Cond.static yL_end ∈ gT := gT_3 193 rfl rfl
theorem wc_X9_end : Cond.code yX9_end cX9_end 3 (some .int) ∈ gT := gT_3 198 rfl rfl
theorem wi_X9_end : Cond.instanceMethod yX9_end ∈ gT := gT_3 196 rfl rfl
theorem ws_X9_end : Cond.selects RX9 yX9_end yX9_end ∈ gT := gT_3 197 rfl rfl
theorem wc_X9_withdrawRest : Cond.code yX9_withdrawRest cX9_withdrawRest 4 (some .int) ∈ gT := gT_3 202 rfl rfl
theorem wi_X9_withdrawRest : Cond.instanceMethod yX9_withdrawRest ∈ gT := gT_3 201 rfl rfl
theorem ws_X9_withdrawRest : Cond.selects RX9 yX9_withdrawRest yX9_withdrawRest ∈ gT := gT_0 6 rfl rfl
theorem wc_X6_left : Cond.code yX6_left cX6_left 2 (some .int) ∈ gT := gT_3 206 rfl rfl
theorem wi_X6_left : Cond.instanceMethod yX6_left ∈ gT := gT_3 204 rfl rfl
theorem ws_X6_left : Cond.selects RX6 yX6_left yX6_left ∈ gT := gT_3 205 rfl rfl
theorem wc_X6_boxAt : Cond.code yX6_boxAt cX6_boxAt 3 (some .int) ∈ gT := gT_3 210 rfl rfl
theorem wi_X6_boxAt : Cond.instanceMethod yX6_boxAt ∈ gT := gT_3 208 rfl rfl
theorem ws_X6_boxAt : Cond.selects RX6 yX6_boxAt yX6_boxAt ∈ gT := gT_3 209 rfl rfl
theorem wc_X9_withdraw : Cond.code yX9_withdraw cX9_withdraw 4 none ∈ gT := gT_3 214 rfl rfl
theorem wi_X9_withdraw : Cond.instanceMethod yX9_withdraw ∈ gT := gT_3 213 rfl rfl
theorem ws_X9_withdraw : Cond.selects RX9 yX9_withdraw yX9_withdraw ∈ gT := gT_0 7 rfl rfl
theorem wc_X1_canBeCarried : Cond.code yX1_canBeCarried cX1_canBeCarried 2 (some .boolean) ∈ gT := gT_3 218 rfl rfl
theorem wi_X1_canBeCarried : Cond.instanceMethod yX1_canBeCarried ∈ gT := gT_3 216 rfl rfl
theorem ws_X1_canBeCarried : Cond.selects RX1 yX1_canBeCarried yX1_canBeCarried ∈ gT := gT_3 217 rfl rfl
theorem wc_X1_freshOf : Cond.code yX1_freshOf cX1_freshOf 1 (some .int) ∈ gT := gT_3 221 rfl rfl
theorem wt_X1_freshOf : Cond.static yX1_freshOf ∈ gT := gT_3 220 rfl rfl
theorem wc_X1_carry : Cond.code yX1_carry cX1_carry 2 none ∈ gT := gT_3 225 rfl rfl
theorem wi_X1_carry : Cond.instanceMethod yX1_carry ∈ gT := gT_3 223 rfl rfl
theorem ws_X1_carry : Cond.selects RX1 yX1_carry yX1_carry ∈ gT := gT_3 224 rfl rfl
theorem wc_X6_clear : Cond.code yX6_clear cX6_clear 1 none ∈ gT := gT_3 230 rfl rfl
theorem wi_X6_clear : Cond.instanceMethod yX6_clear ∈ gT := gT_3 228 rfl rfl
theorem ws_X6_clear : Cond.selects RX6 yX6_clear yX6_clear ∈ gT := gT_3 229 rfl rfl
theorem wt_L_press : Cond.static yL_press ∈ gT := gT_3 232 rfl rfl
theorem wc_X9_press : Cond.code yX9_press cX9_press 4 (some .int) ∈ gT := gT_3 237 rfl rfl
theorem wi_X9_press : Cond.instanceMethod yX9_press ∈ gT := gT_3 235 rfl rfl
theorem ws_X9_press : Cond.selects RX9 yX9_press yX9_press ∈ gT := gT_3 236 rfl rfl
theorem wc_X7_isMade : Cond.code yX7_isMade cX7_isMade 3 (some .boolean) ∈ gT := gT_4 1 rfl rfl
theorem wi_X7_isMade : Cond.instanceMethod yX7_isMade ∈ gT := gT_3 239 rfl rfl
theorem ws_X7_isMade : Cond.selects RX7 yX7_isMade yX7_isMade ∈ gT := gT_4 0 rfl rfl
theorem wc_X7_make : Cond.code yX7_make cX7_make 7 none ∈ gT := gT_4 6 rfl rfl
theorem wi_X7_make : Cond.instanceMethod yX7_make ∈ gT := gT_4 4 rfl rfl
theorem ws_X7_make : Cond.selects RX7 yX7_make yX7_make ∈ gT := gT_4 5 rfl rfl
theorem wt_L_take : Cond.static yL_take ∈ gT := gT_4 8 rfl rfl
theorem wc_X9_take : Cond.code yX9_take cX9_take 5 (some .int) ∈ gT := gT_4 13 rfl rfl
theorem wi_X9_take : Cond.instanceMethod yX9_take ∈ gT := gT_4 11 rfl rfl
theorem ws_X9_take : Cond.selects RX9 yX9_take yX9_take ∈ gT := gT_4 12 rfl rfl
theorem wc_X9_costOfFirst : Cond.code yX9_costOfFirst cX9_costOfFirst 6 (some .int) ∈ gT := gT_4 17 rfl rfl
theorem wi_X9_costOfFirst : Cond.instanceMethod yX9_costOfFirst ∈ gT := gT_4 16 rfl rfl
theorem ws_X9_costOfFirst : Cond.selects RX9 yX9_costOfFirst yX9_costOfFirst ∈ gT := gT_0 8 rfl rfl
theorem wc_X2_leftOf : Cond.code yX2_leftOf cX2_leftOf 2 (some .int) ∈ gT := gT_4 21 rfl rfl
theorem wi_X2_leftOf : Cond.instanceMethod yX2_leftOf ∈ gT := gT_4 19 rfl rfl
theorem ws_X2_leftOf : Cond.selects RX2 yX2_leftOf yX2_leftOf ∈ gT := gT_4 20 rfl rfl
theorem wc_X9_sellFirst : Cond.code yX9_sellFirst cX9_sellFirst 9 none ∈ gT := gT_4 26 rfl rfl
theorem wi_X9_sellFirst : Cond.instanceMethod yX9_sellFirst ∈ gT := gT_4 25 rfl rfl
theorem ws_X9_sellFirst : Cond.selects RX9 yX9_sellFirst yX9_sellFirst ∈ gT := gT_0 9 rfl rfl
theorem wc_X1_sell : Cond.code yX1_sell cX1_sell 4 none ∈ gT := gT_4 30 rfl rfl
theorem wi_X1_sell : Cond.instanceMethod yX1_sell ∈ gT := gT_4 28 rfl rfl
theorem ws_X1_sell : Cond.selects RX1 yX1_sell yX1_sell ∈ gT := gT_4 29 rfl rfl
theorem wc_X9_goOn : Cond.code yX9_goOn cX9_goOn 3 none ∈ gT := gT_4 34 rfl rfl
theorem wi_X9_goOn : Cond.instanceMethod yX9_goOn ∈ gT := gT_4 33 rfl rfl
theorem ws_X9_goOn : Cond.selects RX9 yX9_goOn yX9_goOn ∈ gT := gT_0 10 rfl rfl
theorem wt_L_pass : Cond.static yL_pass ∈ gT := gT_4 36 rfl rfl
theorem wc_X9_pass : Cond.code yX9_pass cX9_pass 3 (some .int) ∈ gT := gT_4 41 rfl rfl
theorem wi_X9_pass : Cond.instanceMethod yX9_pass ∈ gT := gT_4 39 rfl rfl
theorem ws_X9_pass : Cond.selects RX9 yX9_pass yX9_pass ∈ gT := gT_4 40 rfl rfl
theorem wc_X9_tickHalls : Cond.code yX9_tickHalls cX9_tickHalls 2 none ∈ gT := gT_4 45 rfl rfl
theorem wi_X9_tickHalls : Cond.instanceMethod yX9_tickHalls ∈ gT := gT_4 44 rfl rfl
theorem ws_X9_tickHalls : Cond.selects RX9 yX9_tickHalls yX9_tickHalls ∈ gT := gT_0 11 rfl rfl
theorem wc_X9_tickFalling : Cond.code yX9_tickFalling cX9_tickFalling 3 none ∈ gT := gT_4 49 rfl rfl
theorem wi_X9_tickFalling : Cond.instanceMethod yX9_tickFalling ∈ gT := gT_4 48 rfl rfl
theorem ws_X9_tickFalling : Cond.selects RX9 yX9_tickFalling yX9_tickFalling ∈ gT := gT_0 12 rfl rfl
theorem wc_X7_isAnyHeard : Cond.code yX7_isAnyHeard cX7_isAnyHeard 4 (some .boolean) ∈ gT := gT_4 53 rfl rfl
theorem wi_X7_isAnyHeard : Cond.instanceMethod yX7_isAnyHeard ∈ gT := gT_4 51 rfl rfl
theorem ws_X7_isAnyHeard : Cond.selects RX7 yX7_isAnyHeard yX7_isAnyHeard ∈ gT := gT_4 52 rfl rfl
theorem wc_X7_isHeard : Cond.code yX7_isHeard cX7_isHeard 4 (some .boolean) ∈ gT := gT_4 57 rfl rfl
theorem wi_X7_isHeard : Cond.instanceMethod yX7_isHeard ∈ gT := gT_4 55 rfl rfl
theorem ws_X7_isHeard : Cond.selects RX7 yX7_isHeard yX7_isHeard ∈ gT := gT_4 56 rfl rfl
theorem wc_X2_greatestDelay : Cond.code yX2_greatestDelay cX2_greatestDelay 3 (some .int) ∈ gT := gT_4 62 rfl rfl
theorem wi_X2_greatestDelay : Cond.instanceMethod yX2_greatestDelay ∈ gT := gT_4 60 rfl rfl
theorem ws_X2_greatestDelay : Cond.selects RX2 yX2_greatestDelay yX2_greatestDelay ∈ gT := gT_4 61 rfl rfl
theorem wc_X4_minimumOf : Cond.code yX4_minimumOf cX4_minimumOf 2 (some .int) ∈ gT := gT_4 69 rfl rfl
theorem wi_X4_minimumOf : Cond.instanceMethod yX4_minimumOf ∈ gT := gT_4 67 rfl rfl
theorem ws_X4_minimumOf : Cond.selects RX4 yX4_minimumOf yX4_minimumOf ∈ gT := gT_4 68 rfl rfl
theorem wc_X1_sizeOf : Cond.code yX1_sizeOf cX1_sizeOf 1 (some .int) ∈ gT := gT_4 74 rfl rfl
theorem wt_X1_sizeOf : Cond.static yX1_sizeOf ∈ gT := gT_4 73 rfl rfl
theorem wc_X9_tickStanding : Cond.code yX9_tickStanding cX9_tickStanding 3 none ∈ gT := gT_4 78 rfl rfl
theorem wi_X9_tickStanding : Cond.instanceMethod yX9_tickStanding ∈ gT := gT_4 77 rfl rfl
theorem ws_X9_tickStanding : Cond.selects RX9 yX9_tickStanding yX9_tickStanding ∈ gT := gT_0 13 rfl rfl
theorem wc_X9_findWinner : Cond.code yX9_findWinner cX9_findWinner 5 (some .int) ∈ gT := gT_4 82 rfl rfl
theorem wi_X9_findWinner : Cond.instanceMethod yX9_findWinner ∈ gT := gT_4 81 rfl rfl
theorem ws_X9_findWinner : Cond.selects RX9 yX9_findWinner yX9_findWinner ∈ gT := gT_0 14 rfl rfl
theorem wc_X7_priceOf : Cond.code yX7_priceOf cX7_priceOf 3 (some .int) ∈ gT := gT_4 87 rfl rfl
theorem wi_X7_priceOf : Cond.instanceMethod yX7_priceOf ∈ gT := gT_4 85 rfl rfl
theorem ws_X7_priceOf : Cond.selects RX7 yX7_priceOf yX7_priceOf ∈ gT := gT_4 86 rfl rfl
theorem wc_X7_isAhead : Cond.code yX7_isAhead cX7_isAhead 6 (some .boolean) ∈ gT := gT_4 91 rfl rfl
theorem wi_X7_isAhead : Cond.instanceMethod yX7_isAhead ∈ gT := gT_4 89 rfl rfl
theorem ws_X7_isAhead : Cond.selects RX7 yX7_isAhead yX7_isAhead ∈ gT := gT_4 90 rfl rfl
theorem wc_X9_tickTaking : Cond.code yX9_tickTaking cX9_tickTaking 2 none ∈ gT := gT_4 96 rfl rfl
theorem wi_X9_tickTaking : Cond.instanceMethod yX9_tickTaking ∈ gT := gT_4 95 rfl rfl
theorem ws_X9_tickTaking : Cond.selects RX9 yX9_tickTaking yX9_tickTaking ∈ gT := gT_0 15 rfl rfl
theorem wc_X9_sendLorries : Cond.code yX9_sendLorries cX9_sendLorries 2 none ∈ gT := gT_4 100 rfl rfl
theorem wi_X9_sendLorries : Cond.instanceMethod yX9_sendLorries ∈ gT := gT_4 99 rfl rfl
theorem ws_X9_sendLorries : Cond.selects RX9 yX9_sendLorries yX9_sendLorries ∈ gT := gT_0 16 rfl rfl
theorem wc_X9_fetch : Cond.code yX9_fetch cX9_fetch 5 none ∈ gT := gT_4 104 rfl rfl
theorem wi_X9_fetch : Cond.instanceMethod yX9_fetch ∈ gT := gT_4 103 rfl rfl
theorem ws_X9_fetch : Cond.selects RX9 yX9_fetch yX9_fetch ∈ gT := gT_0 17 rfl rfl
theorem wt_L_lorry : Cond.static yL_lorry ∈ gT := gT_4 106 rfl rfl
theorem wc_X9_lorry : Cond.code yX9_lorry cX9_lorry 4 (some .int) ∈ gT := gT_4 111 rfl rfl
theorem wi_X9_lorry : Cond.instanceMethod yX9_lorry ∈ gT := gT_4 109 rfl rfl
theorem ws_X9_lorry : Cond.selects RX9 yX9_lorry yX9_lorry ∈ gT := gT_4 110 rfl rfl
theorem wc_X5_add : Cond.code yX5_add cX5_add 5 (some .int) ∈ gT := gT_4 115 rfl rfl
theorem wi_X5_add : Cond.instanceMethod yX5_add ∈ gT := gT_4 113 rfl rfl
theorem ws_X5_add : Cond.selects RX5 yX5_add yX5_add ∈ gT := gT_4 114 rfl rfl
theorem wt_L_pay : Cond.static yL_pay ∈ gT := gT_4 118 rfl rfl
theorem wc_X9_pay : Cond.code yX9_pay cX9_pay 4 (some .int) ∈ gT := gT_4 123 rfl rfl
theorem wi_X9_pay : Cond.instanceMethod yX9_pay ∈ gT := gT_4 121 rfl rfl
theorem ws_X9_pay : Cond.selects RX9 yX9_pay yX9_pay ∈ gT := gT_4 122 rfl rfl
theorem wt_L_claim : Cond.static yL_claim ∈ gT := gT_4 129 rfl rfl
theorem wc_X9_claim : Cond.code yX9_claim cX9_claim 4 (some .int) ∈ gT := gT_4 134 rfl rfl
theorem wi_X9_claim : Cond.instanceMethod yX9_claim ∈ gT := gT_4 132 rfl rfl
theorem ws_X9_claim : Cond.selects RX9 yX9_claim yX9_claim ∈ gT := gT_4 133 rfl rfl
theorem wc_X1_centsLacking : Cond.code yX1_centsLacking cX1_centsLacking 3 (some .int) ∈ gT := gT_4 138 rfl rfl
theorem wi_X1_centsLacking : Cond.instanceMethod yX1_centsLacking ∈ gT := gT_4 136 rfl rfl
theorem ws_X1_centsLacking : Cond.selects RX1 yX1_centsLacking yX1_centsLacking ∈ gT := gT_4 137 rfl rfl
theorem wt_L_settle : Cond.static yL_settle ∈ gT := gT_4 140 rfl rfl
theorem wc_X9_settle : Cond.code yX9_settle cX9_settle 8 (some .int) ∈ gT := gT_4 145 rfl rfl
theorem wi_X9_settle : Cond.instanceMethod yX9_settle ∈ gT := gT_4 143 rfl rfl
theorem ws_X9_settle : Cond.selects RX9 yX9_settle yX9_settle ∈ gT := gT_4 144 rfl rfl
theorem wt_L_told : Cond.static yL_told ∈ gT := gT_4 152 rfl rfl
theorem wc_X9_told : Cond.code yX9_told cX9_told 3 (some .int) ∈ gT := gT_4 157 rfl rfl
theorem wi_X9_told : Cond.instanceMethod yX9_told ∈ gT := gT_4 155 rfl rfl
theorem ws_X9_told : Cond.selects RX9 yX9_told yX9_told ∈ gT := gT_4 156 rfl rfl
theorem wt_L_lot : Cond.static yL_lot ∈ gT := gT_4 160 rfl rfl
theorem wc_X9_lot : Cond.code yX9_lot cX9_lot 3 (some .int) ∈ gT := gT_4 165 rfl rfl
theorem wi_X9_lot : Cond.instanceMethod yX9_lot ∈ gT := gT_4 163 rfl rfl
theorem ws_X9_lot : Cond.selects RX9 yX9_lot yX9_lot ∈ gT := gT_4 164 rfl rfl
theorem wt_L_hall : Cond.static yL_hall ∈ gT := gT_4 168 rfl rfl
theorem wc_X9_hall : Cond.code yX9_hall cX9_hall 3 (some .int) ∈ gT := gT_4 173 rfl rfl
theorem wi_X9_hall : Cond.instanceMethod yX9_hall ∈ gT := gT_4 171 rfl rfl
theorem ws_X9_hall : Cond.selects RX9 yX9_hall yX9_hall ∈ gT := gT_4 172 rfl rfl
theorem wt_L_account : Cond.static yL_account ∈ gT := gT_4 175 rfl rfl
theorem wc_X9_account : Cond.code yX9_account cX9_account 3 (some .int) ∈ gT := gT_4 180 rfl rfl
theorem wi_X9_account : Cond.instanceMethod yX9_account ∈ gT := gT_4 178 rfl rfl
theorem ws_X9_account : Cond.selects RX9 yX9_account yX9_account ∈ gT := gT_4 179 rfl rfl
theorem wt_L_ship : Cond.static yL_ship ∈ gT := gT_4 182 rfl rfl
theorem wc_X9_ship : Cond.code yX9_ship cX9_ship 3 (some .int) ∈ gT := gT_4 187 rfl rfl
theorem wi_X9_ship : Cond.instanceMethod yX9_ship ∈ gT := gT_4 185 rfl rfl
theorem ws_X9_ship : Cond.selects RX9 yX9_ship yX9_ship ∈ gT := gT_4 186 rfl rfl
theorem wt_L_kilos : Cond.static yL_kilos ∈ gT := gT_4 189 rfl rfl
theorem wc_X9_kilos : Cond.code yX9_kilos cX9_kilos 2 (some .int) ∈ gT := gT_4 194 rfl rfl
theorem wi_X9_kilos : Cond.instanceMethod yX9_kilos ∈ gT := gT_4 192 rfl rfl
theorem ws_X9_kilos : Cond.selects RX9 yX9_kilos yX9_kilos ∈ gT := gT_4 193 rfl rfl
theorem wt_L_kilosAnew : Cond.static yL_kilosAnew ∈ gT := gT_4 196 rfl rfl
theorem wc_X9_kilosAnew : Cond.code yX9_kilosAnew cX9_kilosAnew 4 (some .int) ∈ gT := gT_4 201 rfl rfl
theorem wi_X9_kilosAnew : Cond.instanceMethod yX9_kilosAnew ∈ gT := gT_4 199 rfl rfl
theorem ws_X9_kilosAnew : Cond.selects RX9 yX9_kilosAnew yX9_kilosAnew ∈ gT := gT_4 200 rfl rfl
theorem wt_L_average : Cond.static yL_average ∈ gT := gT_4 204 rfl rfl
theorem wc_X9_average : Cond.code yX9_average cX9_average 6 (some .int) ∈ gT := gT_4 209 rfl rfl
theorem wi_X9_average : Cond.instanceMethod yX9_average ∈ gT := gT_4 207 rfl rfl
theorem ws_X9_average : Cond.selects RX9 yX9_average yX9_average ∈ gT := gT_4 208 rfl rfl
theorem wt_L_loaded : Cond.static yL_loaded ∈ gT := gT_4 211 rfl rfl
theorem wc_X9_loaded : Cond.code yX9_loaded cX9_loaded 2 (some .int) ∈ gT := gT_4 216 rfl rfl
theorem wi_X9_loaded : Cond.instanceMethod yX9_loaded ∈ gT := gT_4 214 rfl rfl
theorem ws_X9_loaded : Cond.selects RX9 yX9_loaded yX9_loaded ∈ gT := gT_4 215 rfl rfl
theorem wc_X10_init : Cond.code yX10_init cX10_init 2 none ∈ gT := gT_4 221 rfl rfl
theorem wi_X10_init : Cond.instanceMethod yX10_init ∈ gT := gT_4 220 rfl rfl
theorem wc_X10_begins : Cond.code yX10_begins cX10_begins 3 none ∈ gT := gT_4 226 rfl rfl
theorem wi_X10_begins : Cond.instanceMethod yX10_begins ∈ gT := gT_4 225 rfl rfl
theorem ws_X10_begins : Cond.selects RX10 yX10_begins yX10_begins ∈ gT := gT_0 18 rfl rfl
theorem wc_X10_thrown : Cond.code yX10_thrown cX10_thrown 1 (some .int) ∈ gT := gT_5 157 rfl rfl
theorem wi_X10_thrown : Cond.instanceMethod yX10_thrown ∈ gT := gT_5 155 rfl rfl
theorem ws_X10_thrown : Cond.selects RX10 yX10_thrown yX10_thrown ∈ gT := gT_5 156 rfl rfl
theorem wc_X10_quota : Cond.code yX10_quota cX10_quota 6 (some .int) ∈ gT := gT_5 161 rfl rfl
theorem wi_X10_quota : Cond.instanceMethod yX10_quota ∈ gT := gT_5 159 rfl rfl
theorem ws_X10_quota : Cond.selects RX10 yX10_quota yX10_quota ∈ gT := gT_5 160 rfl rfl
theorem wc_X10_isEight : Cond.code yX10_isEight cX10_isEight 1 (some .boolean) ∈ gT := gT_5 164 rfl rfl
theorem wt_X10_isEight : Cond.static yX10_isEight ∈ gT := gT_5 163 rfl rfl
theorem wc_X10_isIn : Cond.code yX10_isIn cX10_isIn 3 (some .boolean) ∈ gT := gT_5 167 rfl rfl
theorem wt_X10_isIn : Cond.static yX10_isIn ∈ gT := gT_5 166 rfl rfl
theorem wc_X10_isKind : Cond.code yX10_isKind cX10_isKind 1 (some .boolean) ∈ gT := gT_5 170 rfl rfl
theorem wt_X10_isKind : Cond.static yX10_isKind ∈ gT := gT_5 169 rfl rfl
theorem wc_X10_fails : Cond.code yX10_fails cX10_fails 2 (some .boolean) ∈ gT := gT_5 175 rfl rfl
theorem wi_X10_fails : Cond.instanceMethod yX10_fails ∈ gT := gT_5 174 rfl rfl
theorem ws_X10_fails : Cond.selects RX10 yX10_fails yX10_fails ∈ gT := gT_0 19 rfl rfl
theorem wc_X10_aid : Cond.code yX10_aid cX10_aid 5 (some .int) ∈ gT := gT_5 179 rfl rfl
theorem wi_X10_aid : Cond.instanceMethod yX10_aid ∈ gT := gT_5 177 rfl rfl
theorem ws_X10_aid : Cond.selects RX10 yX10_aid yX10_aid ∈ gT := gT_5 178 rfl rfl
theorem wc_X10_kind : Cond.code yX10_kind cX10_kind 7 none ∈ gT := gT_5 183 rfl rfl
theorem wi_X10_kind : Cond.instanceMethod yX10_kind ∈ gT := gT_5 181 rfl rfl
theorem ws_X10_kind : Cond.selects RX10 yX10_kind yX10_kind ∈ gT := gT_5 182 rfl rfl
theorem wc_X10_isHall : Cond.code yX10_isHall cX10_isHall 1 (some .boolean) ∈ gT := gT_5 186 rfl rfl
theorem wt_X10_isHall : Cond.static yX10_isHall ∈ gT := gT_5 185 rfl rfl
theorem wc_X10_step : Cond.code yX10_step cX10_step 4 (some .int) ∈ gT := gT_5 190 rfl rfl
theorem wi_X10_step : Cond.instanceMethod yX10_step ∈ gT := gT_5 188 rfl rfl
theorem ws_X10_step : Cond.selects RX10 yX10_step yX10_step ∈ gT := gT_5 189 rfl rfl
theorem wc_X10_buyer : Cond.code yX10_buyer cX10_buyer 6 (some .int) ∈ gT := gT_5 194 rfl rfl
theorem wi_X10_buyer : Cond.instanceMethod yX10_buyer ∈ gT := gT_5 192 rfl rfl
theorem ws_X10_buyer : Cond.selects RX10 yX10_buyer yX10_buyer ∈ gT := gT_5 193 rfl rfl
theorem wc_X10_draw : Cond.code yX10_draw cX10_draw 3 (some .int) ∈ gT := gT_5 199 rfl rfl
theorem wi_X10_draw : Cond.instanceMethod yX10_draw ∈ gT := gT_5 197 rfl rfl
theorem ws_X10_draw : Cond.selects RX10 yX10_draw yX10_draw ∈ gT := gT_5 198 rfl rfl
theorem wc_X10_power : Cond.code yX10_power cX10_power 4 (some .boolean) ∈ gT := gT_5 203 rfl rfl
theorem wi_X10_power : Cond.instanceMethod yX10_power ∈ gT := gT_5 201 rfl rfl
theorem ws_X10_power : Cond.selects RX10 yX10_power yX10_power ∈ gT := gT_5 202 rfl rfl
theorem wc_X10_line : Cond.code yX10_line cX10_line 4 (some .boolean) ∈ gT := gT_5 207 rfl rfl
theorem wi_X10_line : Cond.instanceMethod yX10_line ∈ gT := gT_5 205 rfl rfl
theorem ws_X10_line : Cond.selects RX10 yX10_line yX10_line ∈ gT := gT_5 206 rfl rfl
theorem wc_X10_land : Cond.code yX10_land cX10_land 10 (some .int) ∈ gT := gT_5 211 rfl rfl
theorem wi_X10_land : Cond.instanceMethod yX10_land ∈ gT := gT_5 209 rfl rfl
theorem ws_X10_land : Cond.selects RX10 yX10_land yX10_land ∈ gT := gT_5 210 rfl rfl
theorem wc_X10_open : Cond.code yX10_open cX10_open 2 (some .int) ∈ gT := gT_5 215 rfl rfl
theorem wi_X10_open : Cond.instanceMethod yX10_open ∈ gT := gT_5 213 rfl rfl
theorem ws_X10_open : Cond.selects RX10 yX10_open yX10_open ∈ gT := gT_5 214 rfl rfl
theorem wc_X10_ready : Cond.code yX10_ready cX10_ready 4 (some .int) ∈ gT := gT_5 219 rfl rfl
theorem wi_X10_ready : Cond.instanceMethod yX10_ready ∈ gT := gT_5 218 rfl rfl
theorem ws_X10_ready : Cond.selects RX10 yX10_ready yX10_ready ∈ gT := gT_0 20 rfl rfl
theorem wc_X10_isToSell : Cond.code yX10_isToSell cX10_isToSell 2 (some .boolean) ∈ gT := gT_5 223 rfl rfl
theorem wi_X10_isToSell : Cond.instanceMethod yX10_isToSell ∈ gT := gT_5 222 rfl rfl
theorem ws_X10_isToSell : Cond.selects RX10 yX10_isToSell yX10_isToSell ∈ gT := gT_0 21 rfl rfl
theorem wc_X10_drawsAll : Cond.code yX10_drawsAll cX10_drawsAll 4 none ∈ gT := gT_5 227 rfl rfl
theorem wi_X10_drawsAll : Cond.instanceMethod yX10_drawsAll ∈ gT := gT_5 226 rfl rfl
theorem ws_X10_drawsAll : Cond.selects RX10 yX10_drawsAll yX10_drawsAll ∈ gT := gT_0 22 rfl rfl
theorem wc_X10_drawn : Cond.code yX10_drawn cX10_drawn 5 (some .int) ∈ gT := gT_5 231 rfl rfl
theorem wi_X10_drawn : Cond.instanceMethod yX10_drawn ∈ gT := gT_5 230 rfl rfl
theorem ws_X10_drawn : Cond.selects RX10 yX10_drawn yX10_drawn ∈ gT := gT_0 23 rfl rfl
theorem wc_X10_size : Cond.code yX10_size cX10_size 3 (some .int) ∈ gT := gT_5 235 rfl rfl
theorem wt_X10_size : Cond.static yX10_size ∈ gT := gT_5 234 rfl rfl
theorem wc_X10_parts : Cond.code yX10_parts cX10_parts 8 none ∈ gT := gT_5 239 rfl rfl
theorem wi_X10_parts : Cond.instanceMethod yX10_parts ∈ gT := gT_5 238 rfl rfl
theorem ws_X10_parts : Cond.selects RX10 yX10_parts yX10_parts ∈ gT := gT_0 24 rfl rfl
theorem wc_X10_comes : Cond.code yX10_comes cX10_comes 3 none ∈ gT := gT_6 3 rfl rfl
theorem wi_X10_comes : Cond.instanceMethod yX10_comes ∈ gT := gT_6 2 rfl rfl
theorem ws_X10_comes : Cond.selects RX10 yX10_comes yX10_comes ∈ gT := gT_0 25 rfl rfl
theorem wc_X10_end : Cond.code yX10_end cX10_end 3 (some .int) ∈ gT := gT_6 7 rfl rfl
theorem wi_X10_end : Cond.instanceMethod yX10_end ∈ gT := gT_6 5 rfl rfl
theorem ws_X10_end : Cond.selects RX10 yX10_end yX10_end ∈ gT := gT_6 6 rfl rfl
theorem wc_X10_withdrawsAll : Cond.code yX10_withdrawsAll cX10_withdrawsAll 4 (some .int) ∈ gT := gT_6 11 rfl rfl
theorem wi_X10_withdrawsAll : Cond.instanceMethod yX10_withdrawsAll ∈ gT := gT_6 10 rfl rfl
theorem ws_X10_withdrawsAll : Cond.selects RX10 yX10_withdrawsAll yX10_withdrawsAll ∈ gT := gT_0 26 rfl rfl
theorem wc_X10_withdraws : Cond.code yX10_withdraws cX10_withdraws 2 none ∈ gT := gT_6 15 rfl rfl
theorem wi_X10_withdraws : Cond.instanceMethod yX10_withdraws ∈ gT := gT_6 14 rfl rfl
theorem ws_X10_withdraws : Cond.selects RX10 yX10_withdraws yX10_withdraws ∈ gT := gT_0 27 rfl rfl
theorem wc_X10_press : Cond.code yX10_press cX10_press 6 (some .int) ∈ gT := gT_6 19 rfl rfl
theorem wi_X10_press : Cond.instanceMethod yX10_press ∈ gT := gT_6 17 rfl rfl
theorem ws_X10_press : Cond.selects RX10 yX10_press yX10_press ∈ gT := gT_6 18 rfl rfl
theorem wc_X10_take : Cond.code yX10_take cX10_take 8 (some .int) ∈ gT := gT_6 23 rfl rfl
theorem wi_X10_take : Cond.instanceMethod yX10_take ∈ gT := gT_6 21 rfl rfl
theorem ws_X10_take : Cond.selects RX10 yX10_take yX10_take ∈ gT := gT_6 22 rfl rfl
theorem wc_X10_leftOf : Cond.code yX10_leftOf cX10_leftOf 4 (some .int) ∈ gT := gT_6 27 rfl rfl
theorem wi_X10_leftOf : Cond.instanceMethod yX10_leftOf ∈ gT := gT_6 26 rfl rfl
theorem ws_X10_leftOf : Cond.selects RX10 yX10_leftOf yX10_leftOf ∈ gT := gT_0 28 rfl rfl
theorem wc_X10_costOf : Cond.code yX10_costOf cX10_costOf 8 (some .int) ∈ gT := gT_6 31 rfl rfl
theorem wi_X10_costOf : Cond.instanceMethod yX10_costOf ∈ gT := gT_6 30 rfl rfl
theorem ws_X10_costOf : Cond.selects RX10 yX10_costOf yX10_costOf ∈ gT := gT_0 29 rfl rfl
theorem wc_X10_canPay : Cond.code yX10_canPay cX10_canPay 3 (some .boolean) ∈ gT := gT_6 35 rfl rfl
theorem wi_X10_canPay : Cond.instanceMethod yX10_canPay ∈ gT := gT_6 34 rfl rfl
theorem ws_X10_canPay : Cond.selects RX10 yX10_canPay yX10_canPay ∈ gT := gT_0 30 rfl rfl
theorem wc_X10_gets : Cond.code yX10_gets cX10_gets 5 none ∈ gT := gT_6 39 rfl rfl
theorem wi_X10_gets : Cond.instanceMethod yX10_gets ∈ gT := gT_6 38 rfl rfl
theorem ws_X10_gets : Cond.selects RX10 yX10_gets yX10_gets ∈ gT := gT_0 31 rfl rfl
theorem wc_X10_firstOf : Cond.code yX10_firstOf cX10_firstOf 4 (some .int) ∈ gT := gT_6 43 rfl rfl
theorem wi_X10_firstOf : Cond.instanceMethod yX10_firstOf ∈ gT := gT_6 42 rfl rfl
theorem ws_X10_firstOf : Cond.selects RX10 yX10_firstOf yX10_firstOf ∈ gT := gT_0 32 rfl rfl
theorem wc_X10_ends : Cond.code yX10_ends cX10_ends 2 none ∈ gT := gT_6 47 rfl rfl
theorem wi_X10_ends : Cond.instanceMethod yX10_ends ∈ gT := gT_6 46 rfl rfl
theorem ws_X10_ends : Cond.selects RX10 yX10_ends yX10_ends ∈ gT := gT_0 33 rfl rfl
theorem wc_X10_pass : Cond.code yX10_pass cX10_pass 3 (some .int) ∈ gT := gT_6 51 rfl rfl
theorem wi_X10_pass : Cond.instanceMethod yX10_pass ∈ gT := gT_6 49 rfl rfl
theorem ws_X10_pass : Cond.selects RX10 yX10_pass yX10_pass ∈ gT := gT_6 50 rfl rfl
theorem wc_X10_passes : Cond.code yX10_passes cX10_passes 3 none ∈ gT := gT_6 55 rfl rfl
theorem wi_X10_passes : Cond.instanceMethod yX10_passes ∈ gT := gT_6 54 rfl rfl
theorem ws_X10_passes : Cond.selects RX10 yX10_passes yX10_passes ∈ gT := gT_0 34 rfl rfl
theorem wc_X10_falls : Cond.code yX10_falls cX10_falls 3 none ∈ gT := gT_6 59 rfl rfl
theorem wi_X10_falls : Cond.instanceMethod yX10_falls ∈ gT := gT_6 58 rfl rfl
theorem ws_X10_falls : Cond.selects RX10 yX10_falls yX10_falls ∈ gT := gT_0 35 rfl rfl
theorem wc_X10_hears : Cond.code yX10_hears cX10_hears 4 (some .boolean) ∈ gT := gT_6 63 rfl rfl
theorem wi_X10_hears : Cond.instanceMethod yX10_hears ∈ gT := gT_6 62 rfl rfl
theorem ws_X10_hears : Cond.selects RX10 yX10_hears yX10_hears ∈ gT := gT_0 36 rfl rfl
theorem wc_X10_slowest : Cond.code yX10_slowest cX10_slowest 3 (some .int) ∈ gT := gT_6 67 rfl rfl
theorem wi_X10_slowest : Cond.instanceMethod yX10_slowest ∈ gT := gT_6 66 rfl rfl
theorem ws_X10_slowest : Cond.selects RX10 yX10_slowest yX10_slowest ∈ gT := gT_0 37 rfl rfl
theorem wc_X10_stands : Cond.code yX10_stands cX10_stands 6 none ∈ gT := gT_6 71 rfl rfl
theorem wi_X10_stands : Cond.instanceMethod yX10_stands ∈ gT := gT_6 70 rfl rfl
theorem ws_X10_stands : Cond.selects RX10 yX10_stands yX10_stands ∈ gT := gT_0 38 rfl rfl
theorem wc_X10_isBefore : Cond.code yX10_isBefore cX10_isBefore 3 (some .boolean) ∈ gT := gT_6 75 rfl rfl
theorem wi_X10_isBefore : Cond.instanceMethod yX10_isBefore ∈ gT := gT_6 74 rfl rfl
theorem ws_X10_isBefore : Cond.selects RX10 yX10_isBefore yX10_isBefore ∈ gT := gT_0 39 rfl rfl
theorem wc_X10_waits : Cond.code yX10_waits cX10_waits 2 none ∈ gT := gT_6 79 rfl rfl
theorem wi_X10_waits : Cond.instanceMethod yX10_waits ∈ gT := gT_6 78 rfl rfl
theorem ws_X10_waits : Cond.selects RX10 yX10_waits yX10_waits ∈ gT := gT_0 40 rfl rfl
theorem wc_X10_leaves : Cond.code yX10_leaves cX10_leaves 4 none ∈ gT := gT_6 83 rfl rfl
theorem wi_X10_leaves : Cond.instanceMethod yX10_leaves ∈ gT := gT_6 82 rfl rfl
theorem ws_X10_leaves : Cond.selects RX10 yX10_leaves yX10_leaves ∈ gT := gT_0 41 rfl rfl
theorem wc_X10_lorry : Cond.code yX10_lorry cX10_lorry 5 (some .int) ∈ gT := gT_6 87 rfl rfl
theorem wi_X10_lorry : Cond.instanceMethod yX10_lorry ∈ gT := gT_6 85 rfl rfl
theorem ws_X10_lorry : Cond.selects RX10 yX10_lorry yX10_lorry ∈ gT := gT_6 86 rfl rfl
theorem wc_X10_pay : Cond.code yX10_pay cX10_pay 4 (some .int) ∈ gT := gT_6 91 rfl rfl
theorem wi_X10_pay : Cond.instanceMethod yX10_pay ∈ gT := gT_6 89 rfl rfl
theorem ws_X10_pay : Cond.selects RX10 yX10_pay yX10_pay ∈ gT := gT_6 90 rfl rfl
theorem wc_X10_areCents : Cond.code yX10_areCents cX10_areCents 1 (some .boolean) ∈ gT := gT_6 94 rfl rfl
theorem wt_X10_areCents : Cond.static yX10_areCents ∈ gT := gT_6 93 rfl rfl
theorem wc_X10_claim : Cond.code yX10_claim cX10_claim 6 (some .int) ∈ gT := gT_6 98 rfl rfl
theorem wi_X10_claim : Cond.instanceMethod yX10_claim ∈ gT := gT_6 96 rfl rfl
theorem ws_X10_claim : Cond.selects RX10 yX10_claim yX10_claim ∈ gT := gT_6 97 rfl rfl
theorem wc_X10_isBox : Cond.code yX10_isBox cX10_isBox 2 (some .boolean) ∈ gT := gT_6 102 rfl rfl
theorem wi_X10_isBox : Cond.instanceMethod yX10_isBox ∈ gT := gT_6 101 rfl rfl
theorem ws_X10_isBox : Cond.selects RX10 yX10_isBox yX10_isBox ∈ gT := gT_0 42 rfl rfl
theorem wc_X10_settle : Cond.code yX10_settle cX10_settle 9 (some .int) ∈ gT := gT_6 106 rfl rfl
theorem wi_X10_settle : Cond.instanceMethod yX10_settle ∈ gT := gT_6 104 rfl rfl
theorem ws_X10_settle : Cond.selects RX10 yX10_settle yX10_settle ∈ gT := gT_6 105 rfl rfl
theorem wc_X10_now : Cond.code yX10_now cX10_now 1 (some .int) ∈ gT := gT_6 113 rfl rfl
theorem wi_X10_now : Cond.instanceMethod yX10_now ∈ gT := gT_6 111 rfl rfl
theorem ws_X10_now : Cond.selects RX10 yX10_now yX10_now ∈ gT := gT_6 112 rfl rfl
theorem wc_X10_day : Cond.code yX10_day cX10_day 1 (some .int) ∈ gT := gT_6 117 rfl rfl
theorem wi_X10_day : Cond.instanceMethod yX10_day ∈ gT := gT_6 115 rfl rfl
theorem ws_X10_day : Cond.selects RX10 yX10_day yX10_day ∈ gT := gT_6 116 rfl rfl
theorem wc_X10_isOpen : Cond.code yX10_isOpen cX10_isOpen 1 (some .boolean) ∈ gT := gT_6 121 rfl rfl
theorem wi_X10_isOpen : Cond.instanceMethod yX10_isOpen ∈ gT := gT_6 119 rfl rfl
theorem ws_X10_isOpen : Cond.selects RX10 yX10_isOpen yX10_isOpen ∈ gT := gT_6 120 rfl rfl
theorem wc_X10_told : Cond.code yX10_told cX10_told 3 (some .int) ∈ gT := gT_6 125 rfl rfl
theorem wi_X10_told : Cond.instanceMethod yX10_told ∈ gT := gT_6 123 rfl rfl
theorem ws_X10_told : Cond.selects RX10 yX10_told yX10_told ∈ gT := gT_6 124 rfl rfl
theorem wc_X10_lot : Cond.code yX10_lot cX10_lot 3 (some .int) ∈ gT := gT_6 129 rfl rfl
theorem wi_X10_lot : Cond.instanceMethod yX10_lot ∈ gT := gT_6 127 rfl rfl
theorem ws_X10_lot : Cond.selects RX10 yX10_lot yX10_lot ∈ gT := gT_6 128 rfl rfl
theorem wc_X10_hall : Cond.code yX10_hall cX10_hall 3 (some .int) ∈ gT := gT_6 133 rfl rfl
theorem wi_X10_hall : Cond.instanceMethod yX10_hall ∈ gT := gT_6 131 rfl rfl
theorem ws_X10_hall : Cond.selects RX10 yX10_hall yX10_hall ∈ gT := gT_6 132 rfl rfl
theorem wc_X10_lotsOf : Cond.code yX10_lotsOf cX10_lotsOf 4 (some .int) ∈ gT := gT_6 137 rfl rfl
theorem wi_X10_lotsOf : Cond.instanceMethod yX10_lotsOf ∈ gT := gT_6 136 rfl rfl
theorem ws_X10_lotsOf : Cond.selects RX10 yX10_lotsOf yX10_lotsOf ∈ gT := gT_0 43 rfl rfl
theorem wc_X10_account : Cond.code yX10_account cX10_account 5 (some .int) ∈ gT := gT_6 141 rfl rfl
theorem wi_X10_account : Cond.instanceMethod yX10_account ∈ gT := gT_6 139 rfl rfl
theorem ws_X10_account : Cond.selects RX10 yX10_account yX10_account ∈ gT := gT_6 140 rfl rfl
theorem wc_X10_ship : Cond.code yX10_ship cX10_ship 5 (some .int) ∈ gT := gT_6 145 rfl rfl
theorem wi_X10_ship : Cond.instanceMethod yX10_ship ∈ gT := gT_6 143 rfl rfl
theorem ws_X10_ship : Cond.selects RX10 yX10_ship yX10_ship ∈ gT := gT_6 144 rfl rfl
theorem wc_X10_kilos : Cond.code yX10_kilos cX10_kilos 4 (some .int) ∈ gT := gT_6 149 rfl rfl
theorem wi_X10_kilos : Cond.instanceMethod yX10_kilos ∈ gT := gT_6 147 rfl rfl
theorem ws_X10_kilos : Cond.selects RX10 yX10_kilos yX10_kilos ∈ gT := gT_6 148 rfl rfl
theorem wc_X10_isOf : Cond.code yX10_isOf cX10_isOf 2 (some .boolean) ∈ gT := gT_6 152 rfl rfl
theorem wt_X10_isOf : Cond.static yX10_isOf ∈ gT := gT_6 151 rfl rfl
theorem wc_X10_kilosAnew : Cond.code yX10_kilosAnew cX10_kilosAnew 2 (some .int) ∈ gT := gT_6 156 rfl rfl
theorem wi_X10_kilosAnew : Cond.instanceMethod yX10_kilosAnew ∈ gT := gT_6 154 rfl rfl
theorem ws_X10_kilosAnew : Cond.selects RX10 yX10_kilosAnew yX10_kilosAnew ∈ gT := gT_6 155 rfl rfl
theorem wc_X10_average : Cond.code yX10_average cX10_average 7 (some .int) ∈ gT := gT_6 161 rfl rfl
theorem wi_X10_average : Cond.instanceMethod yX10_average ∈ gT := gT_6 159 rfl rfl
theorem ws_X10_average : Cond.selects RX10 yX10_average yX10_average ∈ gT := gT_6 160 rfl rfl
theorem wc_X10_loaded : Cond.code yX10_loaded cX10_loaded 2 (some .int) ∈ gT := gT_6 165 rfl rfl
theorem wi_X10_loaded : Cond.instanceMethod yX10_loaded ∈ gT := gT_6 163 rfl rfl
theorem ws_X10_loaded : Cond.selects RX10 yX10_loaded yX10_loaded ∈ gT := gT_6 164 rfl rfl
theorem wn_X0 : Cond.initialized RX0 ∈ gT := gT_1 2 rfl rfl
theorem wn_X1 : Cond.initialized RX1 ∈ gT := gT_1 6 rfl rfl
theorem wn_X2 : Cond.initialized RX2 ∈ gT := gT_1 5 rfl rfl
theorem wn_X3 : Cond.initialized RX3 ∈ gT := gT_1 8 rfl rfl
theorem wn_X4 : Cond.initialized RX4 ∈ gT := gT_1 4 rfl rfl
theorem wn_X5 : Cond.initialized RX5 ∈ gT := gT_1 10 rfl rfl
theorem wn_X6 : Cond.initialized RX6 ∈ gT := gT_1 7 rfl rfl
theorem wn_X7 : Cond.initialized RX7 ∈ gT := gT_1 9 rfl rfl
theorem wn_X8 : Cond.initialized RX8 ∈ gT := gT_1 3 rfl rfl
theorem wn_X9 : Cond.initialized RX9 ∈ gT := gT_1 1 rfl rfl
theorem wn_X10 : Cond.initialized RX10 ∈ gT := gT_1 11 rfl rfl
theorem wn_J9 : Cond.initialized RJ9 ∈ gT := gT_1 18 rfl rfl
theorem wn_L : Cond.initialized RL ∈ gT := gT_1 0 rfl rfl
theorem wt_max : Cond.static Lib.Math.max.name ∈ gT := gT_4 64 rfl rfl
theorem wc_max : Cond.code Lib.Math.max.name Lib.Math.max.code 2 (some .int) ∈ gT := gT_4 65 (by decide +kernel) rfl
theorem wt_min : Cond.static Lib.Math.min.name ∈ gT := gT_4 125 rfl rfl
theorem wc_min : Cond.code Lib.Math.min.name Lib.Math.min.code 2 (some .int) ∈ gT := gT_4 126 (by decide +kernel) rfl
theorem wt_maxl : Cond.static Lib.MathLoose.max_long.x ∈ gT := gT_4 148 rfl rfl
theorem wc_maxl : Cond.code Lib.MathLoose.max_long.x Lib.MathLoose.max_long.code 4 (some .long) ∈ gT := gT_4 149 (by decide +kernel) rfl
end
section
/-! the machine seen from one system of cells whose shape stays: the cells' shapes mt, their contents M, their addresses ad -/
abbrev gq_T : Type := (Nat × List (Option Nat)) ⊕ (Bool × Nat)
abbrev gq_M : Type := Nat → Nat → Int32
def gq_up (M : gq_M) (k j : Nat) (v : Int32) : gq_M := fun a => if a = k then upd (M a) j v else M a
def gq_fd (ad : Nat → Nat) (f : Nat → Int32) : Nat → List (Option Nat) → List Value
  | _, [] => []
  | j, some q :: r => .ref (ad q) :: gq_fd ad f (j + 1) r
  | j, none :: r => .int (f j) :: gq_fd ad f (j + 1) r
def gq_e (cI cZ : ClassId) (ad : Nat → Nat) (f : Nat → Int32) : gq_T → va_E
  | .inl o => .inr (o.1, gq_fd ad f 0 o.2)
  | .inr a => .inl (if a.1 then cZ else cI, a.2, .inl f)
def gq_ws (cI cZ : ClassId) (ad : Nat → Nat) (M : gq_M) : Nat → List gq_T → va_W
  | _, [] => []
  | k, t :: r => (ad k, gq_e cI cZ ad (M k) t) :: gq_ws cI cZ ad M (k + 1) r
theorem gq_ws_at (cI cZ : ClassId) (ad : Nat → Nat) (M : gq_M) : ∀ (mt : List gq_T) (k0 i : Nat), (gq_ws cI cZ ad M k0 mt)[i]? = (mt[i]?).map (fun t => (ad (k0 + i), gq_e cI cZ ad (M (k0 + i)) t))
  | [], _, _ => rfl
  | t :: r, k0, 0 => rfl
  | t :: r, k0, i + 1 => by
    have h := gq_ws_at cI cZ ad M r (k0 + 1) i
    rw [show k0 + 1 + i = k0 + (i + 1) by omega] at h
    show (gq_ws cI cZ ad M (k0 + 1) r)[i]? = (r[i]?).map _
    exact h
theorem gq_ws_get {cI cZ : ClassId} {ad : Nat → Nat} {M : gq_M} {mt : List gq_T} {q : Nat} {t : gq_T} (h : mt[q]? = some t) : (gq_ws cI cZ ad M 0 mt)[q]? = some (ad q, gq_e cI cZ ad (M q) t) := by
  rw [gq_ws_at, h, Nat.zero_add]; rfl
theorem gq_ws_set {cI cZ : ClassId} {ad : Nat → Nat} {M : gq_M} {mt : List gq_T} {q j : Nat} {v : Int32} {t : gq_T} {e : va_E} (h : mt[q]? = some t) (he : e = gq_e cI cZ ad (upd (M q) j v) t) : (gq_ws cI cZ ad M 0 mt).set q (ad q, e) = gq_ws cI cZ ad (gq_up M q j v) 0 mt := by
  apply List.ext_getElem?
  intro i
  rw [List.getElem?_set, gq_ws_at, gq_ws_at]
  by_cases hi : q = i
  · subst hi
    have hl : q < (gq_ws cI cZ ad M 0 mt).length := (List.getElem?_eq_some_iff.mp (gq_ws_get (cI := cI) (cZ := cZ) (ad := ad) (M := M) h)).1
    rw [if_pos rfl, if_pos hl, h, Nat.zero_add, he]
    show _ = some (ad q, gq_e cI cZ ad (gq_up M q j v q) t)
    rw [show gq_up M q j v q = upd (M q) j v from if_pos rfl]
  · rw [if_neg hi]
    cases hm : mt[i]? with
    | none => rfl
    | some t' =>
      show some (ad (0 + i), gq_e cI cZ ad (M (0 + i)) t') = some (ad (0 + i), gq_e cI cZ ad (gq_up M q j v (0 + i)) t')
      rw [show gq_up M q j v (0 + i) = M (0 + i) from if_neg (by omega)]
theorem gq_fd_at (ad : Nat → Nat) (f : Nat → Int32) : ∀ (fd : List (Option Nat)) (j0 i : Nat), (gq_fd ad f j0 fd)[i]? = (fd[i]?).map (fun r => match r with | some q => .ref (ad q) | none => .int (f (j0 + i)))
  | [], _, _ => rfl
  | some q :: r, j0, 0 => rfl
  | none :: r, j0, 0 => rfl
  | some q :: r, j0, i + 1 => by
    have h := gq_fd_at ad f r (j0 + 1) i
    rw [show j0 + 1 + i = j0 + (i + 1) by omega] at h
    exact h
  | none :: r, j0, i + 1 => by
    have h := gq_fd_at ad f r (j0 + 1) i
    rw [show j0 + 1 + i = j0 + (i + 1) by omega] at h
    exact h
theorem gq_fd_int {ad : Nat → Nat} {f : Nat → Int32} {fd : List (Option Nat)} {k : Nat} (h : fd[k]? = some none) : (gq_fd ad f 0 fd)[k]? = some (.int (f k)) := by
  rw [gq_fd_at, h, Nat.zero_add]; rfl
theorem gq_fd_ref {ad : Nat → Nat} {f : Nat → Int32} {fd : List (Option Nat)} {k q : Nat} (h : fd[k]? = some (some q)) : (gq_fd ad f 0 fd)[k]? = some (.ref (ad q)) := by
  rw [gq_fd_at, h]; rfl
theorem gq_fd_set {ad : Nat → Nat} {f : Nat → Int32} {fd : List (Option Nat)} {k : Nat} {v : Int32} (h : fd[k]? = some none) : (gq_fd ad f 0 fd).set k (.int v) = gq_fd ad (upd f k v) 0 fd := by
  apply List.ext_getElem?
  intro i
  rw [List.getElem?_set, gq_fd_at, gq_fd_at]
  by_cases hi : k = i
  · subst hi
    have hl : k < (gq_fd ad f 0 fd).length := (List.getElem?_eq_some_iff.mp (gq_fd_int (ad := ad) (f := f) h)).1
    rw [if_pos rfl, if_pos hl, h, Nat.zero_add]
    show _ = some (Value.int (upd f k v k))
    rw [show upd f k v k = v from if_pos rfl]
  · rw [if_neg hi]
    cases hm : fd[i]? with
    | none => rfl
    | some r =>
      cases r with
      | some q => rfl
      | none =>
        show some (Value.int (f (0 + i))) = some (.int (upd f k v (0 + i)))
        rw [show upd f k v (0 + i) = f (0 + i) from if_neg (by omega)]
def gq_K (D : va_G) (cI cZ : ClassId) (U : State) : Prop := va_K D vwCl [(cI, .int), (cZ, .boolean)] U
/-- the addresses are apart, and free to be written -/
def gq_DD (A : Nat → Prop) (ad : Nat → Nat) (n : Nat) : Prop := (∀ i j : Nat, i < n → j < n → ad i = ad j → i = j) ∧ ∀ k, k < n → A (ad k)
theorem gq_D {A : Nat → Prop} {ad : Nat → Nat} {mt : List gq_T} {cI cZ : ClassId} {M : gq_M} (h : gq_DD A ad mt.length) : va_D A (gq_ws cI cZ ad M 0 mt) := by
  have key : ∀ (i : Nat) (p : Nat × va_E), (gq_ws cI cZ ad M 0 mt)[i]? = some p → i < mt.length ∧ p.1 = ad i := by
    intro i p hp
    rw [gq_ws_at] at hp
    cases hm : mt[i]? with
    | none => rw [hm] at hp; cases hp
    | some t =>
      rw [hm] at hp
      cases hp
      exact ⟨(List.getElem?_eq_some_iff.mp hm).1, by rw [Nat.zero_add]⟩
  refine ⟨fun i j x y hx hy hxy => ?_, fun k x hx => ?_⟩
  · obtain ⟨h1, h2⟩ := key i x hx
    obtain ⟨h3, h4⟩ := key j y hy
    exact h.1 i j h1 h3 (by rw [← h2, ← h4]; exact hxy)
  · obtain ⟨h1, h2⟩ := key k x hx
    rw [h2]; exact h.2 k h1
/-- a field that a method's own pool names: class ci's field k -/
def gq_F (own : String) (index ci k : Nat) : Prop := ∃ (C : String) (T : u_T) (N : Nat), vwCl[ci]? = some (C, T, N) ∧ k < N ∧ (∀ w ∈ u_ws C T N, w ∈ gT) ∧ Cond.fieldLink own index (T k).1 (T k).2.1 (T k).2.2.1 ∈ gT
/-- .. that may be written: its type -/
def gq_G (own : String) (index ci k : Nat) (ty : FieldType) : Prop := ∃ (C : String) (T : u_T) (N : Nat) (ty0 : Nat → FieldType), vwCl[ci]? = some (C, T, N) ∧ k < N ∧ (∀ w ∈ u_ws C T N, w ∈ gT) ∧ Cond.fieldLink own index (T k).1 (T k).2.1 (T k).2.2.1 ∈ gT ∧
  (∀ k, k < N → parseFieldDescriptor (T k).2.2.1 = some (ty0 k)) ∧ (∀ a, a < N → ∀ b, b < N → a ≠ b → (T a).2.1 ≠ (T b).2.1) ∧ (T k).2.2.2 = false ∧ parseFieldDescriptor (T k).2.2.1 = some ty
def gq_bit (v : Int32) : Prop := v = 0 ∨ v = 1
theorem gq_bit0 : gq_bit 0 := Or.inl rfl
theorem gq_bit1 : gq_bit 1 := Or.inr rfl
theorem gq_bitN {v : Int32} (h : gq_bit v) : narrow .boolean (.int v) = .int v ∧ fits .boolean (.int v) = true ∧ vp_nar .boolean v = v := by
  rcases h with rfl | rfl <;> exact ⟨rfl, by decide, rfl⟩
def gq_lk (mt : List gq_T) (q ci k : Nat) (r : Option Nat) : Prop := ∃ fd : List (Option Nat), mt[q]? = some (.inl (ci, fd)) ∧ fd[k]? = some r
section GQ
variable {p : Program} {l : Launch} {e : Env} {R : Room} {s : State} {m : MethodId} {args : Array Value} {below : List Frame} {meth : Method} {c : Code} {Q : State → Prop}
variable {D : va_G} {A : Nat → Prop} {cI cZ : ClassId} {ad : Nat → Nat} {mt : List gq_T} {own : String} {cc : ByteArray} {nL : Nat}
variable {pc : Nat} {L : List (Nat × Value)} {st : List Value} {M : gq_M} {kc ks : Nat}
def gq_W (p : Program) (l : Launch) (e : Env) (R : Room) (s : State) (m : MethodId) (args : Array Value) (below : List Frame) (meth : Method) (c : Code) (D : va_G) (A : Nat → Prop) (cI cZ : ClassId) (ad : Nat → Nat) (mt : List gq_T) (nL : Nat) (Q : State → Prop) (pc : Nat) (L : List (Nat × Value)) (st : List Value) (M : gq_M) (kc ks : Nat) : Prop :=
  ∀ (H : Heap) (locs : List Loc) (ls : Array Slot), va_P D vwCl (gq_ws cI cZ ad M 0 mt) H → va_S A s.heap H locs → lv_has ls nL L → W p l e R s m args below meth c H locs kc ks Q (F0 m pc ls st)
def gq_C (p : Program) (s : State) (m : MethodId) (args : Array Value) (meth : Method) (c : Code) (D : va_G) (A : Nat → Prop) (cI cZ : ClassId) (ad : Nat → Nat) (mt : List gq_T) (own : String) (cc : ByteArray) (nL : Nat) : Prop :=
  p.tables.exec = Jvm.exec ∧ c.code = cc ∧ c.maxLocals = nL ∧ s.vm.findClass own = some m.cls ∧ (∀ w ∈ gT, w.before args s = true) ∧ gq_K D cI cZ s ∧ meth.locks = false ∧ (∀ q, s.heap.size ≤ q → A q) ∧ gq_DD A ad mt.length

theorem g_iload_n (hC : gq_C p s m args meth c D A cI cZ ad mt own cc nL) {k : Fin 4} {i : Nat} {x : Int32} (j : Nat) (hi : (k : Nat) = i) (hk : L[j]? = some (i, .int x)) (d : decode cc pc = .ok (.iload_n k, 1)) (kk : gq_W p l e R s m args below meth c D A cI cZ ad mt nL Q (pc + 1) L (.int x :: st) M kc ks) : gq_W p l e R s m args below meth c D A cI cZ ad mt nL Q pc L st M kc ks := fun H locs ls hP hS hl => lv_iload_n hC.1 hC.2.1 d hi (lv_at hl j hk) (kk H locs ls hP hS hl)
theorem g_iload (hC : gq_C p s m args meth c D A cI cZ ad mt own cc nL) {i : Nat} {x : Int32} (j : Nat) (hk : L[j]? = some (i, .int x)) (d : decode cc pc = .ok (.iload i, 2)) (kk : gq_W p l e R s m args below meth c D A cI cZ ad mt nL Q (pc + 2) L (.int x :: st) M kc ks) : gq_W p l e R s m args below meth c D A cI cZ ad mt nL Q pc L st M kc ks := fun H locs ls hP hS hl => lv_iload hC.1 hC.2.1 d  (lv_at hl j hk) (kk H locs ls hP hS hl)
theorem g_lload_n (hC : gq_C p s m args meth c D A cI cZ ad mt own cc nL) {k : Fin 4} {i : Nat} {x : Int64} (j : Nat) (hi : (k : Nat) = i) (hk : L[j]? = some (i, .long x)) (d : decode cc pc = .ok (.lload_n k, 1)) (kk : gq_W p l e R s m args below meth c D A cI cZ ad mt nL Q (pc + 1) L (.long x :: st) M kc ks) : gq_W p l e R s m args below meth c D A cI cZ ad mt nL Q pc L st M kc ks := fun H locs ls hP hS hl => lv_lload_n hC.1 hC.2.1 d hi (lv_at hl j hk) (kk H locs ls hP hS hl)
theorem g_lload (hC : gq_C p s m args meth c D A cI cZ ad mt own cc nL) {i : Nat} {x : Int64} (j : Nat) (hk : L[j]? = some (i, .long x)) (d : decode cc pc = .ok (.lload i, 2)) (kk : gq_W p l e R s m args below meth c D A cI cZ ad mt nL Q (pc + 2) L (.long x :: st) M kc ks) : gq_W p l e R s m args below meth c D A cI cZ ad mt nL Q pc L st M kc ks := fun H locs ls hP hS hl => lv_lload hC.1 hC.2.1 d  (lv_at hl j hk) (kk H locs ls hP hS hl)
theorem g_aload_n (hC : gq_C p s m args meth c D A cI cZ ad mt own cc nL) {k : Fin 4} {i x : Nat} (j : Nat) (hi : (k : Nat) = i) (hk : L[j]? = some (i, .ref x)) (d : decode cc pc = .ok (.aload_n k, 1)) (kk : gq_W p l e R s m args below meth c D A cI cZ ad mt nL Q (pc + 1) L (.ref x :: st) M kc ks) : gq_W p l e R s m args below meth c D A cI cZ ad mt nL Q pc L st M kc ks := fun H locs ls hP hS hl => lv_aload_n hC.1 hC.2.1 d hi (lv_at hl j hk) (kk H locs ls hP hS hl)
theorem g_aload (hC : gq_C p s m args meth c D A cI cZ ad mt own cc nL) {i x : Nat} (j : Nat) (hk : L[j]? = some (i, .ref x)) (d : decode cc pc = .ok (.aload i, 2)) (kk : gq_W p l e R s m args below meth c D A cI cZ ad mt nL Q (pc + 2) L (.ref x :: st) M kc ks) : gq_W p l e R s m args below meth c D A cI cZ ad mt nL Q pc L st M kc ks := fun H locs ls hP hS hl => lv_aload hC.1 hC.2.1 d (lv_at hl j hk) (kk H locs ls hP hS hl)
theorem g_istore_n (hC : gq_C p s m args meth c D A cI cZ ad mt own cc nL) {k : Fin 4} {i : Nat} {x : Int32} {L2 : List (Nat × Value)} (hi : (k : Nat) = i) (hn : i < nL) (hl2 : (i, Value.int x) :: L.filter (fun q => !(q.1 == i) && !(q.1 + 1 == i && q.2.category == 2)) = L2) (d : decode cc pc = .ok (.istore_n k, 1)) (kk : gq_W p l e R s m args below meth c D A cI cZ ad mt nL Q (pc + 1) L2 st M kc ks) : gq_W p l e R s m args below meth c D A cI cZ ad mt nL Q pc L (.int x :: st) M kc ks := fun H locs ls hP hS hl => lv_istore_n hC.1 hC.2.1 d hi hl hn hl2 (fun ls hl => (kk H locs ls hP hS hl))
theorem g_istore (hC : gq_C p s m args meth c D A cI cZ ad mt own cc nL) {i : Nat} {x : Int32} {L2 : List (Nat × Value)} (hn : i < nL) (hl2 : (i, Value.int x) :: L.filter (fun q => !(q.1 == i) && !(q.1 + 1 == i && q.2.category == 2)) = L2) (d : decode cc pc = .ok (.istore i, 2)) (kk : gq_W p l e R s m args below meth c D A cI cZ ad mt nL Q (pc + 2) L2 st M kc ks) : gq_W p l e R s m args below meth c D A cI cZ ad mt nL Q pc L (.int x :: st) M kc ks := fun H locs ls hP hS hl => lv_istore hC.1 hC.2.1 d hl hn hl2 (fun ls hl => (kk H locs ls hP hS hl))
theorem g_astore_n (hC : gq_C p s m args meth c D A cI cZ ad mt own cc nL) {k : Fin 4} {i : Nat} {x : Nat} {L2 : List (Nat × Value)} (hi : (k : Nat) = i) (hn : i < nL) (hl2 : (i, Value.ref x) :: L.filter (fun q => !(q.1 == i) && !(q.1 + 1 == i && q.2.category == 2)) = L2) (d : decode cc pc = .ok (.astore_n k, 1)) (kk : gq_W p l e R s m args below meth c D A cI cZ ad mt nL Q (pc + 1) L2 st M kc ks) : gq_W p l e R s m args below meth c D A cI cZ ad mt nL Q pc L (.ref x :: st) M kc ks := fun H locs ls hP hS hl => lv_astore_n hC.1 hC.2.1 d hi hl hn hl2 (fun ls hl => (kk H locs ls hP hS hl))
theorem g_astore (hC : gq_C p s m args meth c D A cI cZ ad mt own cc nL) {i : Nat} {x : Nat} {L2 : List (Nat × Value)} (hn : i < nL) (hl2 : (i, Value.ref x) :: L.filter (fun q => !(q.1 == i) && !(q.1 + 1 == i && q.2.category == 2)) = L2) (d : decode cc pc = .ok (.astore i, 2)) (kk : gq_W p l e R s m args below meth c D A cI cZ ad mt nL Q (pc + 2) L2 st M kc ks) : gq_W p l e R s m args below meth c D A cI cZ ad mt nL Q pc L (.ref x :: st) M kc ks := fun H locs ls hP hS hl => lv_astore hC.1 hC.2.1 d hl hn hl2 (fun ls hl => (kk H locs ls hP hS hl))
theorem g_lstore (hC : gq_C p s m args meth c D A cI cZ ad mt own cc nL) {i : Nat} {x : Int64} {L2 : List (Nat × Value)} (hn : i + 1 < nL) (hl2 : (i, Value.long x) :: L.filter (fun q => !(q.1 == i) && (!(q.1 == i + 1) && !(q.1 + 1 == i && q.2.category == 2))) = L2) (d : decode cc pc = .ok (.lstore i, 2)) (kk : gq_W p l e R s m args below meth c D A cI cZ ad mt nL Q (pc + 2) L2 st M kc ks) : gq_W p l e R s m args below meth c D A cI cZ ad mt nL Q pc L (.long x :: st) M kc ks := fun H locs ls hP hS hl => lv_lstore hC.1 hC.2.1 d hl hn hl2 (fun ls hl => (kk H locs ls hP hS hl))
theorem g_iinc (hC : gq_C p s m args meth c D A cI cZ ad mt own cc nL) {i : Nat} {n : Int} {x v : Int32} {L2 : List (Nat × Value)} (j : Nat) (hk : L[j]? = some (i, .int x)) (hv : x + Int32.ofInt n = v) (hn : i < nL) (hl2 : (i, Value.int v) :: L.filter (fun q => !(q.1 == i) && !(q.1 + 1 == i && q.2.category == 2)) = L2) (d : decode cc pc = .ok (.iinc i n, 3)) (kk : gq_W p l e R s m args below meth c D A cI cZ ad mt nL Q (pc + 3) L2 st M kc ks) : gq_W p l e R s m args below meth c D A cI cZ ad mt nL Q pc L st M kc ks := fun H locs ls hP hS hl => lv_iinc hC.1 hC.2.1 d hl hk hv hn hl2 (fun ls hl => (kk H locs ls hP hS hl))
theorem g_iconst (hC : gq_C p s m args meth c D A cI cZ ad mt own cc nL) {n : Int} {v : Int32} (hv : Int32.ofInt n = v) (d : decode cc pc = .ok (.iconst n, 1)) (kk : gq_W p l e R s m args below meth c D A cI cZ ad mt nL Q (pc + 1) L (.int v :: st) M kc ks) : gq_W p l e R s m args below meth c D A cI cZ ad mt nL Q pc L st M kc ks := fun H locs ls hP hS hl => lv_iconst hC.1 hC.2.1 d hv (kk H locs ls hP hS hl)
theorem g_bipush (hC : gq_C p s m args meth c D A cI cZ ad mt own cc nL) {n : Int} {v : Int32} (hv : (Int8.ofInt n).toInt32 = v) (d : decode cc pc = .ok (.bipush n, 2)) (kk : gq_W p l e R s m args below meth c D A cI cZ ad mt nL Q (pc + 2) L (.int v :: st) M kc ks) : gq_W p l e R s m args below meth c D A cI cZ ad mt nL Q pc L st M kc ks := fun H locs ls hP hS hl => lv_bipush hC.1 hC.2.1 d hv (kk H locs ls hP hS hl)
theorem g_sipush (hC : gq_C p s m args meth c D A cI cZ ad mt own cc nL) {n : Int} {v : Int32} (hv : (Int16.ofInt n).toInt32 = v) (d : decode cc pc = .ok (.sipush n, 3)) (kk : gq_W p l e R s m args below meth c D A cI cZ ad mt nL Q (pc + 3) L (.int v :: st) M kc ks) : gq_W p l e R s m args below meth c D A cI cZ ad mt nL Q pc L st M kc ks := fun H locs ls hP hS hl => lv_sipush hC.1 hC.2.1 d hv (kk H locs ls hP hS hl)
theorem g_lconst (hC : gq_C p s m args meth c D A cI cZ ad mt own cc nL) {n : Fin 2} {v : Int64} (hv : Int64.ofNat (n : Nat) = v) (d : decode cc pc = .ok (.lconst n, 1)) (kk : gq_W p l e R s m args below meth c D A cI cZ ad mt nL Q (pc + 1) L (.long v :: st) M kc ks) : gq_W p l e R s m args below meth c D A cI cZ ad mt nL Q pc L st M kc ks := fun H locs ls hP hS hl => lv_lconst hC.1 hC.2.1 d hv (kk H locs ls hP hS hl)
theorem g_ldc (hC : gq_C p s m args meth c D A cI cZ ad mt own cc nL) {i : Nat} {v : Int32} (hw : Cond.constant own i v ∈ gT) (d : decode cc pc = .ok (.ldc i, 2)) (kk : gq_W p l e R s m args below meth c D A cI cZ ad mt nL Q (pc + 2) L (.int v :: st) M kc ks) : gq_W p l e R s m args below meth c D A cI cZ ad mt nL Q pc L st M kc ks := fun H locs ls hP hS hl => lv_ldc hC.1 hC.2.1 hC.2.2.2.1 (hC.2.2.2.2.1 _ hw) d (kk H locs ls hP hS hl)
theorem g_ldcw (hC : gq_C p s m args meth c D A cI cZ ad mt own cc nL) {i : Nat} {v : Int32} (hw : Cond.constant own i v ∈ gT) (d : decode cc pc = .ok (.ldc_w i, 3)) (kk : gq_W p l e R s m args below meth c D A cI cZ ad mt nL Q (pc + 3) L (.int v :: st) M kc ks) : gq_W p l e R s m args below meth c D A cI cZ ad mt nL Q pc L st M kc ks := fun H locs ls hP hS hl => lv_ldcw hC.1 hC.2.1 hC.2.2.2.1 (hC.2.2.2.2.1 _ hw) d (kk H locs ls hP hS hl)
theorem g_ldc2 (hC : gq_C p s m args meth c D A cI cZ ad mt own cc nL) {i : Nat} {v : Int64} (hw : Cond.constantLong own i v ∈ gT) (d : decode cc pc = .ok (.ldc2_w i, 3)) (kk : gq_W p l e R s m args below meth c D A cI cZ ad mt nL Q (pc + 3) L (.long v :: st) M kc ks) : gq_W p l e R s m args below meth c D A cI cZ ad mt nL Q pc L st M kc ks := fun H locs ls hP hS hl => lv_ldc2 hC.1 hC.2.1 hC.2.2.2.1 (hC.2.2.2.2.1 _ hw) d (kk H locs ls hP hS hl)
theorem g_iadd (hC : gq_C p s m args meth c D A cI cZ ad mt own cc nL) {x y : Int32}  (d : decode cc pc = .ok (.iadd, 1)) (kk : gq_W p l e R s m args below meth c D A cI cZ ad mt nL Q (pc + 1) L (.int (x + y) :: st) M kc ks) : gq_W p l e R s m args below meth c D A cI cZ ad mt nL Q pc L (.int y :: .int x :: st) M kc ks := fun H locs ls hP hS hl => lv_iadd hC.1 hC.2.1 d (kk H locs ls hP hS hl)
theorem g_isub (hC : gq_C p s m args meth c D A cI cZ ad mt own cc nL) {x y : Int32}  (d : decode cc pc = .ok (.isub, 1)) (kk : gq_W p l e R s m args below meth c D A cI cZ ad mt nL Q (pc + 1) L (.int (x - y) :: st) M kc ks) : gq_W p l e R s m args below meth c D A cI cZ ad mt nL Q pc L (.int y :: .int x :: st) M kc ks := fun H locs ls hP hS hl => lv_isub hC.1 hC.2.1 d (kk H locs ls hP hS hl)
theorem g_imul (hC : gq_C p s m args meth c D A cI cZ ad mt own cc nL) {x y : Int32}  (d : decode cc pc = .ok (.imul, 1)) (kk : gq_W p l e R s m args below meth c D A cI cZ ad mt nL Q (pc + 1) L (.int (x * y) :: st) M kc ks) : gq_W p l e R s m args below meth c D A cI cZ ad mt nL Q pc L (.int y :: .int x :: st) M kc ks := fun H locs ls hP hS hl => lv_imul hC.1 hC.2.1 d (kk H locs ls hP hS hl)
theorem g_iand (hC : gq_C p s m args meth c D A cI cZ ad mt own cc nL) {x y : Int32}  (d : decode cc pc = .ok (.iand, 1)) (kk : gq_W p l e R s m args below meth c D A cI cZ ad mt nL Q (pc + 1) L (.int (x &&& y) :: st) M kc ks) : gq_W p l e R s m args below meth c D A cI cZ ad mt nL Q pc L (.int y :: .int x :: st) M kc ks := fun H locs ls hP hS hl => lv_iand hC.1 hC.2.1 d (kk H locs ls hP hS hl)
theorem g_ior (hC : gq_C p s m args meth c D A cI cZ ad mt own cc nL) {x y : Int32}  (d : decode cc pc = .ok (.ior, 1)) (kk : gq_W p l e R s m args below meth c D A cI cZ ad mt nL Q (pc + 1) L (.int (x ||| y) :: st) M kc ks) : gq_W p l e R s m args below meth c D A cI cZ ad mt nL Q pc L (.int y :: .int x :: st) M kc ks := fun H locs ls hP hS hl => lv_ior hC.1 hC.2.1 d (kk H locs ls hP hS hl)
theorem g_ixor (hC : gq_C p s m args meth c D A cI cZ ad mt own cc nL) {x y : Int32}  (d : decode cc pc = .ok (.ixor, 1)) (kk : gq_W p l e R s m args below meth c D A cI cZ ad mt nL Q (pc + 1) L (.int (x ^^^ y) :: st) M kc ks) : gq_W p l e R s m args below meth c D A cI cZ ad mt nL Q pc L (.int y :: .int x :: st) M kc ks := fun H locs ls hP hS hl => lv_ixor hC.1 hC.2.1 d (kk H locs ls hP hS hl)
theorem g_ishl (hC : gq_C p s m args meth c D A cI cZ ad mt own cc nL) {x y : Int32}  (d : decode cc pc = .ok (.ishl, 1)) (kk : gq_W p l e R s m args below meth c D A cI cZ ad mt nL Q (pc + 1) L (.int (x <<< (y &&& 31)) :: st) M kc ks) : gq_W p l e R s m args below meth c D A cI cZ ad mt nL Q pc L (.int y :: .int x :: st) M kc ks := fun H locs ls hP hS hl => lv_ishl hC.1 hC.2.1 d (kk H locs ls hP hS hl)
theorem g_ishr (hC : gq_C p s m args meth c D A cI cZ ad mt own cc nL) {x y : Int32}  (d : decode cc pc = .ok (.ishr, 1)) (kk : gq_W p l e R s m args below meth c D A cI cZ ad mt nL Q (pc + 1) L (.int (x >>> (y &&& 31)) :: st) M kc ks) : gq_W p l e R s m args below meth c D A cI cZ ad mt nL Q pc L (.int y :: .int x :: st) M kc ks := fun H locs ls hP hS hl => lv_ishr hC.1 hC.2.1 d (kk H locs ls hP hS hl)
theorem g_iushr (hC : gq_C p s m args meth c D A cI cZ ad mt own cc nL) {x y : Int32}  (d : decode cc pc = .ok (.iushr, 1)) (kk : gq_W p l e R s m args below meth c D A cI cZ ad mt nL Q (pc + 1) L (.int ((x.toUInt32 >>> (y.toUInt32 &&& Int32.toUInt32 31)).toInt32) :: st) M kc ks) : gq_W p l e R s m args below meth c D A cI cZ ad mt nL Q pc L (.int y :: .int x :: st) M kc ks := fun H locs ls hP hS hl => lv_iushr hC.1 hC.2.1 d rfl (kk H locs ls hP hS hl)
theorem g_idiv (hC : gq_C p s m args meth c D A cI cZ ad mt own cc nL) {x y : Int32} (hne : ¬ y = 0) (d : decode cc pc = .ok (.idiv, 1)) (kk : gq_W p l e R s m args below meth c D A cI cZ ad mt nL Q (pc + 1) L (.int (x / y) :: st) M kc ks) : gq_W p l e R s m args below meth c D A cI cZ ad mt nL Q pc L (.int y :: .int x :: st) M kc ks := fun H locs ls hP hS hl => lv_idiv hC.1 hC.2.1 d hne (kk H locs ls hP hS hl)
theorem g_irem (hC : gq_C p s m args meth c D A cI cZ ad mt own cc nL) {x y : Int32} (hne : ¬ y = 0) (d : decode cc pc = .ok (.irem, 1)) (kk : gq_W p l e R s m args below meth c D A cI cZ ad mt nL Q (pc + 1) L (.int (x - x / y * y) :: st) M kc ks) : gq_W p l e R s m args below meth c D A cI cZ ad mt nL Q pc L (.int y :: .int x :: st) M kc ks := fun H locs ls hP hS hl => lv_irem hC.1 hC.2.1 d hne (kk H locs ls hP hS hl)
theorem g_ineg (hC : gq_C p s m args meth c D A cI cZ ad mt own cc nL) {x : Int32}  (d : decode cc pc = .ok (.ineg, 1)) (kk : gq_W p l e R s m args below meth c D A cI cZ ad mt nL Q (pc + 1) L (.int (-x) :: st) M kc ks) : gq_W p l e R s m args below meth c D A cI cZ ad mt nL Q pc L (.int x :: st) M kc ks := fun H locs ls hP hS hl => lv_ineg hC.1 hC.2.1 d (kk H locs ls hP hS hl)
theorem g_i2l (hC : gq_C p s m args meth c D A cI cZ ad mt own cc nL) {x : Int32}  (d : decode cc pc = .ok (.i2l, 1)) (kk : gq_W p l e R s m args below meth c D A cI cZ ad mt nL Q (pc + 1) L (.long x.toInt64 :: st) M kc ks) : gq_W p l e R s m args below meth c D A cI cZ ad mt nL Q pc L (.int x :: st) M kc ks := fun H locs ls hP hS hl => lv_i2l hC.1 hC.2.1 d rfl (kk H locs ls hP hS hl)
theorem g_l2i (hC : gq_C p s m args meth c D A cI cZ ad mt own cc nL) {x : Int64}  (d : decode cc pc = .ok (.l2i, 1)) (kk : gq_W p l e R s m args below meth c D A cI cZ ad mt nL Q (pc + 1) L (.int x.toInt32 :: st) M kc ks) : gq_W p l e R s m args below meth c D A cI cZ ad mt nL Q pc L (.long x :: st) M kc ks := fun H locs ls hP hS hl => lv_l2i hC.1 hC.2.1 d rfl (kk H locs ls hP hS hl)
theorem g_lmul (hC : gq_C p s m args meth c D A cI cZ ad mt own cc nL) {x y : Int64}  (d : decode cc pc = .ok (.lmul, 1)) (kk : gq_W p l e R s m args below meth c D A cI cZ ad mt nL Q (pc + 1) L (.long (x * y) :: st) M kc ks) : gq_W p l e R s m args below meth c D A cI cZ ad mt nL Q pc L (.long y :: .long x :: st) M kc ks := fun H locs ls hP hS hl => lv_lmul hC.1 hC.2.1 d (kk H locs ls hP hS hl)
theorem g_lsub (hC : gq_C p s m args meth c D A cI cZ ad mt own cc nL) {x y : Int64}  (d : decode cc pc = .ok (.lsub, 1)) (kk : gq_W p l e R s m args below meth c D A cI cZ ad mt nL Q (pc + 1) L (.long (x - y) :: st) M kc ks) : gq_W p l e R s m args below meth c D A cI cZ ad mt nL Q pc L (.long y :: .long x :: st) M kc ks := fun H locs ls hP hS hl => lv_lsub hC.1 hC.2.1 d (kk H locs ls hP hS hl)
theorem g_ldiv (hC : gq_C p s m args meth c D A cI cZ ad mt own cc nL) {x y : Int64} (hne : ¬ y = 0) (d : decode cc pc = .ok (.ldiv, 1)) (kk : gq_W p l e R s m args below meth c D A cI cZ ad mt nL Q (pc + 1) L (.long (x / y) :: st) M kc ks) : gq_W p l e R s m args below meth c D A cI cZ ad mt nL Q pc L (.long y :: .long x :: st) M kc ks := fun H locs ls hP hS hl => lv_ldiv hC.1 hC.2.1 d hne (kk H locs ls hP hS hl)
theorem g_lcmp (hC : gq_C p s m args meth c D A cI cZ ad mt own cc nL) {x y : Int64}  (d : decode cc pc = .ok (.lcmp, 1)) (kk : gq_W p l e R s m args below meth c D A cI cZ ad mt nL Q (pc + 1) L (.int (lg_cmp x y) :: st) M kc ks) : gq_W p l e R s m args below meth c D A cI cZ ad mt nL Q pc L (.long y :: .long x :: st) M kc ks := fun H locs ls hP hS hl => W.lcmp hC.1 hC.2.1 d (kk H locs ls hP hS hl)
theorem g_dup (hC : gq_C p s m args meth c D A cI cZ ad mt own cc nL) {v : Value} (hv : v.category = 1) (d : decode cc pc = .ok (.dup, 1)) (kk : gq_W p l e R s m args below meth c D A cI cZ ad mt nL Q (pc + 1) L (v :: v :: st) M kc ks) : gq_W p l e R s m args below meth c D A cI cZ ad mt nL Q pc L (v :: st) M kc ks := fun H locs ls hP hS hl => lv_dup hC.1 hC.2.1 d hv (kk H locs ls hP hS hl)
theorem g_pop (hC : gq_C p s m args meth c D A cI cZ ad mt own cc nL) {v : Value} (hv : v.category = 1) (d : decode cc pc = .ok (.pop, 1)) (kk : gq_W p l e R s m args below meth c D A cI cZ ad mt nL Q (pc + 1) L st M kc ks) : gq_W p l e R s m args below meth c D A cI cZ ad mt nL Q pc L (v :: st) M kc ks := fun H locs ls hP hS hl => lv_pop hC.1 hC.2.1 d hv (kk H locs ls hP hS hl)
theorem g_dup2 (hC : gq_C p s m args meth c D A cI cZ ad mt own cc nL) {v w : Value} (hv : v.category = 1) (hw : w.category = 1) (d : decode cc pc = .ok (.dup2, 1)) (kk : gq_W p l e R s m args below meth c D A cI cZ ad mt nL Q (pc + 1) L (v :: w :: v :: w :: st) M kc ks) : gq_W p l e R s m args below meth c D A cI cZ ad mt nL Q pc L (v :: w :: st) M kc ks := fun H locs ls hP hS hl => lv_dup2_11 hC.1 hC.2.1 d hv hw (kk H locs ls hP hS hl)
theorem g_goto (hC : gq_C p s m args meth c D A cI cZ ad mt own cc nL) {off : Int} {tgt : Nat} (ht : (pc : Int) + off = (tgt : Int)) (d : decode cc pc = .ok (.goto off, 3)) (kk : gq_W p l e R s m args below meth c D A cI cZ ad mt nL Q tgt L st M kc ks) : gq_W p l e R s m args below meth c D A cI cZ ad mt nL Q pc L st M kc ks := fun H locs ls hP hS hl => lv_goto hC.1 hC.2.1 d ht (kk H locs ls hP hS hl)
theorem g_icmp_eq (hC : gq_C p s m args meth c D A cI cZ ad mt own cc nL) {x y : Int32} {off : Int} {tgt : Nat} (ht : (pc : Int) + off = (tgt : Int)) (d : decode cc pc = .ok (.if_icmp .eq off, 3)) (kt : x = y → gq_W p l e R s m args below meth c D A cI cZ ad mt nL Q tgt L st M kc ks) (kf : ¬ x = y → gq_W p l e R s m args below meth c D A cI cZ ad mt nL Q (pc + 3) L st M kc ks) : gq_W p l e R s m args below meth c D A cI cZ ad mt nL Q pc L (.int y :: .int x :: st) M kc ks := fun H locs ls hP hS hl => lv_icmp_eq hC.1 hC.2.1 d ht (fun q => kt q H locs ls hP hS hl) (fun q => kf q H locs ls hP hS hl)
theorem g_if_eq (hC : gq_C p s m args meth c D A cI cZ ad mt own cc nL) {x : Int32} {off : Int} {tgt : Nat} (ht : (pc : Int) + off = (tgt : Int)) (d : decode cc pc = .ok (.ifCond .eq off, 3)) (kt : x = 0 → gq_W p l e R s m args below meth c D A cI cZ ad mt nL Q tgt L st M kc ks) (kf : ¬ x = 0 → gq_W p l e R s m args below meth c D A cI cZ ad mt nL Q (pc + 3) L st M kc ks) : gq_W p l e R s m args below meth c D A cI cZ ad mt nL Q pc L (.int x :: st) M kc ks := fun H locs ls hP hS hl => lv_if_eq hC.1 hC.2.1 d ht (fun q => kt q H locs ls hP hS hl) (fun q => kf q H locs ls hP hS hl)
theorem g_icmp_ne (hC : gq_C p s m args meth c D A cI cZ ad mt own cc nL) {x y : Int32} {off : Int} {tgt : Nat} (ht : (pc : Int) + off = (tgt : Int)) (d : decode cc pc = .ok (.if_icmp .ne off, 3)) (kt : ¬ x = y → gq_W p l e R s m args below meth c D A cI cZ ad mt nL Q tgt L st M kc ks) (kf : x = y → gq_W p l e R s m args below meth c D A cI cZ ad mt nL Q (pc + 3) L st M kc ks) : gq_W p l e R s m args below meth c D A cI cZ ad mt nL Q pc L (.int y :: .int x :: st) M kc ks := fun H locs ls hP hS hl => lv_icmp_ne hC.1 hC.2.1 d ht (fun q => kt q H locs ls hP hS hl) (fun q => kf q H locs ls hP hS hl)
theorem g_if_ne (hC : gq_C p s m args meth c D A cI cZ ad mt own cc nL) {x : Int32} {off : Int} {tgt : Nat} (ht : (pc : Int) + off = (tgt : Int)) (d : decode cc pc = .ok (.ifCond .ne off, 3)) (kt : ¬ x = 0 → gq_W p l e R s m args below meth c D A cI cZ ad mt nL Q tgt L st M kc ks) (kf : x = 0 → gq_W p l e R s m args below meth c D A cI cZ ad mt nL Q (pc + 3) L st M kc ks) : gq_W p l e R s m args below meth c D A cI cZ ad mt nL Q pc L (.int x :: st) M kc ks := fun H locs ls hP hS hl => lv_if_ne hC.1 hC.2.1 d ht (fun q => kt q H locs ls hP hS hl) (fun q => kf q H locs ls hP hS hl)
theorem g_icmp_lt (hC : gq_C p s m args meth c D A cI cZ ad mt own cc nL) {x y : Int32} {off : Int} {tgt : Nat} (ht : (pc : Int) + off = (tgt : Int)) (d : decode cc pc = .ok (.if_icmp .lt off, 3)) (kt : x < y → gq_W p l e R s m args below meth c D A cI cZ ad mt nL Q tgt L st M kc ks) (kf : ¬ x < y → gq_W p l e R s m args below meth c D A cI cZ ad mt nL Q (pc + 3) L st M kc ks) : gq_W p l e R s m args below meth c D A cI cZ ad mt nL Q pc L (.int y :: .int x :: st) M kc ks := fun H locs ls hP hS hl => lv_icmp_lt hC.1 hC.2.1 d ht (fun q => kt q H locs ls hP hS hl) (fun q => kf q H locs ls hP hS hl)
theorem g_if_lt (hC : gq_C p s m args meth c D A cI cZ ad mt own cc nL) {x : Int32} {off : Int} {tgt : Nat} (ht : (pc : Int) + off = (tgt : Int)) (d : decode cc pc = .ok (.ifCond .lt off, 3)) (kt : x < 0 → gq_W p l e R s m args below meth c D A cI cZ ad mt nL Q tgt L st M kc ks) (kf : ¬ x < 0 → gq_W p l e R s m args below meth c D A cI cZ ad mt nL Q (pc + 3) L st M kc ks) : gq_W p l e R s m args below meth c D A cI cZ ad mt nL Q pc L (.int x :: st) M kc ks := fun H locs ls hP hS hl => lv_if_lt hC.1 hC.2.1 d ht (fun q => kt q H locs ls hP hS hl) (fun q => kf q H locs ls hP hS hl)
theorem g_icmp_ge (hC : gq_C p s m args meth c D A cI cZ ad mt own cc nL) {x y : Int32} {off : Int} {tgt : Nat} (ht : (pc : Int) + off = (tgt : Int)) (d : decode cc pc = .ok (.if_icmp .ge off, 3)) (kt : y ≤ x → gq_W p l e R s m args below meth c D A cI cZ ad mt nL Q tgt L st M kc ks) (kf : ¬ y ≤ x → gq_W p l e R s m args below meth c D A cI cZ ad mt nL Q (pc + 3) L st M kc ks) : gq_W p l e R s m args below meth c D A cI cZ ad mt nL Q pc L (.int y :: .int x :: st) M kc ks := fun H locs ls hP hS hl => lv_icmp_ge hC.1 hC.2.1 d ht (fun q => kt q H locs ls hP hS hl) (fun q => kf q H locs ls hP hS hl)
theorem g_if_ge (hC : gq_C p s m args meth c D A cI cZ ad mt own cc nL) {x : Int32} {off : Int} {tgt : Nat} (ht : (pc : Int) + off = (tgt : Int)) (d : decode cc pc = .ok (.ifCond .ge off, 3)) (kt : 0 ≤ x → gq_W p l e R s m args below meth c D A cI cZ ad mt nL Q tgt L st M kc ks) (kf : ¬ 0 ≤ x → gq_W p l e R s m args below meth c D A cI cZ ad mt nL Q (pc + 3) L st M kc ks) : gq_W p l e R s m args below meth c D A cI cZ ad mt nL Q pc L (.int x :: st) M kc ks := fun H locs ls hP hS hl => lv_if_ge hC.1 hC.2.1 d ht (fun q => kt q H locs ls hP hS hl) (fun q => kf q H locs ls hP hS hl)
theorem g_icmp_gt (hC : gq_C p s m args meth c D A cI cZ ad mt own cc nL) {x y : Int32} {off : Int} {tgt : Nat} (ht : (pc : Int) + off = (tgt : Int)) (d : decode cc pc = .ok (.if_icmp .gt off, 3)) (kt : y < x → gq_W p l e R s m args below meth c D A cI cZ ad mt nL Q tgt L st M kc ks) (kf : ¬ y < x → gq_W p l e R s m args below meth c D A cI cZ ad mt nL Q (pc + 3) L st M kc ks) : gq_W p l e R s m args below meth c D A cI cZ ad mt nL Q pc L (.int y :: .int x :: st) M kc ks := fun H locs ls hP hS hl => lv_icmp_gt hC.1 hC.2.1 d ht (fun q => kt q H locs ls hP hS hl) (fun q => kf q H locs ls hP hS hl)
theorem g_if_gt (hC : gq_C p s m args meth c D A cI cZ ad mt own cc nL) {x : Int32} {off : Int} {tgt : Nat} (ht : (pc : Int) + off = (tgt : Int)) (d : decode cc pc = .ok (.ifCond .gt off, 3)) (kt : 0 < x → gq_W p l e R s m args below meth c D A cI cZ ad mt nL Q tgt L st M kc ks) (kf : ¬ 0 < x → gq_W p l e R s m args below meth c D A cI cZ ad mt nL Q (pc + 3) L st M kc ks) : gq_W p l e R s m args below meth c D A cI cZ ad mt nL Q pc L (.int x :: st) M kc ks := fun H locs ls hP hS hl => lv_if_gt hC.1 hC.2.1 d ht (fun q => kt q H locs ls hP hS hl) (fun q => kf q H locs ls hP hS hl)
theorem g_icmp_le (hC : gq_C p s m args meth c D A cI cZ ad mt own cc nL) {x y : Int32} {off : Int} {tgt : Nat} (ht : (pc : Int) + off = (tgt : Int)) (d : decode cc pc = .ok (.if_icmp .le off, 3)) (kt : x ≤ y → gq_W p l e R s m args below meth c D A cI cZ ad mt nL Q tgt L st M kc ks) (kf : ¬ x ≤ y → gq_W p l e R s m args below meth c D A cI cZ ad mt nL Q (pc + 3) L st M kc ks) : gq_W p l e R s m args below meth c D A cI cZ ad mt nL Q pc L (.int y :: .int x :: st) M kc ks := fun H locs ls hP hS hl => lv_icmp_le hC.1 hC.2.1 d ht (fun q => kt q H locs ls hP hS hl) (fun q => kf q H locs ls hP hS hl)
theorem g_if_le (hC : gq_C p s m args meth c D A cI cZ ad mt own cc nL) {x : Int32} {off : Int} {tgt : Nat} (ht : (pc : Int) + off = (tgt : Int)) (d : decode cc pc = .ok (.ifCond .le off, 3)) (kt : x ≤ 0 → gq_W p l e R s m args below meth c D A cI cZ ad mt nL Q tgt L st M kc ks) (kf : ¬ x ≤ 0 → gq_W p l e R s m args below meth c D A cI cZ ad mt nL Q (pc + 3) L st M kc ks) : gq_W p l e R s m args below meth c D A cI cZ ad mt nL Q pc L (.int x :: st) M kc ks := fun H locs ls hP hS hl => lv_if_le hC.1 hC.2.1 d ht (fun q => kt q H locs ls hP hS hl) (fun q => kf q H locs ls hP hS hl)
theorem g_tsIn (hC : gq_C p s m args meth c D A cI cZ ad mt own cc nL) {dflt lo hi : Int} {offs : Array Int} {len : Nat} {x : Int32} {off : Int} {tgt : Nat} (h1 : ¬ x.toInt < lo) (h2 : ¬ hi < x.toInt) (ho : offs[(x.toInt - lo).toNat]? = some off) (ht : (pc : Int) + off = (tgt : Int)) (d : decode cc pc = .ok (.tableswitch dflt lo hi offs, len)) (kk : gq_W p l e R s m args below meth c D A cI cZ ad mt nL Q tgt L st M kc ks) : gq_W p l e R s m args below meth c D A cI cZ ad mt nL Q pc L (.int x :: st) M kc ks := fun H locs ls hP hS hl => lv_tableIn hC.1 hC.2.1 d h1 h2 ho ht (kk H locs ls hP hS hl)
theorem g_tsOut (hC : gq_C p s m args meth c D A cI cZ ad mt own cc nL) {dflt lo hi : Int} {offs : Array Int} {len : Nat} {x : Int32} {tgt : Nat} (h : x.toInt < lo ∨ hi < x.toInt) (ht : (pc : Int) + dflt = (tgt : Int)) (d : decode cc pc = .ok (.tableswitch dflt lo hi offs, len)) (kk : gq_W p l e R s m args below meth c D A cI cZ ad mt nL Q tgt L st M kc ks) : gq_W p l e R s m args below meth c D A cI cZ ad mt nL Q pc L (.int x :: st) M kc ks := fun H locs ls hP hS hl => lv_tableOut hC.1 hC.2.1 d h ht (kk H locs ls hP hS hl)
theorem g_ls (hC : gq_C p s m args meth c D A cI cZ ad mt own cc nL) {dflt : Int} {ps : Array (Int × Int)} {len : Nat} {x : Int32} {off : Int} {tgt : Nat} (hp : (ps.toList.zip (ps.toList.drop 1)).all (fun (a, next) => a.1 < next.1) = true) (ho : Op.lookupswitch.offset ps.toList dflt x.toInt = off) (ht : (pc : Int) + off = (tgt : Int)) (d : decode cc pc = .ok (.lookupswitch dflt ps, len)) (kk : gq_W p l e R s m args below meth c D A cI cZ ad mt nL Q tgt L st M kc ks) : gq_W p l e R s m args below meth c D A cI cZ ad mt nL Q pc L (.int x :: st) M kc ks := fun H locs ls hP hS hl => lv_lookup hC.1 hC.2.1 d hp ho ht (kk H locs ls hP hS hl)
theorem g_weak (ks2 : List Nat) {L2 : List (Nat × Value)} (h : lv_pick L ks2 = L2) (kk : gq_W p l e R s m args below meth c D A cI cZ ad mt nL Q pc L2 st M kc ks) : gq_W p l e R s m args below meth c D A cI cZ ad mt nL Q pc L st M kc ks := fun H locs ls hP hS hl => kk H locs ls hP hS (lv_sub hl ks2 h)
theorem g_cast {pc2 : Nat} {L2 : List (Nat × Value)} {st2 : List Value} {M2 : gq_M} (kk : gq_W p l e R s m args below meth c D A cI cZ ad mt nL Q pc2 L2 st2 M2 kc ks) (h1 : pc = pc2) (h2 : L = L2) (h3 : st = st2) (h4 : M = M2) : gq_W p l e R s m args below meth c D A cI cZ ad mt nL Q pc L st M kc ks := by subst h1 h2 h3 h4; exact kk
theorem g_widen {kc2 ks2 : Nat} (h1 : kc ≤ kc2) (h2 : ks ≤ ks2) (kk : gq_W p l e R s m args below meth c D A cI cZ ad mt nL Q pc L st M kc2 ks2) : gq_W p l e R s m args below meth c D A cI cZ ad mt nL Q pc L st M kc ks := fun H locs ls hP hS hl => W.widen h1 h2 (kk H locs ls hP hS hl)
theorem g_getI (hC : gq_C p s m args meth c D A cI cZ ad mt own cc nL) {index ci k q : Nat} (hF : gq_F own index ci k) (hq : gq_lk mt q ci k none) (d : decode cc pc = .ok (.getfield index, 3)) (kk : gq_W p l e R s m args below meth c D A cI cZ ad mt nL Q (pc + 3) L (.int (M q k) :: st) M kc ks) : gq_W p l e R s m args below meth c D A cI cZ ad mt nL Q pc L (.ref (ad q) :: st) M kc ks := by
  intro H locs ls hP hS hl
  obtain ⟨C, T, N, h1, h2, h3, h4⟩ := hF
  obtain ⟨fd, g1, g2⟩ := hq
  exact va_get hC.1 hC.2.1 hC.2.2.2.2.1 h3 hC.2.2.2.1 hC.2.2.2.2.2.1 hP q (gq_ws_get g1) h1 k h2 (hC.2.2.2.2.1 _ h4) (fun _ h => h) (gq_fd_int g2) d (kk H locs ls hP hS hl)
theorem g_getR (hC : gq_C p s m args meth c D A cI cZ ad mt own cc nL) {index ci k q r : Nat} (hF : gq_F own index ci k) (hq : gq_lk mt q ci k (some r)) (d : decode cc pc = .ok (.getfield index, 3)) (kk : gq_W p l e R s m args below meth c D A cI cZ ad mt nL Q (pc + 3) L (.ref (ad r) :: st) M kc ks) : gq_W p l e R s m args below meth c D A cI cZ ad mt nL Q pc L (.ref (ad q) :: st) M kc ks := by
  intro H locs ls hP hS hl
  obtain ⟨C, T, N, h1, h2, h3, h4⟩ := hF
  obtain ⟨fd, g1, g2⟩ := hq
  exact va_get hC.1 hC.2.1 hC.2.2.2.2.1 h3 hC.2.2.2.1 hC.2.2.2.2.2.1 hP q (gq_ws_get g1) h1 k h2 (hC.2.2.2.2.1 _ h4) (fun _ h => h) (gq_fd_ref g2) d (kk H locs ls hP hS hl)
theorem g_put (hC : gq_C p s m args meth c D A cI cZ ad mt own cc nL) {index ci k q : Nat} {ty : FieldType} {v : Int32} (hF : gq_G own index ci k ty) (hq : gq_lk mt q ci k none) (hn : narrow ty (.int v) = .int v) (hfit : fits ty (.int v) = true) (d : decode cc pc = .ok (.putfield index, 3)) (kk : gq_W p l e R s m args below meth c D A cI cZ ad mt nL Q (pc + 3) L st (gq_up M q k v) kc ks) : gq_W p l e R s m args below meth c D A cI cZ ad mt nL Q pc L (.int v :: .ref (ad q) :: st) M kc ks := by
  intro H locs ls hP hS hl
  obtain ⟨C, T, N, ty0, h1, h2, h3, h4, h5, h6, h7, h8⟩ := hF
  obtain ⟨fd, g1, g2⟩ := hq
  have hlen : k < (gq_fd ad (M q) 0 fd).length := (List.getElem?_eq_some_iff.mp (gq_fd_int (ad := ad) (f := M q) g2)).1
  refine va_put hC.1 hC.2.1 hC.2.2.2.2.1 h3 ty0 h5 h6 hC.2.2.2.1 hC.2.2.2.2.2.1 hP (gq_D hC.2.2.2.2.2.2.2.2) hS q (gq_ws_get g1) h1 k h2 (hC.2.2.2.2.1 _ h4) (fun _ h => h) h7 h8 hn hfit hlen d (fun H1 locs1 hP1 _ hS1 => ?_)
  rw [gq_ws_set (j := k) (v := v) g1 (by show Sum.inr (ci, (gq_fd ad (M q) 0 fd).set k (.int v)) = _; rw [gq_fd_set g2]; rfl)] at hP1
  exact kk H1 locs1 ls hP1 hS1 hl
theorem g_putI (hC : gq_C p s m args meth c D A cI cZ ad mt own cc nL) {index ci k q : Nat} {v : Int32} (hF : gq_G own index ci k .int) (hq : gq_lk mt q ci k none) (d : decode cc pc = .ok (.putfield index, 3)) (kk : gq_W p l e R s m args below meth c D A cI cZ ad mt nL Q (pc + 3) L st (gq_up M q k v) kc ks) : gq_W p l e R s m args below meth c D A cI cZ ad mt nL Q pc L (.int v :: .ref (ad q) :: st) M kc ks := g_put hC hF hq rfl rfl d kk
theorem g_putZ (hC : gq_C p s m args meth c D A cI cZ ad mt own cc nL) {index ci k q : Nat} {v : Int32} (hF : gq_G own index ci k .boolean) (hq : gq_lk mt q ci k none) (hv : gq_bit v) (d : decode cc pc = .ok (.putfield index, 3)) (kk : gq_W p l e R s m args below meth c D A cI cZ ad mt nL Q (pc + 3) L st (gq_up M q k v) kc ks) : gq_W p l e R s m args below meth c D A cI cZ ad mt nL Q pc L (.int v :: .ref (ad q) :: st) M kc ks := g_put hC hF hq (gq_bitN hv).1 (gq_bitN hv).2.1 d kk
theorem g_iald (hC : gq_C p s m args meth c D A cI cZ ad mt own cc nL) {q n : Nat} {i : Int32} (hq : mt[q]? = some (.inr (false, n))) (hi : vp_in i n) (d : decode cc pc = .ok (.iaload, 1)) (kk : gq_W p l e R s m args below meth c D A cI cZ ad mt nL Q (pc + 1) L (.int (M q i.toNatClampNeg) :: st) M kc ks) : gq_W p l e R s m args below meth c D A cI cZ ad mt nL Q pc L (.int i :: .ref (ad q) :: st) M kc ks := fun H locs ls hP hS hl => va_iald hC.1 hC.2.1 hC.2.2.2.2.2.1 hP q 0 (gq_ws_get hq) rfl hi d (kk H locs ls hP hS hl)
theorem g_zald (hC : gq_C p s m args meth c D A cI cZ ad mt own cc nL) {q n : Nat} {i : Int32} (hq : mt[q]? = some (.inr (true, n))) (hi : vp_in i n) (d : decode cc pc = .ok (.baload, 1)) (kk : gq_W p l e R s m args below meth c D A cI cZ ad mt nL Q (pc + 1) L (.int (M q i.toNatClampNeg) :: st) M kc ks) : gq_W p l e R s m args below meth c D A cI cZ ad mt nL Q pc L (.int i :: .ref (ad q) :: st) M kc ks := fun H locs ls hP hS hl => va_zald hC.1 hC.2.1 hC.2.2.2.2.2.1 hP q 1 (gq_ws_get hq) rfl hi d (kk H locs ls hP hS hl)
theorem g_iast (hC : gq_C p s m args meth c D A cI cZ ad mt own cc nL) {q n : Nat} {i v : Int32} (hq : mt[q]? = some (.inr (false, n))) (hi : vp_in i n) (d : decode cc pc = .ok (.iastore, 1)) (kk : gq_W p l e R s m args below meth c D A cI cZ ad mt nL Q (pc + 1) L st (gq_up M q i.toNatClampNeg v) kc ks) : gq_W p l e R s m args below meth c D A cI cZ ad mt nL Q pc L (.int v :: .int i :: .ref (ad q) :: st) M kc ks := by
  intro H locs ls hP hS hl
  refine va_iast hC.1 hC.2.1 hC.2.2.2.2.2.1 hP (gq_D hC.2.2.2.2.2.2.2.2) hS q 0 (gq_ws_get hq) rfl hi d (fun H1 locs1 hP1 _ hS1 => ?_)
  exact kk H1 locs1 ls ((gq_ws_set (cI := cI) (cZ := cZ) (ad := ad) (M := M) (j := i.toNatClampNeg) (v := v) hq rfl) ▸ hP1) hS1 hl
theorem g_zast (hC : gq_C p s m args meth c D A cI cZ ad mt own cc nL) {q n : Nat} {i v : Int32} (hq : mt[q]? = some (.inr (true, n))) (hi : vp_in i n) (hv : gq_bit v) (d : decode cc pc = .ok (.bastore, 1)) (kk : gq_W p l e R s m args below meth c D A cI cZ ad mt nL Q (pc + 1) L st (gq_up M q i.toNatClampNeg v) kc ks) : gq_W p l e R s m args below meth c D A cI cZ ad mt nL Q pc L (.int v :: .int i :: .ref (ad q) :: st) M kc ks := by
  intro H locs ls hP hS hl
  refine va_zast hC.1 hC.2.1 hC.2.2.2.2.2.1 hP (gq_D hC.2.2.2.2.2.2.2.2) hS q 1 (gq_ws_get hq) rfl hi d (fun H1 locs1 hP1 _ hS1 => ?_)
  rw [(gq_bitN hv).2.2] at hP1
  exact kk H1 locs1 ls ((gq_ws_set (cI := cI) (cZ := cZ) (ad := ad) (M := M) (j := i.toNatClampNeg) (v := v) hq rfl) ▸ hP1) hS1 hl
theorem g_alen (hC : gq_C p s m args meth c D A cI cZ ad mt own cc nL) {q n : Nat} {z : Bool} (hq : mt[q]? = some (.inr (z, n))) (d : decode cc pc = .ok (.arraylength, 1)) (kk : gq_W p l e R s m args below meth c D A cI cZ ad mt nL Q (pc + 1) L (.int (nI n) :: st) M kc ks) : gq_W p l e R s m args below meth c D A cI cZ ad mt nL Q pc L (.ref (ad q) :: st) M kc ks := by
  intro H locs ls hP hS hl
  cases z with
  | false => exact va_alen hC.1 hC.2.1 hC.2.2.2.2.2.1 hP q 0 (gq_ws_get hq) rfl rfl d (kk H locs ls hP hS hl)
  | true => exact va_alen hC.1 hC.2.1 hC.2.2.2.2.2.1 hP q 1 (gq_ws_get hq) rfl rfl d (kk H locs ls hP hS hl)
end GQ
end
section
/-! contracts over the system's cells; calls -/
theorem gq_goodC {w : Cond} (h : w ∈ gT) : GoodIn gT (w :: gT) := fun x hx => by
  rcases List.mem_cons.mp hx with rfl | hx
  · exact gT_self _ h
  · exact gT_self _ hx
def gq_A (ad : Nat → Nat) (n sz : Nat) : Nat → Prop := fun q => (∃ k, k < n ∧ q = ad k) ∨ sz ≤ q
def gq_B (D : va_G) (cI cZ : ClassId) (ad : Nat → Nat) (mt : List gq_T) (M : gq_M) (U : State) : Prop := va_P D vwCl (gq_ws cI cZ ad M 0 mt) U.heap ∧ gq_K D cI cZ U
def gq_Pc (D : va_G) (cI cZ : ClassId) (ad : Nat → Nat) (mt : List gq_T) (as : List Value) (M : gq_M) (sz : Nat) : Array Value → State → Prop := va_Pc as (fun U => U.heap.size = sz ∧ gq_B D cI cZ ad mt M U)
theorem gq_blind {D : va_G} {cI cZ : ClassId} {ad : Nat → Nat} {mt : List gq_T} {as : List Value} {M : gq_M} {sz : Nat} : FrameBlind (gq_Pc D cI cZ ad mt as M sz) := fun a U g mk q => ⟨q.1, q.2.1, q.2.2.1, va_K.moved (u := U) (U := U.calling g mk a) (Vm.Alike.refl U.vm) q.2.2.2⟩
def gq_inj (ad : Nat → Nat) (n : Nat) : Prop := ∀ i j : Nat, i < n → j < n → ad i = ad j → i = j
def gq_rm (d : Nat) : Room := { frames := d, cells := 0, slots := 0, locals := 37 * d }
def gq_Qi (D : va_G) (cI cZ : ClassId) (ad : Nat → Nat) (mt : List gq_T) (v : Int32) (M' : gq_M) (A : Nat → Prop) : Array Value → State → Outcome → State → Prop := va_Qi (fun r (_ : Unit) => r = v) (fun _ t => gq_B D cI cZ ad mt M' t) A
def gq_Qv (D : va_G) (cI cZ : ClassId) (ad : Nat → Nat) (mt : List gq_T) (M' : gq_M) (A : Nat → Prop) : Array Value → State → Outcome → State → Prop := va_Qv (fun (_ : Unit) => True) (fun _ t => gq_B D cI cZ ad mt M' t) A
/-- a method that answers v and leaves M' -/
def gq_Ci (l : Launch) (D : va_G) (cI cZ : ClassId) (ad : Nat → Nat) (mt : List gq_T) (y : MethodName) (cc : ByteArray) (nL : Nat) (ret : Option FieldType) (d : Nat) (as : List Value) (M : gq_M) (v : Int32) (M' : gq_M) : Prop :=
  gq_inj ad mt.length → ∀ sz, Met l y (.code y cc nL ret :: gT) (gq_rm d) (gq_Pc D cI cZ ad mt as M sz) (gq_Qi D cI cZ ad mt v M' (gq_A ad mt.length sz)) 0 0 (gq_A ad mt.length sz)
def gq_Cv (l : Launch) (D : va_G) (cI cZ : ClassId) (ad : Nat → Nat) (mt : List gq_T) (y : MethodName) (cc : ByteArray) (nL : Nat) (d : Nat) (as : List Value) (M M' : gq_M) : Prop :=
  gq_inj ad mt.length → ∀ sz, Met l y (.code y cc nL none :: gT) (gq_rm d) (gq_Pc D cI cZ ad mt as M sz) (gq_Qv D cI cZ ad mt M' (gq_A ad mt.length sz)) 0 0 (gq_A ad mt.length sz)
/-- a method's words: a virtual one, a static one -/
def gq_MV (y : MethodName) (cc : ByteArray) (nL : Nat) (ret : Option FieldType) (n : Nat) : Prop := Cond.code y cc nL ret ∈ gT ∧ Cond.initialized y.cls ∈ gT ∧ Cond.instanceMethod y ∈ gT ∧ Cond.selects y.cls y y ∈ gT ∧ (y.cls ≠ "java/lang/invoke/MethodHandle" ∧ y.cls ≠ "java/lang/invoke/VarHandle" ∧ (parseMethodDescriptor y.desc).map (fun d => d.parameters.length) = some n)
def gq_MS (y : MethodName) (cc : ByteArray) (nL : Nat) (ret : Option FieldType) (n : Nat) : Prop := Cond.code y cc nL ret ∈ gT ∧ Cond.initialized y.cls ∈ gT ∧ Cond.static y ∈ gT ∧ (y.cls ≠ "java/lang/invoke/MethodHandle" ∧ y.cls ≠ "java/lang/invoke/VarHandle" ∧ (parseMethodDescriptor y.desc).map (fun d => d.parameters.length) = some n)
/-- the cell is an object of that class -/
def gq_ob (mt : List gq_T) (q : Nat) (C : String) : Prop := ∃ (ci : Nat) (fd : List (Option Nat)) (r : vw_C), mt[q]? = some (.inl (ci, fd)) ∧ vwCl[ci]? = some r ∧ r.1 = C
section GQC
variable {p : Program} {l : Launch} {e : Env} {R : Room} {s : State} {m : MethodId} {args : Array Value} {below : List Frame} {meth : Method} {c : Code} {Q : State → Prop}
variable {D : va_G} {A : Nat → Prop} {cI cZ : ClassId} {ad : Nat → Nat} {mt : List gq_T} {own : String} {cc : ByteArray} {nL : Nat}
variable {pc : Nat} {L : List (Nat × Value)} {st : List Value} {M : gq_M} {kc ks : Nat}
theorem gq_Ale {sz : Nat} (hC : gq_C p s m args meth c D A cI cZ ad mt own cc nL) (hz : s.heap.size ≤ sz) : ∀ q, gq_A ad mt.length sz q → A q := by
  intro q h
  rcases h with ⟨k, hk, rfl⟩ | h
  · exact hC.2.2.2.2.2.2.2.2.2 k hk
  · exact hC.2.2.2.2.2.2.2.1 q (Nat.le_trans hz h)
theorem gq_context {y : MethodName} {as : List Value} {ret : Option FieldType} {rm : Room} {s₁ : State} (hinj : gq_inj ad mt.length) (B : BodyLoose p l y (headSpec (.code y cc nL ret :: gT) rm) cc nL ret e s m as.toArray below meth c s₁) (hml : c.maxLocals = nL) (hK : gq_K D cI cZ s) (hown : y.cls = own) :
    gq_C p s m as.toArray meth c D (gq_A ad mt.length s.heap.size) cI cZ ad mt own cc nL := by
  subst hown
  have hts := atoms_spec (ws := .code y cc nL ret :: gT) B.pre
  exact ⟨B.exec, B.bytes, hml, findClass_of_methodNamed B.named, fun w h => hts w (List.mem_cons_of_mem _ h), hK, B.notSynchronized, fun q h => Or.inr h, hinj, fun k h => Or.inl ⟨k, h, rfl⟩⟩
theorem gq_introI {y : MethodName} {ret : Option FieldType} {dm : Nat} {as : List Value} {v : Int32} {M' : gq_M} (hy : plainName y.cls = true) (hown : y.cls = own) (hle : (lg_sl as).length ≤ nL)
    (body : ∀ (p : Program) (e : Env) (s : State) (m : MethodId) (below : List Frame) (meth : Method) (c : Code), gq_C p s m as.toArray meth c D (gq_A ad mt.length s.heap.size) cI cZ ad mt own cc nL → meth.sig.returnType = ret →
      gq_W p l e (gq_rm dm) s m as.toArray below meth c D (gq_A ad mt.length s.heap.size) cI cZ ad mt nL (MQ below (gq_Qi D cI cZ ad mt v M' (gq_A ad mt.length s.heap.size)) as.toArray s 0 0 (gq_A ad mt.length s.heap.size)) 0 (lv_args 0 as) [] M 0 0) : gq_Ci l D cI cZ ad mt y cc nL ret dm as M v M' := by
  intro hinj sz
  refine Met.ofW (cc := cc) (maxL := nL) (ret := ret) hy rfl ?_
  intro p e s m args below meth c s₁ B hml hv
  obtain ⟨rfl, hsz, hP, hK⟩ := hv
  subst hsz
  have h0 := body p e s m below meth c (gq_context hinj B hml hK hown) B.returns s.heap [] _ hP va_S.rf (lv_entry as hle)
  rw [lg_entry_eq]
  exact h0
theorem gq_introV {y : MethodName} {dm : Nat} {as : List Value} {M' : gq_M} (hy : plainName y.cls = true) (hown : y.cls = own) (hle : (lg_sl as).length ≤ nL)
    (body : ∀ (p : Program) (e : Env) (s : State) (m : MethodId) (below : List Frame) (meth : Method) (c : Code), gq_C p s m as.toArray meth c D (gq_A ad mt.length s.heap.size) cI cZ ad mt own cc nL → meth.sig.returnType = none →
      gq_W p l e (gq_rm dm) s m as.toArray below meth c D (gq_A ad mt.length s.heap.size) cI cZ ad mt nL (MQ below (gq_Qv D cI cZ ad mt M' (gq_A ad mt.length s.heap.size)) as.toArray s 0 0 (gq_A ad mt.length s.heap.size)) 0 (lv_args 0 as) [] M 0 0) : gq_Cv l D cI cZ ad mt y cc nL dm as M M' := by
  intro hinj sz
  refine Met.ofW (cc := cc) (maxL := nL) (ret := none) hy rfl ?_
  intro p e s m args below meth c s₁ B hml hv
  obtain ⟨rfl, hsz, hP, hK⟩ := hv
  subst hsz
  have h0 := body p e s m below meth c (gq_context hinj B hml hK hown) B.returns s.heap [] _ hP va_S.rf (lv_entry as hle)
  rw [lg_entry_eq]
  exact h0
theorem g_iret (hC : gq_C p s m args meth c D A cI cZ ad mt own cc nL) {v : Int32} (hr : meth.sig.returnType = some .int) (d : decode cc pc = .ok (.ireturn, 1)) : gq_W p l e R s m args below meth c D A cI cZ ad mt nL (MQ below (gq_Qi D cI cZ ad mt v M A) args s kc ks A) pc L [.int v] M kc ks := fun H locs ls hP hS hl =>
  W.iret hC.1 hC.2.1 hr (fun t ht hW => ⟨⟨v, (), rfl, rfl, by show va_P _ _ _ t.heap; rw [ht]; exact hP, va_K.moved hW.alike hC.2.2.2.2.2.1⟩, hS.F ht⟩) hS.2.2 d hC.2.2.2.2.2.2.1
theorem g_zret (hC : gq_C p s m args meth c D A cI cZ ad mt own cc nL) {v : Int32} (hv : gq_bit v) (hr : meth.sig.returnType = some .boolean) (d : decode cc pc = .ok (.ireturn, 1)) : gq_W p l e R s m args below meth c D A cI cZ ad mt nL (MQ below (gq_Qi D cI cZ ad mt v M A) args s kc ks A) pc L [.int v] M kc ks := fun H locs ls hP hS hl =>
  W.zret hC.1 hC.2.1 hr (gq_bitN hv).1 (fun t ht hW => ⟨⟨v, (), rfl, rfl, by show va_P _ _ _ t.heap; rw [ht]; exact hP, va_K.moved hW.alike hC.2.2.2.2.2.1⟩, hS.F ht⟩) hS.2.2 d hC.2.2.2.2.2.2.1
theorem g_vret (hC : gq_C p s m args meth c D A cI cZ ad mt own cc nL) (hr : meth.sig.returnType = none) (d : decode cc pc = .ok (.return_, 1)) : gq_W p l e R s m args below meth c D A cI cZ ad mt nL (MQ below (gq_Qv D cI cZ ad mt M A) args s kc ks A) pc L [] M kc ks := fun H locs ls hP hS hl =>
  W.vret hC.1 hC.2.1 hr (fun t ht hW => ⟨⟨(), rfl, trivial, by show va_P _ _ _ t.heap; rw [ht]; exact hP, va_K.moved hW.alike hC.2.2.2.2.2.1⟩, hS.F ht⟩) hS.2.2 d hC.2.2.2.2.2.2.1
variable {y : MethodName} {bytes : ByteArray} {maxL : Nat} {ret : Option FieldType} {dm : Nat} {index q n : Nat} {as stk : List Value} {v : Int32} {M' : gq_M}
theorem gq_call (hC : gq_C p s m args meth c D A cI cZ ad mt own cc nL) (hw1 : Cond.code y bytes maxL ret ∈ gT) (hw2 : Cond.initialized y.cls ∈ gT) (hl : Cond.methodLink own index y ∈ gT) (hd : y.cls ≠ "java/lang/invoke/MethodHandle" ∧ y.cls ≠ "java/lang/invoke/VarHandle" ∧ (parseMethodDescriptor y.desc).map (fun d => d.parameters.length) = some n) (hR : dm + 1 ≤ R.frames ∧ 8 + (maxL + 11) + 37 * dm ≤ R.locals) :
    CallB R s args own index y bytes maxL ret (.code y bytes maxL ret :: gT) (gq_rm dm) 0 0 n :=
  callB_of n hC.2.2.2.2.1 (gq_goodC hw1) rfl rfl rfl (hC.2.2.2.2.1 _ hw2) (hC.2.2.2.2.1 _ hl) hd hR

theorem g_Vi (hC : gq_C p s m args meth c D A cI cZ ad mt own cc nL) (hc : gq_Ci l D cI cZ ad mt y bytes maxL ret dm (.ref (ad q) :: as) M v M') (hm : gq_MV y bytes maxL ret n) (hl2 : Cond.methodLink own index y ∈ gT) (hq : gq_ob mt q y.cls) (hn : as.length = n) (hst : stk = as.reverse ++ .ref (ad q) :: st) (hW : (st.map fun v => v.category).sum ≤ 8) (hR : dm + 1 ≤ R.frames ∧ 8 + (maxL + 11) + 37 * dm ≤ R.locals) (hk : kc ≤ R.cells ∧ ks ≤ R.slots) (d : decode cc pc = .ok (.invokevirtual index, 3)) (kk : gq_W p l e R s m args below meth c D A cI cZ ad mt nL Q (pc + 3) L (.int v :: st) M' kc ks) : gq_W p l e R s m args below meth c D A cI cZ ad mt nL Q pc L stk M kc ks := by
  intro H locs ls hP hS hl
  subst hst
  obtain ⟨ci, fd, r, g1, g2, g3⟩ := hq
  have hrec := va_recv hC.2.2.2.2.2.1 hP g2 (gq_ws_get g1)
  rw [g3] at hrec
  refine va_calli (va_runV (As := as) (rest := st) ⟨hC.1, hC.2.1, hC.2.2.1, hC.2.2.2.1, hC.2.2.2.2.1⟩ (hc hC.2.2.2.2.2.2.2.2.1 H.size) ⟨gq_call hC hm.1 hm.2.1 hl2 hm.2.2.2.2 hR, hC.2.2.2.2.1 _ hm.2.2.1, hC.2.2.2.2.1 _ hm.2.2.2.1⟩ ⟨gq_blind, hrec, fun U hU hW => ⟨rfl, by rw [hU], by rw [hU]; exact hP, va_K.moved hW.alike hC.2.2.2.2.2.1⟩⟩ rfl hn hl.1 rfl (lv_room (pc := pc) (ls := ls) (rest := st) (m := m) hW) d ⟨by omega, by omega⟩) hS (fun q _ h => gq_Ale hC hS.1 q h) (gq_Ale hC hS.1) (fun r u t H1 locs1 ht hvm hw hB hz hk hS1 => ?_)
  subst hw; exact kk H1 locs1 ls (by rw [← ht]; exact hB.1) hS1 hl
theorem g_Si (hC : gq_C p s m args meth c D A cI cZ ad mt own cc nL) (hc : gq_Ci l D cI cZ ad mt y bytes maxL ret dm as M v M') (hm : gq_MS y bytes maxL ret n) (hl2 : Cond.methodLink own index y ∈ gT) (hn : as.length = n) (hst : stk = as.reverse ++ st) (hW : (st.map fun v => v.category).sum ≤ 8) (hR : dm + 1 ≤ R.frames ∧ 8 + (maxL + 11) + 37 * dm ≤ R.locals) (hk : kc ≤ R.cells ∧ ks ≤ R.slots) (d : decode cc pc = .ok (.invokestatic index, 3)) (kk : gq_W p l e R s m args below meth c D A cI cZ ad mt nL Q (pc + 3) L (.int v :: st) M' kc ks) : gq_W p l e R s m args below meth c D A cI cZ ad mt nL Q pc L stk M kc ks := by
  intro H locs ls hP hS hl
  subst hst
  refine va_calli (va_runS (As := as) (rest := st) ⟨hC.1, hC.2.1, hC.2.2.1, hC.2.2.2.1, hC.2.2.2.2.1⟩ (hc hC.2.2.2.2.2.2.2.2.1 H.size) ⟨gq_call hC hm.1 hm.2.1 hl2 hm.2.2.2 hR, hC.2.2.2.2.1 _ hm.2.2.1⟩ ⟨gq_blind, fun U hU hW => ⟨rfl, by rw [hU], by rw [hU]; exact hP, va_K.moved hW.alike hC.2.2.2.2.2.1⟩⟩ rfl hn hl.1 rfl (lv_room (pc := pc) (ls := ls) (rest := st) (m := m) hW) d ⟨by omega, by omega⟩) hS (fun q _ h => gq_Ale hC hS.1 q h) (gq_Ale hC hS.1) (fun r u t H1 locs1 ht hvm hw hB hz hk hS1 => ?_)
  subst hw; exact kk H1 locs1 ls (by rw [← ht]; exact hB.1) hS1 hl
theorem g_Vv (hC : gq_C p s m args meth c D A cI cZ ad mt own cc nL) (hc : gq_Cv l D cI cZ ad mt y bytes maxL dm (.ref (ad q) :: as) M M') (hm : gq_MV y bytes maxL none n) (hl2 : Cond.methodLink own index y ∈ gT) (hq : gq_ob mt q y.cls) (hn : as.length = n) (hst : stk = as.reverse ++ .ref (ad q) :: st) (hW : (st.map fun v => v.category).sum ≤ 8) (hR : dm + 1 ≤ R.frames ∧ 8 + (maxL + 11) + 37 * dm ≤ R.locals) (hk : kc ≤ R.cells ∧ ks ≤ R.slots) (d : decode cc pc = .ok (.invokevirtual index, 3)) (kk : gq_W p l e R s m args below meth c D A cI cZ ad mt nL Q (pc + 3) L st M' kc ks) : gq_W p l e R s m args below meth c D A cI cZ ad mt nL Q pc L stk M kc ks := by
  intro H locs ls hP hS hl
  subst hst
  obtain ⟨ci, fd, r, g1, g2, g3⟩ := hq
  have hrec := va_recv hC.2.2.2.2.2.1 hP g2 (gq_ws_get g1)
  rw [g3] at hrec
  refine va_callv (va_runV (As := as) (rest := st) ⟨hC.1, hC.2.1, hC.2.2.1, hC.2.2.2.1, hC.2.2.2.2.1⟩ (hc hC.2.2.2.2.2.2.2.2.1 H.size) ⟨gq_call hC hm.1 hm.2.1 hl2 hm.2.2.2.2 hR, hC.2.2.2.2.1 _ hm.2.2.1, hC.2.2.2.2.1 _ hm.2.2.2.1⟩ ⟨gq_blind, hrec, fun U hU hW => ⟨rfl, by rw [hU], by rw [hU]; exact hP, va_K.moved hW.alike hC.2.2.2.2.2.1⟩⟩ rfl hn hl.1 rfl (lv_room (pc := pc) (ls := ls) (rest := st) (m := m) hW) d ⟨by omega, by omega⟩) hS (fun q _ h => gq_Ale hC hS.1 q h) (gq_Ale hC hS.1) (fun u t H1 locs1 ht hvm hw hB hz hk hS1 => ?_)
  exact kk H1 locs1 ls (by rw [← ht]; exact hB.1) hS1 hl
theorem g_Sv (hC : gq_C p s m args meth c D A cI cZ ad mt own cc nL) (hc : gq_Cv l D cI cZ ad mt y bytes maxL dm as M M') (hm : gq_MS y bytes maxL none n) (hl2 : Cond.methodLink own index y ∈ gT) (hn : as.length = n) (hst : stk = as.reverse ++ st) (hW : (st.map fun v => v.category).sum ≤ 8) (hR : dm + 1 ≤ R.frames ∧ 8 + (maxL + 11) + 37 * dm ≤ R.locals) (hk : kc ≤ R.cells ∧ ks ≤ R.slots) (d : decode cc pc = .ok (.invokestatic index, 3)) (kk : gq_W p l e R s m args below meth c D A cI cZ ad mt nL Q (pc + 3) L st M' kc ks) : gq_W p l e R s m args below meth c D A cI cZ ad mt nL Q pc L stk M kc ks := by
  intro H locs ls hP hS hl
  subst hst
  refine va_callv (va_runS (As := as) (rest := st) ⟨hC.1, hC.2.1, hC.2.2.1, hC.2.2.2.1, hC.2.2.2.2.1⟩ (hc hC.2.2.2.2.2.2.2.2.1 H.size) ⟨gq_call hC hm.1 hm.2.1 hl2 hm.2.2.2 hR, hC.2.2.2.2.1 _ hm.2.2.1⟩ ⟨gq_blind, fun U hU hW => ⟨rfl, by rw [hU], by rw [hU]; exact hP, va_K.moved hW.alike hC.2.2.2.2.2.1⟩⟩ rfl hn hl.1 rfl (lv_room (pc := pc) (ls := ls) (rest := st) (m := m) hW) d ⟨by omega, by omega⟩) hS (fun q _ h => gq_Ale hC hS.1 q h) (gq_Ale hC hS.1) (fun u t H1 locs1 ht hvm hw hB hz hk hS1 => ?_)
  exact kk H1 locs1 ls (by rw [← ht]; exact hB.1) hS1 hl
theorem g_mmax (hC : gq_C p s m args meth c D A cI cZ ad mt own cc nL) {x y : Int32} (hw1 : Cond.methodLink own index Lib.Math.max.name ∈ gT) (hw2 : Cond.static Lib.Math.max.name ∈ gT) (hw3 : Cond.initialized "java/lang/Math" ∈ gT) (hw4 : Cond.code Lib.Math.max.name Lib.Math.max.code 2 (some .int) ∈ gT) (hR : 1 ≤ R.frames ∧ (st.map fun v => v.category).sum + 13 ≤ R.locals) (hk : kc ≤ R.cells ∧ ks ≤ R.slots) (d : decode cc pc = .ok (.invokestatic index, 3)) (kk : gq_W p l e R s m args below meth c D A cI cZ ad mt nL Q (pc + 3) L (.int (if x < y then y else x) :: st) M kc ks) : gq_W p l e R s m args below meth c D A cI cZ ad mt nL Q pc L (.int y :: .int x :: st) M kc ks := fun H locs ls hP hS hl =>
  va_mmax hC.1 hC.2.1 (hC.2.2.1.trans hl.1.symm) hC.2.2.2.1 (hC.2.2.2.2.1 _ hw1) (hC.2.2.2.2.1 _ hw2) (hC.2.2.2.2.1 _ hw3) (hC.2.2.2.2.1 _ hw4) hR.1 hR.2 hk.1 hk.2 d (kk H locs ls hP hS hl)
theorem g_mmin (hC : gq_C p s m args meth c D A cI cZ ad mt own cc nL) {x y : Int32} (hw1 : Cond.methodLink own index Lib.Math.min.name ∈ gT) (hw2 : Cond.static Lib.Math.min.name ∈ gT) (hw3 : Cond.initialized "java/lang/Math" ∈ gT) (hw4 : Cond.code Lib.Math.min.name Lib.Math.min.code 2 (some .int) ∈ gT) (hR : 1 ≤ R.frames ∧ (st.map fun v => v.category).sum + 13 ≤ R.locals) (hk : kc ≤ R.cells ∧ ks ≤ R.slots) (d : decode cc pc = .ok (.invokestatic index, 3)) (kk : gq_W p l e R s m args below meth c D A cI cZ ad mt nL Q (pc + 3) L (.int (if y < x then y else x) :: st) M kc ks) : gq_W p l e R s m args below meth c D A cI cZ ad mt nL Q pc L (.int y :: .int x :: st) M kc ks := fun H locs ls hP hS hl =>
  va_mmin hC.1 hC.2.1 (hC.2.2.1.trans hl.1.symm) hC.2.2.2.1 (hC.2.2.2.2.1 _ hw1) (hC.2.2.2.2.1 _ hw2) (hC.2.2.2.2.1 _ hw3) (hC.2.2.2.2.1 _ hw4) hR.1 hR.2 hk.1 hk.2 d (kk H locs ls hP hS hl)
theorem g_mmaxl (hC : gq_C p s m args meth c D A cI cZ ad mt own cc nL) {x y : Int64} (hw1 : Cond.methodLink own index Lib.MathLoose.max_long.x ∈ gT) (hw2 : Cond.static Lib.MathLoose.max_long.x ∈ gT) (hw3 : Cond.initialized "java/lang/Math" ∈ gT) (hw4 : Cond.code Lib.MathLoose.max_long.x Lib.MathLoose.max_long.code 4 (some .long) ∈ gT) (hR : 1 ≤ R.frames ∧ (st.map fun v => v.category).sum + 15 ≤ R.locals) (hk : kc ≤ R.cells ∧ ks ≤ R.slots) (d : decode cc pc = .ok (.invokestatic index, 3)) (kk : gq_W p l e R s m args below meth c D A cI cZ ad mt nL Q (pc + 3) L (.long (if y < x then x else y) :: st) M kc ks) : gq_W p l e R s m args below meth c D A cI cZ ad mt nL Q pc L (.long y :: .long x :: st) M kc ks := fun H locs ls hP hS hl =>
  va_mmax_long hC.1 hC.2.1 (hC.2.2.1.trans hl.1.symm) hC.2.2.2.1 (hC.2.2.2.2.1 _ hw1) (hC.2.2.2.2.1 _ hw2) (hC.2.2.2.2.1 _ hw3) (hC.2.2.2.2.1 _ hw4) hR.1 hR.2 hk.1 hk.2 d (kk H locs ls hP hS hl)
end GQC
end
