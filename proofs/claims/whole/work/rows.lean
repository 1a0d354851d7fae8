section
-- ===== PART A: goes FIRST, ahead of the names: the tables' words, and 'selects' of the private methods out of them =====
/-- a private method of a class that the tables say can be made, by its rows of tables_1 -/
def lw_okq (q : MethodName × Nat) : Prop := (q.1.cls ≠ "java/lang/invoke/MethodHandle" ∧ q.1.cls ≠ "java/lang/invoke/VarHandle") ∧ Cond.instantiable q.1.cls q.2 ∈ tables_1 ∧ Cond.privateMethod q.1 ∈ tables_1 ∧ Cond.instanceMethod q.1 ∈ tables_1
theorem lw_p0 : lw_okq (⟨"java/lang/Throwable", "fillInStackTrace", "(I)Ljava/lang/Throwable;"⟩, 6) := ⟨⟨by decide +kernel, by decide +kernel⟩, List.mem_of_getElem? (i := 423) (by decide +kernel), List.mem_of_getElem? (i := 421) (by decide +kernel), List.mem_of_getElem? (i := 422) (by decide +kernel)⟩
theorem lw_p1 : lw_okq (⟨"Fishclock", "countWaitingBoxes", "()V"⟩, 12) := ⟨⟨by decide +kernel, by decide +kernel⟩, List.mem_of_getElem? (i := 20) (by decide +kernel), List.mem_of_getElem? (i := 598) (by decide +kernel), List.mem_of_getElem? (i := 599) (by decide +kernel)⟩
theorem lw_p2 : lw_okq (⟨"Fishclock", "offerBoats", "(Z)V"⟩, 12) := ⟨⟨by decide +kernel, by decide +kernel⟩, List.mem_of_getElem? (i := 20) (by decide +kernel), List.mem_of_getElem? (i := 605) (by decide +kernel), List.mem_of_getElem? (i := 606) (by decide +kernel)⟩
theorem lw_p3 : lw_okq (⟨"Fishclock", "offerBoat", "(I)V"⟩, 12) := ⟨⟨by decide +kernel, by decide +kernel⟩, List.mem_of_getElem? (i := 20) (by decide +kernel), List.mem_of_getElem? (i := 622) (by decide +kernel), List.mem_of_getElem? (i := 623) (by decide +kernel)⟩
theorem lw_p4 : lw_okq (⟨"Fishclock", "bringToClock", "(II)V"⟩, 12) := ⟨⟨by decide +kernel, by decide +kernel⟩, List.mem_of_getElem? (i := 20) (by decide +kernel), List.mem_of_getElem? (i := 657) (by decide +kernel), List.mem_of_getElem? (i := 658) (by decide +kernel)⟩
theorem lw_p5 : lw_okq (⟨"Fishclock", "beginRound", "(I)V"⟩, 12) := ⟨⟨by decide +kernel, by decide +kernel⟩, List.mem_of_getElem? (i := 20) (by decide +kernel), List.mem_of_getElem? (i := 661) (by decide +kernel), List.mem_of_getElem? (i := 662) (by decide +kernel)⟩
theorem lw_p6 : lw_okq (⟨"Fishclock", "withdrawRest", "(I)I"⟩, 12) := ⟨⟨by decide +kernel, by decide +kernel⟩, List.mem_of_getElem? (i := 20) (by decide +kernel), List.mem_of_getElem? (i := 680) (by decide +kernel), List.mem_of_getElem? (i := 681) (by decide +kernel)⟩
theorem lw_p7 : lw_okq (⟨"Fishclock", "withdraw", "(I)V"⟩, 12) := ⟨⟨by decide +kernel, by decide +kernel⟩, List.mem_of_getElem? (i := 20) (by decide +kernel), List.mem_of_getElem? (i := 692) (by decide +kernel), List.mem_of_getElem? (i := 693) (by decide +kernel)⟩
theorem lw_p8 : lw_okq (⟨"Fishclock", "costOfFirst", "(II)I"⟩, 12) := ⟨⟨by decide +kernel, by decide +kernel⟩, List.mem_of_getElem? (i := 20) (by decide +kernel), List.mem_of_getElem? (i := 735) (by decide +kernel), List.mem_of_getElem? (i := 736) (by decide +kernel)⟩
theorem lw_p9 : lw_okq (⟨"Fishclock", "sellFirst", "(II)V"⟩, 12) := ⟨⟨by decide +kernel, by decide +kernel⟩, List.mem_of_getElem? (i := 20) (by decide +kernel), List.mem_of_getElem? (i := 744) (by decide +kernel), List.mem_of_getElem? (i := 745) (by decide +kernel)⟩
theorem lw_p10 : lw_okq (⟨"Fishclock", "goOn", "(I)V"⟩, 12) := ⟨⟨by decide +kernel, by decide +kernel⟩, List.mem_of_getElem? (i := 20) (by decide +kernel), List.mem_of_getElem? (i := 752) (by decide +kernel), List.mem_of_getElem? (i := 753) (by decide +kernel)⟩
theorem lw_p11 : lw_okq (⟨"Fishclock", "tickHalls", "()V"⟩, 12) := ⟨⟨by decide +kernel, by decide +kernel⟩, List.mem_of_getElem? (i := 20) (by decide +kernel), List.mem_of_getElem? (i := 763) (by decide +kernel), List.mem_of_getElem? (i := 764) (by decide +kernel)⟩
theorem lw_p12 : lw_okq (⟨"Fishclock", "tickFalling", "(I)V"⟩, 12) := ⟨⟨by decide +kernel, by decide +kernel⟩, List.mem_of_getElem? (i := 20) (by decide +kernel), List.mem_of_getElem? (i := 767) (by decide +kernel), List.mem_of_getElem? (i := 768) (by decide +kernel)⟩
theorem lw_p13 : lw_okq (⟨"Fishclock", "tickStanding", "(I)V"⟩, 12) := ⟨⟨by decide +kernel, by decide +kernel⟩, List.mem_of_getElem? (i := 20) (by decide +kernel), List.mem_of_getElem? (i := 796) (by decide +kernel), List.mem_of_getElem? (i := 797) (by decide +kernel)⟩
theorem lw_p14 : lw_okq (⟨"Fishclock", "findWinner", "(I)I"⟩, 12) := ⟨⟨by decide +kernel, by decide +kernel⟩, List.mem_of_getElem? (i := 20) (by decide +kernel), List.mem_of_getElem? (i := 800) (by decide +kernel), List.mem_of_getElem? (i := 801) (by decide +kernel)⟩
theorem lw_p15 : lw_okq (⟨"Fishclock", "tickTaking", "(I)V"⟩, 12) := ⟨⟨by decide +kernel, by decide +kernel⟩, List.mem_of_getElem? (i := 20) (by decide +kernel), List.mem_of_getElem? (i := 814) (by decide +kernel), List.mem_of_getElem? (i := 815) (by decide +kernel)⟩
def lw_privs_1 : List (MethodName × Nat) := [(⟨"java/lang/Throwable", "fillInStackTrace", "(I)Ljava/lang/Throwable;"⟩, 6), (⟨"Fishclock", "countWaitingBoxes", "()V"⟩, 12), (⟨"Fishclock", "offerBoats", "(Z)V"⟩, 12), (⟨"Fishclock", "offerBoat", "(I)V"⟩, 12), (⟨"Fishclock", "bringToClock", "(II)V"⟩, 12), (⟨"Fishclock", "beginRound", "(I)V"⟩, 12), (⟨"Fishclock", "withdrawRest", "(I)I"⟩, 12), (⟨"Fishclock", "withdraw", "(I)V"⟩, 12), (⟨"Fishclock", "costOfFirst", "(II)I"⟩, 12), (⟨"Fishclock", "sellFirst", "(II)V"⟩, 12), (⟨"Fishclock", "goOn", "(I)V"⟩, 12), (⟨"Fishclock", "tickHalls", "()V"⟩, 12), (⟨"Fishclock", "tickFalling", "(I)V"⟩, 12), (⟨"Fishclock", "tickStanding", "(I)V"⟩, 12), (⟨"Fishclock", "findWinner", "(I)I"⟩, 12), (⟨"Fishclock", "tickTaking", "(I)V"⟩, 12)]
theorem lw_r1 : ∀ q ∈ lw_privs_1, lw_okq q := List.forall_mem_cons.mpr ⟨lw_p0, List.forall_mem_cons.mpr ⟨lw_p1, List.forall_mem_cons.mpr ⟨lw_p2, List.forall_mem_cons.mpr ⟨lw_p3, List.forall_mem_cons.mpr ⟨lw_p4, List.forall_mem_cons.mpr ⟨lw_p5, List.forall_mem_cons.mpr ⟨lw_p6, List.forall_mem_cons.mpr ⟨lw_p7, List.forall_mem_cons.mpr ⟨lw_p8, List.forall_mem_cons.mpr ⟨lw_p9, List.forall_mem_cons.mpr ⟨lw_p10, List.forall_mem_cons.mpr ⟨lw_p11, List.forall_mem_cons.mpr ⟨lw_p12, List.forall_mem_cons.mpr ⟨lw_p13, List.forall_mem_cons.mpr ⟨lw_p14, List.forall_mem_cons.mpr ⟨lw_p15, fun _ h => absurd h List.not_mem_nil⟩⟩⟩⟩⟩⟩⟩⟩⟩⟩⟩⟩⟩⟩⟩⟩
theorem lw_p16 : lw_okq (⟨"Fishclock", "sendLorries", "()V"⟩, 12) := ⟨⟨by decide +kernel, by decide +kernel⟩, List.mem_of_getElem? (i := 20) (by decide +kernel), List.mem_of_getElem? (i := 818) (by decide +kernel), List.mem_of_getElem? (i := 819) (by decide +kernel)⟩
theorem lw_p17 : lw_okq (⟨"Fishclock", "fetch", "(I)V"⟩, 12) := ⟨⟨by decide +kernel, by decide +kernel⟩, List.mem_of_getElem? (i := 20) (by decide +kernel), List.mem_of_getElem? (i := 822) (by decide +kernel), List.mem_of_getElem? (i := 823) (by decide +kernel)⟩
theorem lw_p18 : lw_okq (⟨"FishclockModel", "begins", "(I)V"⟩, 55) := ⟨⟨by decide +kernel, by decide +kernel⟩, List.mem_of_getElem? (i := 938) (by decide +kernel), List.mem_of_getElem? (i := 944) (by decide +kernel), List.mem_of_getElem? (i := 945) (by decide +kernel)⟩
theorem lw_p19 : lw_okq (⟨"FishclockModel", "fails", "(I)Z"⟩, 55) := ⟨⟨by decide +kernel, by decide +kernel⟩, List.mem_of_getElem? (i := 938) (by decide +kernel), List.mem_of_getElem? (i := 1133) (by decide +kernel), List.mem_of_getElem? (i := 1134) (by decide +kernel)⟩
theorem lw_p20 : lw_okq (⟨"FishclockModel", "ready", "(Z)I"⟩, 55) := ⟨⟨by decide +kernel, by decide +kernel⟩, List.mem_of_getElem? (i := 938) (by decide +kernel), List.mem_of_getElem? (i := 1177) (by decide +kernel), List.mem_of_getElem? (i := 1178) (by decide +kernel)⟩
theorem lw_p21 : lw_okq (⟨"FishclockModel", "isToSell", "(I)Z"⟩, 55) := ⟨⟨by decide +kernel, by decide +kernel⟩, List.mem_of_getElem? (i := 938) (by decide +kernel), List.mem_of_getElem? (i := 1181) (by decide +kernel), List.mem_of_getElem? (i := 1182) (by decide +kernel)⟩
theorem lw_p22 : lw_okq (⟨"FishclockModel", "drawsAll", "(Z)V"⟩, 55) := ⟨⟨by decide +kernel, by decide +kernel⟩, List.mem_of_getElem? (i := 938) (by decide +kernel), List.mem_of_getElem? (i := 1185) (by decide +kernel), List.mem_of_getElem? (i := 1186) (by decide +kernel)⟩
theorem lw_p23 : lw_okq (⟨"FishclockModel", "drawn", "(I)I"⟩, 55) := ⟨⟨by decide +kernel, by decide +kernel⟩, List.mem_of_getElem? (i := 938) (by decide +kernel), List.mem_of_getElem? (i := 1189) (by decide +kernel), List.mem_of_getElem? (i := 1190) (by decide +kernel)⟩
theorem lw_p24 : lw_okq (⟨"FishclockModel", "parts", "(I)V"⟩, 55) := ⟨⟨by decide +kernel, by decide +kernel⟩, List.mem_of_getElem? (i := 938) (by decide +kernel), List.mem_of_getElem? (i := 1197) (by decide +kernel), List.mem_of_getElem? (i := 1198) (by decide +kernel)⟩
theorem lw_p25 : lw_okq (⟨"FishclockModel", "comes", "(I)V"⟩, 55) := ⟨⟨by decide +kernel, by decide +kernel⟩, List.mem_of_getElem? (i := 938) (by decide +kernel), List.mem_of_getElem? (i := 1201) (by decide +kernel), List.mem_of_getElem? (i := 1202) (by decide +kernel)⟩
theorem lw_p26 : lw_okq (⟨"FishclockModel", "withdrawsAll", "(I)I"⟩, 55) := ⟨⟨by decide +kernel, by decide +kernel⟩, List.mem_of_getElem? (i := 938) (by decide +kernel), List.mem_of_getElem? (i := 1209) (by decide +kernel), List.mem_of_getElem? (i := 1210) (by decide +kernel)⟩
theorem lw_p27 : lw_okq (⟨"FishclockModel", "withdraws", "(I)V"⟩, 55) := ⟨⟨by decide +kernel, by decide +kernel⟩, List.mem_of_getElem? (i := 938) (by decide +kernel), List.mem_of_getElem? (i := 1213) (by decide +kernel), List.mem_of_getElem? (i := 1214) (by decide +kernel)⟩
theorem lw_p28 : lw_okq (⟨"FishclockModel", "leftOf", "(I)I"⟩, 55) := ⟨⟨by decide +kernel, by decide +kernel⟩, List.mem_of_getElem? (i := 938) (by decide +kernel), List.mem_of_getElem? (i := 1225) (by decide +kernel), List.mem_of_getElem? (i := 1226) (by decide +kernel)⟩
theorem lw_p29 : lw_okq (⟨"FishclockModel", "costOf", "(III)I"⟩, 55) := ⟨⟨by decide +kernel, by decide +kernel⟩, List.mem_of_getElem? (i := 938) (by decide +kernel), List.mem_of_getElem? (i := 1229) (by decide +kernel), List.mem_of_getElem? (i := 1230) (by decide +kernel)⟩
theorem lw_p30 : lw_okq (⟨"FishclockModel", "canPay", "(II)Z"⟩, 55) := ⟨⟨by decide +kernel, by decide +kernel⟩, List.mem_of_getElem? (i := 938) (by decide +kernel), List.mem_of_getElem? (i := 1233) (by decide +kernel), List.mem_of_getElem? (i := 1234) (by decide +kernel)⟩
theorem lw_p31 : lw_okq (⟨"FishclockModel", "gets", "(II)V"⟩, 55) := ⟨⟨by decide +kernel, by decide +kernel⟩, List.mem_of_getElem? (i := 938) (by decide +kernel), List.mem_of_getElem? (i := 1237) (by decide +kernel), List.mem_of_getElem? (i := 1238) (by decide +kernel)⟩
def lw_privs_2 : List (MethodName × Nat) := [(⟨"Fishclock", "sendLorries", "()V"⟩, 12), (⟨"Fishclock", "fetch", "(I)V"⟩, 12), (⟨"FishclockModel", "begins", "(I)V"⟩, 55), (⟨"FishclockModel", "fails", "(I)Z"⟩, 55), (⟨"FishclockModel", "ready", "(Z)I"⟩, 55), (⟨"FishclockModel", "isToSell", "(I)Z"⟩, 55), (⟨"FishclockModel", "drawsAll", "(Z)V"⟩, 55), (⟨"FishclockModel", "drawn", "(I)I"⟩, 55), (⟨"FishclockModel", "parts", "(I)V"⟩, 55), (⟨"FishclockModel", "comes", "(I)V"⟩, 55), (⟨"FishclockModel", "withdrawsAll", "(I)I"⟩, 55), (⟨"FishclockModel", "withdraws", "(I)V"⟩, 55), (⟨"FishclockModel", "leftOf", "(I)I"⟩, 55), (⟨"FishclockModel", "costOf", "(III)I"⟩, 55), (⟨"FishclockModel", "canPay", "(II)Z"⟩, 55), (⟨"FishclockModel", "gets", "(II)V"⟩, 55)]
theorem lw_r2 : ∀ q ∈ lw_privs_2, lw_okq q := List.forall_mem_cons.mpr ⟨lw_p16, List.forall_mem_cons.mpr ⟨lw_p17, List.forall_mem_cons.mpr ⟨lw_p18, List.forall_mem_cons.mpr ⟨lw_p19, List.forall_mem_cons.mpr ⟨lw_p20, List.forall_mem_cons.mpr ⟨lw_p21, List.forall_mem_cons.mpr ⟨lw_p22, List.forall_mem_cons.mpr ⟨lw_p23, List.forall_mem_cons.mpr ⟨lw_p24, List.forall_mem_cons.mpr ⟨lw_p25, List.forall_mem_cons.mpr ⟨lw_p26, List.forall_mem_cons.mpr ⟨lw_p27, List.forall_mem_cons.mpr ⟨lw_p28, List.forall_mem_cons.mpr ⟨lw_p29, List.forall_mem_cons.mpr ⟨lw_p30, List.forall_mem_cons.mpr ⟨lw_p31, fun _ h => absurd h List.not_mem_nil⟩⟩⟩⟩⟩⟩⟩⟩⟩⟩⟩⟩⟩⟩⟩⟩
theorem lw_p32 : lw_okq (⟨"FishclockModel", "firstOf", "(I)I"⟩, 55) := ⟨⟨by decide +kernel, by decide +kernel⟩, List.mem_of_getElem? (i := 938) (by decide +kernel), List.mem_of_getElem? (i := 1241) (by decide +kernel), List.mem_of_getElem? (i := 1242) (by decide +kernel)⟩
theorem lw_p33 : lw_okq (⟨"FishclockModel", "ends", "(I)V"⟩, 55) := ⟨⟨by decide +kernel, by decide +kernel⟩, List.mem_of_getElem? (i := 938) (by decide +kernel), List.mem_of_getElem? (i := 1245) (by decide +kernel), List.mem_of_getElem? (i := 1246) (by decide +kernel)⟩
theorem lw_p34 : lw_okq (⟨"FishclockModel", "passes", "()V"⟩, 55) := ⟨⟨by decide +kernel, by decide +kernel⟩, List.mem_of_getElem? (i := 938) (by decide +kernel), List.mem_of_getElem? (i := 1253) (by decide +kernel), List.mem_of_getElem? (i := 1254) (by decide +kernel)⟩
theorem lw_p35 : lw_okq (⟨"FishclockModel", "falls", "(I)V"⟩, 55) := ⟨⟨by decide +kernel, by decide +kernel⟩, List.mem_of_getElem? (i := 938) (by decide +kernel), List.mem_of_getElem? (i := 1257) (by decide +kernel), List.mem_of_getElem? (i := 1258) (by decide +kernel)⟩
theorem lw_p36 : lw_okq (⟨"FishclockModel", "hears", "(I)Z"⟩, 55) := ⟨⟨by decide +kernel, by decide +kernel⟩, List.mem_of_getElem? (i := 938) (by decide +kernel), List.mem_of_getElem? (i := 1261) (by decide +kernel), List.mem_of_getElem? (i := 1262) (by decide +kernel)⟩
theorem lw_p37 : lw_okq (⟨"FishclockModel", "slowest", "()I"⟩, 55) := ⟨⟨by decide +kernel, by decide +kernel⟩, List.mem_of_getElem? (i := 938) (by decide +kernel), List.mem_of_getElem? (i := 1265) (by decide +kernel), List.mem_of_getElem? (i := 1266) (by decide +kernel)⟩
theorem lw_p38 : lw_okq (⟨"FishclockModel", "stands", "(I)V"⟩, 55) := ⟨⟨by decide +kernel, by decide +kernel⟩, List.mem_of_getElem? (i := 938) (by decide +kernel), List.mem_of_getElem? (i := 1269) (by decide +kernel), List.mem_of_getElem? (i := 1270) (by decide +kernel)⟩
theorem lw_p39 : lw_okq (⟨"FishclockModel", "isBefore", "(II)Z"⟩, 55) := ⟨⟨by decide +kernel, by decide +kernel⟩, List.mem_of_getElem? (i := 938) (by decide +kernel), List.mem_of_getElem? (i := 1273) (by decide +kernel), List.mem_of_getElem? (i := 1274) (by decide +kernel)⟩
theorem lw_p40 : lw_okq (⟨"FishclockModel", "waits", "(I)V"⟩, 55) := ⟨⟨by decide +kernel, by decide +kernel⟩, List.mem_of_getElem? (i := 938) (by decide +kernel), List.mem_of_getElem? (i := 1277) (by decide +kernel), List.mem_of_getElem? (i := 1278) (by decide +kernel)⟩
theorem lw_p41 : lw_okq (⟨"FishclockModel", "leaves", "(I)V"⟩, 55) := ⟨⟨by decide +kernel, by decide +kernel⟩, List.mem_of_getElem? (i := 938) (by decide +kernel), List.mem_of_getElem? (i := 1281) (by decide +kernel), List.mem_of_getElem? (i := 1282) (by decide +kernel)⟩
theorem lw_p42 : lw_okq (⟨"FishclockModel", "isBox", "(I)Z"⟩, 55) := ⟨⟨by decide +kernel, by decide +kernel⟩, List.mem_of_getElem? (i := 938) (by decide +kernel), List.mem_of_getElem? (i := 1300) (by decide +kernel), List.mem_of_getElem? (i := 1301) (by decide +kernel)⟩
theorem lw_p43 : lw_okq (⟨"FishclockModel", "lotsOf", "(I)I"⟩, 55) := ⟨⟨by decide +kernel, by decide +kernel⟩, List.mem_of_getElem? (i := 938) (by decide +kernel), List.mem_of_getElem? (i := 1335) (by decide +kernel), List.mem_of_getElem? (i := 1336) (by decide +kernel)⟩
def lw_privs_3 : List (MethodName × Nat) := [(⟨"FishclockModel", "firstOf", "(I)I"⟩, 55), (⟨"FishclockModel", "ends", "(I)V"⟩, 55), (⟨"FishclockModel", "passes", "()V"⟩, 55), (⟨"FishclockModel", "falls", "(I)V"⟩, 55), (⟨"FishclockModel", "hears", "(I)Z"⟩, 55), (⟨"FishclockModel", "slowest", "()I"⟩, 55), (⟨"FishclockModel", "stands", "(I)V"⟩, 55), (⟨"FishclockModel", "isBefore", "(II)Z"⟩, 55), (⟨"FishclockModel", "waits", "(I)V"⟩, 55), (⟨"FishclockModel", "leaves", "(I)V"⟩, 55), (⟨"FishclockModel", "isBox", "(I)Z"⟩, 55), (⟨"FishclockModel", "lotsOf", "(I)I"⟩, 55)]
theorem lw_r3 : ∀ q ∈ lw_privs_3, lw_okq q := List.forall_mem_cons.mpr ⟨lw_p32, List.forall_mem_cons.mpr ⟨lw_p33, List.forall_mem_cons.mpr ⟨lw_p34, List.forall_mem_cons.mpr ⟨lw_p35, List.forall_mem_cons.mpr ⟨lw_p36, List.forall_mem_cons.mpr ⟨lw_p37, List.forall_mem_cons.mpr ⟨lw_p38, List.forall_mem_cons.mpr ⟨lw_p39, List.forall_mem_cons.mpr ⟨lw_p40, List.forall_mem_cons.mpr ⟨lw_p41, List.forall_mem_cons.mpr ⟨lw_p42, List.forall_mem_cons.mpr ⟨lw_p43, fun _ h => absurd h List.not_mem_nil⟩⟩⟩⟩⟩⟩⟩⟩⟩⟩⟩⟩
def lw_privs : List (MethodName × Nat) := lw_privs_1 ++ (lw_privs_2 ++ (lw_privs_3))
def lw_tbl : List Cond := k2_sels lw_privs ++ tables_1
theorem lw_privs_ok : ∀ q ∈ lw_privs, lw_okq q := by
  show ∀ q ∈ lw_privs_1 ++ (lw_privs_2 ++ (lw_privs_3)), lw_okq q
  exact List.forall_mem_append.mpr ⟨lw_r1, List.forall_mem_append.mpr ⟨lw_r2, lw_r3⟩⟩
-- ===== end of PART A; then your names; then what follows =====
/-! ===== BEGIN words of one list among another's, by their places ===== -/
theorem goodIn_r {big : List Cond} (ws : List Cond) (ps : List Nat) (hp : ws = ps.filterMap (fun i => big[i]?)) (h : ws.all goodWord = true) : GoodIn big ws := by
  intro w hw
  have h1 := List.all_eq_true.mp h w hw
  rw [hp] at hw
  obtain ⟨i, -, hi⟩ := List.mem_filterMap.mp hw
  have hm : w ∈ big := by first | exact List.mem_of_getElem? hi | exact List.getElem?_mem hi
  exact ⟨hm, good_of_word h1⟩
theorem goodIn_app {big a b : List Cond} (ha : GoodIn big a) (hb : GoodIn big b) : GoodIn big (a ++ b) := fun w h => (List.mem_append.mp h).elim (ha w) (hb w)
theorem goodIn_ca {big a b : List Cond} {c : Cond} (ha : GoodIn big (c :: a)) (hb : GoodIn big b) : GoodIn big (c :: (a ++ b)) := fun w h => (List.mem_cons.mp h).elim (fun e => ha w (List.mem_cons.mpr (Or.inl e))) (fun h => (List.mem_append.mp h).elim (fun h => ha w (List.mem_cons.mpr (Or.inr h))) (hb w))
theorem goodIn_sub {big ws : List Cond} (hm : ∀ w ∈ ws, w ∈ big) (h : ws.all goodWord = true) : GoodIn big ws := fun w hw => ⟨hm w hw, good_of_word (List.all_eq_true.mp h w hw)⟩
/-! ===== END ===== -/

/-! ===== BEGIN exceptions that leave a method, and their catching by the caller (launches without stack traces) ===== -/
section VXA
/-! The laws vx_back, vx_callV, vx_callS, vx_callSW, vx_throw0, vx_throwS follow proofs of the library, with one case more: JvmDerived/Free/Laws.lean (Back.of_free), Shelf42/LK1.lean (callV, callS), Shelf/KitTraced.lean (throwNew0V, throwNewS). -/
/-- where a method has thrown q: the class by its name, the cell, what was written, the world -/
def vx_T (XC : String → State → State → Prop) (st : State) (q : Addr) (t : State) (mc ms : Nat) (free : Addr → Prop) : Prop :=
  ∃ (E : String) (ce : Cell) (L : List Loc), XC E st t ∧ t.heap[q]? = some ce ∧ ce.vm = .none ∧ st.vm.findClass E = some ce.cls ∧ st.WarmedH t.vm ∧ st.sameButNew ({ t with vm := st.vm } : State) L mc ms ∧ ∀ z ∈ L, free z.base
def vx_Q (Qc : Array Value → State → Outcome → State → Prop) (XC : String → State → State → Prop) (mc ms : Nat) (free : Addr → Prop) : Array Value → State → Outcome → State → Prop := fun a st o t =>
  (Qc a st o t ∧ ∃ L, FrameEnd st o t L mc ms ∧ ∀ q ∈ L, free q.base) ∨ ∃ q, o = .threw q ∧ vx_T XC st q t mc ms free
/-- a callee that returns or throws -/
def vx_Met (l : Launch) (y : MethodName) (ws : List Cond) (rm : Room) (Pc : Array Value → State → Prop) (Qc : Array Value → State → Outcome → State → Prop) (XC : String → State → State → Prop) (mc ms : Nat) (free : Addr → Prop) : Prop :=
  MetFree l y (headSpec ws rm) Pc (fun _ _ _ _ _ => True) (vx_Q Qc XC mc ms free)
def vx_Post (XC : String → State → State → Prop) (mc ms : Nat) (free : Addr → Prop) : Pt → Array Value → Addr → Pt → Prop := fun A a q B =>
  ∃ (g : JFrame) (mk : MethodId) (t : State) (L : List Loc) (E : String) (ce : Cell), B.U.heap = t.heap ∧ B.U.vm = t.vm ∧ XC E (A.U.calling g mk a) t ∧ t.heap[q]? = some ce ∧ ce.vm = .none ∧ A.U.vm.findClass E = some ce.cls ∧ B.locs = A.locs ++ L ∧ (∀ z ∈ L, free z.base) ∧ B.cells = A.cells + mc ∧ B.slots = A.slots + ms
def vx_Back (l : Launch) (R : Room) (p : Program) (e : Env) (below : List Frame) (s : State) (sargs : Array Value) (y : MethodName) (len W9 : Nat)
    (Pre : Pt → Array Value → Prop) (Post : Pt → Array Value → Option Value → Pt → Prop) (PostX : Pt → Array Value → Addr → Pt → Prop) : Prop :=
  ∀ (m : MethodId) (meth : Method) (c : Code) (A : Pt) (g : JFrame) (ig : Instr) (mk : MethodId) (a : Array Value),
    Stand p l e R s m sargs below meth c A.U A.locs A.cells A.slots → g.method = m → g.locals.size = c.maxLocals → decode c.code g.pc = .ok (ig, len) →
    2 * g.monitorRoom + (g.stack.map fun v => v.category).sum ≤ W9 → A.U.methodNamed? y = some mk → Pre A a →
    (∃ (v : Option Value) (B : Pt), Stand p l e R s m sargs below meth c B.U B.locs B.cells B.slots ∧ Post A a v B ∧
      Steps p.tables e below (doInvoke e (A.U.setTop g) [] mk a).1 (B.U.setTop { g with pc := g.pc + len, stack := v.toList ++ g.stack })) ∨
    (∃ (q : Addr) (B : Pt), Stand p l e R s m sargs below meth c B.U B.locs B.cells B.slots ∧ PostX A a q B ∧
      Steps p.tables e below (doInvoke e (A.U.setTop g) [] mk a).1 ((B.U.setTop g).pushFrame (.throwing q)))
section Payer
variable {l : Launch} {R : Room} {p : Program} {e : Env} {below : List Frame} {s : State} {sargs : Array Value} {y : MethodName} {len W9 : Nat}
theorem vx_back {ws : List Cond} {rm : Room} {Pc : Array Value → State → Prop} {Qc : Array Value → State → Outcome → State → Prop} {XC : String → State → State → Prop} {mc ms : Nat} {free : Addr → Prop} {bytes : ByteArray} {maxL : Nat} {ret : Option FieldType}
    (hM : vx_Met l y ws rm Pc Qc XC mc ms free) (hblind : FrameBlind Pc) (hrc : rm.cells = mc) (hrs : rm.slots = ms)
    (hframes : rm.frames + 1 ≤ R.frames) (hlocals : W9 + (maxL + 11) + rm.locals ≤ R.locals)
    (hws : ∀ w ∈ ws, ∀ a' U, s.WarmedH U.vm → w.before a' U = true) (hcode : Cond.code y bytes maxL ret ∈ ws) (hinit : ∀ a' U, s.WarmedH U.vm → (Cond.initialized y.cls).before a' U = true) :
    vx_Back l R p e below s sargs y len W9 (PreOf R mc ms Pc) (PostOf Qc mc ms free) (vx_Post XC mc ms free) := by
  intro m meth c A g ig mk a X hg hsize hdg hW hn hp
  have h1 : (headSpec ws rm).pre.before a A.U = true := atoms_intro fun w hw => hws w hw _ _ X.warmed
  have h2 : (Cond.code y bytes maxL ret).before a A.U = true := hws _ hcode _ _ X.warmed
  have h3 : (Cond.initialized y.cls).before a A.U = true := hinit _ _ X.warmed
  have h4 : A.cells + (headSpec ws rm).room.cells ≤ R.cells := by rw [show (headSpec ws rm).room.cells = mc from hrc]; exact hp.1
  have h5 : A.slots + (headSpec ws rm).room.slots ≤ R.slots := by rw [show (headSpec ws rm).room.slots = ms from hrs]; exact hp.2.1
  have hPc : Pc a (A.U.calling g mk a) := hblind _ _ _ _ hp.2.2
  obtain ⟨U, Ls, c0, s0⟩ := A
  dsimp only [Pt.U, Pt.locs, Pt.cells, Pt.slots] at h1 h2 h3 h4 h5 X hn hPc ⊢
  obtain ⟨methY, cY, hmY, hcY, -, hlY, -, -, -, -⟩ := Cond.code_spec hn h2
  obtain ⟨kY, hkY, -⟩ := className_of_methodNamed hn
  have hinitY : kY.init = .initialized := Cond.initialized_spec (findClass_of_methodNamed hn) hkY h3
  have h : At U g.method c below := by rw [hg]; exact X.here
  have hlocals9 : W9 + (maxL + 11) + (headSpec ws rm).room.locals ≤ R.locals := hlocals
  have happ : (headSpec ws rm).appliesLoose y e.platform (U.calling g mk a) = true :=
    Spec.appliesLoose_calling (g := g) h hdg hn hkY hinitY
      (X.room_calling (g := g) (R' := (headSpec ws rm).room) hsize hmY hcY hframes (by rw [hlY]; omega) h4 h5) h1
  obtain ⟨mid, hmid⟩ := h.above
  have hfr : (U.setTop g).frames = (.java g :: mid) ++ below := by rw [State.frames_setTop' g h.top, hmid]; rfl
  obtain ⟨o, s₂, hsteps, -, hend, hq⟩ := Steps.callFree hM p X.admits X.cas X.clock (acts := []) hfr happ hPc trivial
  have hq' : vx_Q Qc XC mc ms free a (U.calling g mk a) o s₂ := hq
  rw [State.frames_setTop' g h.top] at hend
  obtain ⟨g₀, hg0⟩ := Option.isSome_iff_exists.mp h.top
  obtain ⟨r, hr⟩ := State.topJava?_eq_some.mp hg0
  have hr' : (({ U with heap := s₂.heap, slotsUsed := s₂.slotsUsed } : State).setVm s₂.vm).frames = .java g₀ :: r := hr
  rcases hq' with ⟨hqc, L, hfe, hL⟩ | ⟨q, rfl, E, ce, L, hx, hce, hcv, hcl, hW₂, hsm, hL⟩
  · obtain ⟨⟨v, rfl⟩, hW₂, e2, q2, q3, q4, q5, q6⟩ := id hfe
    have e3 : s₂ = ({ (U.calling g mk a).setFrames s₂.frames with heap := s₂.heap, slotsUsed := s₂.slotsUsed } : State).setVm s₂.vm := by
      have : s₂ = ({ s₂ with vm := (U.calling g mk a).vm } : State).setVm s₂.vm := rfl
      rw [e2] at this
      exact this
    obtain ⟨c₂, i₂, len₂, hc₂, hd₂, hf₂⟩ := hend
    have hW' : U.WarmedH s₂.vm := hW₂
    have hcc : c₂ = c := by
      have h1 : s₂.code? g.method = U.code? g.method := by
        rw [State.code?_eq, State.code?_eq, hW'.alike.method?]
      exact Option.some.inj (hc₂.symm.trans (h1.trans h.code))
    subst hcc
    have hlen : len₂ = len := by rw [hdg] at hd₂; cases hd₂; rfl
    subst hlen
    have hs₂ : s₂ = (({ U with heap := s₂.heap, slotsUsed := s₂.slotsUsed } : State).setVm s₂.vm).setTop { g with pc := g.pc + len₂, stack := v.toList ++ g.stack } := by
      refine e3.trans ?_
      rw [hf₂, State.calling_eq h.top, State.setFrames_setFrames, State.setTop_of_frames _ hr', hr]
      rfl
    have hsame : U.sameButNew ({ U with heap := s₂.heap, slotsUsed := s₂.slotsUsed } : State) L mc ms := by
      refine ⟨?_, q2, q3, q4, q5, q6⟩
      obtain ⟨t, ht, -⟩ := State.frames_cons hr
      show ({ U with heap := s₂.heap, slotsUsed := s₂.slotsUsed } : State) = { U.setFrames U.frames with heap := s₂.heap, slotsUsed := s₂.slotsUsed }
      rw [State.setFrames_self ht]
    subst hg
    refine Or.inl ⟨v, ⟨(({ U with heap := s₂.heap, slotsUsed := s₂.slotsUsed } : State).setVm s₂.vm), Ls ++ L, c0 + mc, s0 + ms⟩,
      ⟨X.admits, X.cas, X.clock, X.frames, X.room, X.hears, X.method, X.code, (X.here.setHeapUsed s₂.heap s₂.slotsUsed).setVm hW'.alike, X.tail, State.WarmedH.trans X.warmed hW', X.limits, X.bytes, X.same.trans (hsame.setVm s.vm)⟩,
      ⟨g, mk, s₂, L, rfl, rfl, hqc, rfl, hL, rfl, rfl⟩, ?_⟩
    show Steps p.tables e below _ ((({ U with heap := s₂.heap, slotsUsed := s₂.slotsUsed } : State).setVm s₂.vm).setTop { g with pc := g.pc + len₂, stack := v.toList ++ g.stack })
    rw [← hs₂]
    exact hsteps
  · obtain ⟨e2, q2, q3, q4, q5, q6⟩ := id hsm
    have e3 : s₂ = ({ (U.calling g mk a).setFrames s₂.frames with heap := s₂.heap, slotsUsed := s₂.slotsUsed } : State).setVm s₂.vm := by
      have : s₂ = ({ s₂ with vm := (U.calling g mk a).vm } : State).setVm s₂.vm := rfl
      rw [e2] at this
      exact this
    have hf₂ : s₂.frames = .throwing q :: .java g :: U.frames.tail := hend
    have hW' : U.WarmedH s₂.vm := hW₂
    have hs₂ : s₂ = ((({ U with heap := s₂.heap, slotsUsed := s₂.slotsUsed } : State).setVm s₂.vm).setTop g).pushFrame (.throwing q) := by
      refine e3.trans ?_
      rw [hf₂, State.calling_eq h.top, State.setFrames_setFrames, State.pushFrame, State.frames_setTop _ hr', State.setTop_of_frames _ hr', State.setFrames_setFrames, hr]
      rfl
    have hsame : U.sameButNew ({ U with heap := s₂.heap, slotsUsed := s₂.slotsUsed } : State) L mc ms := by
      refine ⟨?_, q2, q3, q4, q5, q6⟩
      obtain ⟨t, ht, -⟩ := State.frames_cons hr
      show ({ U with heap := s₂.heap, slotsUsed := s₂.slotsUsed } : State) = { U.setFrames U.frames with heap := s₂.heap, slotsUsed := s₂.slotsUsed }
      rw [State.setFrames_self ht]
    subst hg
    refine Or.inr ⟨q, ⟨(({ U with heap := s₂.heap, slotsUsed := s₂.slotsUsed } : State).setVm s₂.vm), Ls ++ L, c0 + mc, s0 + ms⟩,
      ⟨X.admits, X.cas, X.clock, X.frames, X.room, X.hears, X.method, X.code, (X.here.setHeapUsed s₂.heap s₂.slotsUsed).setVm hW'.alike, X.tail, State.WarmedH.trans X.warmed hW', X.limits, X.bytes, X.same.trans (hsame.setVm s.vm)⟩,
      ⟨g, mk, s₂, L, E, ce, rfl, rfl, hx, hce, hcv, hcl, rfl, hL, rfl, rfl⟩, ?_⟩
    show Steps p.tables e below _ (((({ U with heap := s₂.heap, slotsUsed := s₂.slotsUsed } : State).setVm s₂.vm).setTop g).pushFrame (.throwing q))
    rw [← hs₂]
    exact hsteps
end Payer
section Calls
variable {p : Program} {l : Launch} {e : Env} {R : Room} {s : State} {m : MethodId} {args : Array Value} {below : List Frame} {meth : Method} {c : Code} {T : State} {locs : List Loc} {cells slots : Nat}
theorem vx_callV (X : Stand p l e R s m args below meth c T locs cells slots) (hexec : p.tables.exec = Jvm.exec) {own C : String} {index : Nat} {y : MethodName} {bytes : ByteArray} {maxL : Nat} {ret : Option FieldType}
    (hown : s.vm.findClass own = some m.cls) (hlink : (Cond.methodLink own index y).before args s = true) (hinst : (Cond.instanceMethod y).before args s = true) (hsel : (Cond.selects C y y).before args s = true)
    (hcode : (Cond.code y bytes maxL ret).before args s = true) (hy : y.cls ≠ "java/lang/invoke/MethodHandle" ∧ y.cls ≠ "java/lang/invoke/VarHandle")
    {W9 : Nat} {Pre : Pt → Array Value → Prop} {Post : Pt → Array Value → Option Value → Pt → Prop} {PostX : Pt → Array Value → Addr → Pt → Prop} (hK : vx_Back l R p e below s args y 3 W9 Pre Post PostX)
    {b : Addr} {cellB : Cell} (hcell : T.heap[b]? = some cellB) (hobj : cellB.vm.isStatics = false) (hcls : s.vm.findClass C = some cellB.cls)
    {g : JFrame} (hg : g.method = m) (hsize : g.locals.size = c.maxLocals) {argsL rest : List Value} (hlen : ∀ sig, parseMethodDescriptor y.desc = some sig → argsL.length = sig.parameters.length)
    (hstack : g.stack = argsL.reverse ++ .ref b :: rest) (hW : 2 * g.monitorRoom + (rest.map fun v => v.category).sum ≤ W9) (hdg : decode c.code g.pc = .ok (.invokevirtual index, 3))
    (hpre : ∀ vm₁, s.WarmedH vm₁ → Pre ⟨T.setVm vm₁, locs, cells, slots⟩ (Value.ref b :: argsL).toArray) :
    (∃ (v : Option Value) (vm₁ : Vm) (B : Pt), s.WarmedH vm₁ ∧ Stand p l e R s m args below meth c B.U B.locs B.cells B.slots ∧ Post ⟨T.setVm vm₁, locs, cells, slots⟩ (Value.ref b :: argsL).toArray v B ∧
      ∀ target, Steps p.tables e below (B.U.setTop { g with pc := g.pc + 3, stack := v.toList ++ rest }) target → Steps p.tables e below (T.setTop g) target) ∨
    (∃ (q : Addr) (vm₁ : Vm) (B : Pt), s.WarmedH vm₁ ∧ Stand p l e R s m args below meth c B.U B.locs B.cells B.slots ∧ PostX ⟨T.setVm vm₁, locs, cells, slots⟩ (Value.ref b :: argsL).toArray q B ∧
      Steps p.tables e below (T.setTop g) ((B.U.setTop { g with stack := rest }).pushFrame (.throwing q))) := by
  obtain ⟨mk, methM, hnamed, hmethM, hstM, habM⟩ := Cond.instanceMethod_spec hinst
  obtain ⟨methM', cM, hmethM', -, -, -, -, -, -, hsigM⟩ := Cond.code_spec hnamed hcode
  cases hmethM.symm.trans hmethM'
  obtain ⟨c2, r2, m2, q1, q2, q3, q4, kP, hkP, hkPi⟩ := Cond.selects_spec hsel
  cases hcls.symm.trans q1
  cases (State.methodFound?_of_named hnamed hy).symm.trans q2
  cases hnamed.symm.trans q3
  have hselP : selectMethod e.platform s.vm cellB.cls mk = .method mk := by rw [Launch.admits_selectMethod X.admits]; exact q4
  obtain ⟨vm₁, X₁, hstep₁⟩ := X.invokevirtual hexec hown hlink hnamed hmethM hstM hkP hkPi hy (a := b) (cell := cellB) hcell
    (fun z h => by rw [h] at hobj; cases hobj) hselP hmethM habM hkP hkPi (g := g) hg (argsL := argsL) (rest := rest) (hlen _ hsigM) hstack hdg
  rcases hK m meth c ⟨T.setVm vm₁, locs, cells, slots⟩ { g with stack := rest } (.invokevirtual index) mk (Value.ref b :: argsL).toArray X₁ hg hsize hdg hW (X₁.named hnamed) (hpre vm₁ X₁.warmed) with ⟨v, B, X', hpost, hsteps⟩ | ⟨q, B, X', hpost, hsteps⟩
  · exact Or.inl ⟨v, vm₁, B, X₁.warmed, X', hpost, fun target h => hstep₁ _ fun acts => by rw [doInvoke_state]; exact hsteps.trans h⟩
  · exact Or.inr ⟨q, vm₁, B, X₁.warmed, X', hpost, hstep₁ _ fun acts => by rw [doInvoke_state]; exact hsteps⟩
theorem vx_callS (X : Stand p l e R s m args below meth c T locs cells slots) (hexec : p.tables.exec = Jvm.exec) {own : String} {index : Nat} {y : MethodName} {bytes : ByteArray} {maxL : Nat} {ret : Option FieldType}
    (hown : s.vm.findClass own = some m.cls) (hlink : (Cond.methodLink own index y).before args s = true) (hstat : (Cond.static y).before args s = true) (hinit : (Cond.initialized y.cls).before args s = true)
    (hcode : (Cond.code y bytes maxL ret).before args s = true) (hy : y.cls ≠ "java/lang/invoke/MethodHandle" ∧ y.cls ≠ "java/lang/invoke/VarHandle")
    {W9 : Nat} {Pre : Pt → Array Value → Prop} {Post : Pt → Array Value → Option Value → Pt → Prop} {PostX : Pt → Array Value → Addr → Pt → Prop} (hK : vx_Back l R p e below s args y 3 W9 Pre Post PostX)
    {g : JFrame} (hg : g.method = m) (hsize : g.locals.size = c.maxLocals) {argsL rest : List Value} (hlen : ∀ sig, parseMethodDescriptor y.desc = some sig → argsL.length = sig.parameters.length)
    (hstack : g.stack = argsL.reverse ++ rest) (hW : 2 * g.monitorRoom + (rest.map fun v => v.category).sum ≤ W9) (hdg : decode c.code g.pc = .ok (.invokestatic index, 3))
    (hpre : ∀ vm₁, s.WarmedH vm₁ → Pre ⟨T.setVm vm₁, locs, cells, slots⟩ argsL.toArray) :
    (∃ (v : Option Value) (vm₁ : Vm) (B : Pt), s.WarmedH vm₁ ∧ Stand p l e R s m args below meth c B.U B.locs B.cells B.slots ∧ Post ⟨T.setVm vm₁, locs, cells, slots⟩ argsL.toArray v B ∧
      ∀ target, Steps p.tables e below (B.U.setTop { g with pc := g.pc + 3, stack := v.toList ++ rest }) target → Steps p.tables e below (T.setTop g) target) ∨
    (∃ (q : Addr) (vm₁ : Vm) (B : Pt), s.WarmedH vm₁ ∧ Stand p l e R s m args below meth c B.U B.locs B.cells B.slots ∧ PostX ⟨T.setVm vm₁, locs, cells, slots⟩ argsL.toArray q B ∧
      Steps p.tables e below (T.setTop g) ((B.U.setTop { g with stack := rest }).pushFrame (.throwing q))) := by
  obtain ⟨mk, hnamed⟩ := Cond.code_named hcode
  obtain ⟨methM, cM, hmethM, -, -, -, -, -, -, hsigM⟩ := Cond.code_spec hnamed hcode
  have hstatic : methM.isStatic = true := Cond.static_spec hnamed hmethM hstat
  obtain ⟨kP, hkP, -⟩ := className_of_methodNamed hnamed
  have hinitP : kP.init = .initialized := Cond.initialized_spec (findClass_of_methodNamed hnamed) hkP hinit
  obtain ⟨vm₁, X₁, hstep₁⟩ := X.invokestatic hexec hown hlink hnamed hmethM hstatic hkP hinitP hy (g := g) hg (argsL := argsL) (rest := rest) (hlen _ hsigM) hstack hdg
  rcases hK m meth c ⟨T.setVm vm₁, locs, cells, slots⟩ { g with stack := rest } (.invokestatic index) mk argsL.toArray X₁ hg hsize hdg hW (X₁.named hnamed) (hpre vm₁ X₁.warmed) with ⟨v, B, X', hpost, hsteps⟩ | ⟨q, B, X', hpost, hsteps⟩
  · exact Or.inl ⟨v, vm₁, B, X₁.warmed, X', hpost, fun target h => hstep₁ _ fun acts => by rw [doInvoke_state]; exact hsteps.trans h⟩
  · exact Or.inr ⟨q, vm₁, B, X₁.warmed, X', hpost, hstep₁ _ fun acts => by rw [doInvoke_state]; exact hsteps⟩
end Calls
theorem vx_cls {s : State} {T : State} {vm₁ : Vm} {E : String} {k : ClassId} (hW : s.WarmedH vm₁) (h : (T.setVm vm₁).vm.findClass E = some k) : s.vm.findClass E = some k := by
  have h1 : vm₁.findClass E = some k := h
  rw [hW.alike.findClass] at h1
  exact h1
/-- the method's frame g, with q thrown over it -/
def vx_W (p : Program) (l : Launch) (e : Env) (R : Room) (s : State) (m : MethodId) (args : Array Value) (below : List Frame) (meth : Method) (c : Code) (H : Heap) (locs : List Loc) (cells slots : Nat) (Q : State → Prop) (g : JFrame) (q : Addr) : Prop :=
  ∀ T : State, T.heap = H → Stand p l e R s m args below meth c T locs cells slots → ∃ t, Steps p.tables e below ((T.setTop g).pushFrame (.throwing q)) t ∧ Q t
def vx_Run (p : Program) (l : Launch) (e : Env) (R : Room) (s : State) (m : MethodId) (args : Array Value) (below : List Frame) (meth : Method) (c : Code) (H : Heap) (locs : List Loc) (cells slots mc ms : Nat) (g : JFrame) (rest : List Value) (Qa : State → Outcome → State → Prop) (XC : String → State → State → Prop) (free : Addr → Prop) : Prop :=
  ∀ T : State, T.heap = H → Stand p l e R s m args below meth c T locs cells slots →
    (∃ (v : Option Value) (st₀ t T' : State) (L : List Loc), st₀.heap = H ∧ Stand p l e R s m args below meth c T' (locs ++ L) (cells + mc) (slots + ms) ∧ (∀ q ∈ L, free q.base) ∧ T'.heap = t.heap ∧ T'.vm = t.vm ∧ Qa st₀ (.returned v) t ∧
      Goes p e below T g T' { g with pc := g.pc + 3, stack := v.toList ++ rest }) ∨
    (∃ (q : Addr) (st₀ t T' : State) (L : List Loc) (E : String) (ce : Cell), st₀.heap = H ∧ Stand p l e R s m args below meth c T' (locs ++ L) (cells + mc) (slots + ms) ∧ (∀ z ∈ L, free z.base) ∧ T'.heap = t.heap ∧ T'.vm = t.vm ∧ XC E st₀ t ∧ t.heap[q]? = some ce ∧ ce.vm = .none ∧ s.vm.findClass E = some ce.cls ∧
      Steps p.tables e below (T.setTop g) ((T'.setTop { g with stack := rest }).pushFrame (.throwing q)))
def vx_X {S : Type} (px : S → Prop) (B : String → S → State → Prop) (A : Nat → Prop) : String → State → State → Prop := fun E st t => ∃ u : S, px u ∧ B E u t ∧ va_F A st t
section Runs
variable {p : Program} {l : Launch} {e : Env} {R : Room} {s : State} {m : MethodId} {args : Array Value} {below : List Frame} {meth : Method} {c : Code} {H : Heap} {locs : List Loc} {cells slots : Nat}
variable {y : MethodName} {bytes cc : ByteArray} {maxL nL mc ms n index : Nat} {ret : Option FieldType} {ws : List Cond} {rm : Room} {Pc : Array Value → State → Prop} {Qc : Array Value → State → Outcome → State → Prop} {XC : String → State → State → Prop} {free : Addr → Prop} {Ts : List Cond} {own C : String} {b : Addr} {As rest : List Value} {g : JFrame}
theorem vx_callBack (cb : CallB R s args own index y bytes maxL ret ws rm mc ms n) (hM : vx_Met l y ws rm Pc Qc XC mc ms free) (hbl : FrameBlind Pc) : vx_Back l R p e below s args y 3 8 (PreOf R mc ms Pc) (PostOf Qc mc ms free) (vx_Post XC mc ms free) := by
  obtain ⟨hrc, hrs, hfr, hlo, hws, hcw, -, hini, -⟩ := cb
  exact vx_back (bytes := bytes) (maxL := maxL) (ret := ret) hM hbl hrc hrs hfr hlo hws hcw (fun a' U hW => word_at hW (Or.inl (by first | rfl | simp [Cond.onTables, Cond.keeps, Cond.steady])) hini)
theorem vx_runV (S : CallFix p m c cc nL s args Ts own) (hM : vx_Met l y ws rm Pc Qc XC mc ms free) (cw : CallW R s args own C index y bytes maxL ret ws rm mc ms n) (hp : PreV s H C b Pc As)
    (hg : g.method = m) (hn : As.length = n) (hsize : g.locals.size = nL) (hstack : g.stack = As.reverse ++ .ref b :: rest) (hW : 2 * g.monitorRoom + (rest.map fun v => v.category).sum ≤ 8) (hdg : decode cc g.pc = .ok (.invokevirtual index, 3)) (hf : cells + mc ≤ R.cells ∧ slots + ms ≤ R.slots) :
    vx_Run p l e R s m args below meth c H locs cells slots mc ms g rest (Qc (Value.ref b :: As).toArray) XC free := by
  have hK : vx_Back l R p e below s args y 3 8 (PreOf R mc ms Pc) (PostOf Qc mc ms free) (vx_Post XC mc ms free) := vx_callBack cw.1 hM hp.1
  obtain ⟨⟨-, -, -, -, -, -, hcode, -, hy, hlen, hl⟩, hin, hse⟩ := cw
  obtain ⟨hx, hb, hml, ho, -⟩ := S
  obtain ⟨-, ⟨cellB, hcB, hoB, hclB⟩, hPc⟩ := hp
  intro T hT X
  rcases vx_callV X hx (C := C) (bytes := bytes) (maxL := maxL) (ret := ret) ho hl hin hse hcode hy hK (by rw [hT]; exact hcB) hoB hclB hg (hsize.trans hml.symm) (argsL := As) (rest := rest) (fun sig h => hn.trans (hlen sig h)) hstack hW (by rw [hb]; exact hdg)
    (fun vm₁ hW₁ => ⟨hf.1, hf.2, hPc (T.setVm vm₁) hT hW₁⟩) with ⟨v, vm₁, ⟨U', l2, c2, s2⟩, hW₁, X', ⟨g', mk, t, L, e1, e2, hq, h1, hL, h2, h3⟩, st⟩ | ⟨q, vm₁, ⟨U', l2, c2, s2⟩, hW₁, X', ⟨g', mk, t, L, E, ce, e1, e2, hq, hce, hcv, hcl, h1, hL, h2, h3⟩, st⟩
  · dsimp only [Pt.U, Pt.locs, Pt.cells, Pt.slots] at X' e1 e2 h1 h2 h3 st
    subst h1; subst h2; subst h3
    exact Or.inl ⟨v, (T.setVm vm₁).calling g' mk (Value.ref b :: As).toArray, t, U', L, hT, X', hL, e1, e2, hq, st⟩
  · dsimp only [Pt.U, Pt.locs, Pt.cells, Pt.slots] at X' e1 e2 h1 h2 h3 st hcl
    subst h1; subst h2; subst h3
    exact Or.inr ⟨q, (T.setVm vm₁).calling g' mk (Value.ref b :: As).toArray, t, U', L, E, ce, hT, X', hL, e1, e2, hq, hce, hcv, vx_cls hW₁ hcl, st⟩
theorem vx_runS (S : CallFix p m c cc nL s args Ts own) (hM : vx_Met l y ws rm Pc Qc XC mc ms free) (cw : CallB R s args own index y bytes maxL ret ws rm mc ms n ∧ (Cond.static y).before args s = true) (hp : PreS s H Pc As)
    (hg : g.method = m) (hn : As.length = n) (hsize : g.locals.size = nL) (hstack : g.stack = As.reverse ++ rest) (hW : 2 * g.monitorRoom + (rest.map fun v => v.category).sum ≤ 8) (hdg : decode cc g.pc = .ok (.invokestatic index, 3)) (hf : cells + mc ≤ R.cells ∧ slots + ms ≤ R.slots) :
    vx_Run p l e R s m args below meth c H locs cells slots mc ms g rest (Qc As.toArray) XC free := by
  have hK : vx_Back l R p e below s args y 3 8 (PreOf R mc ms Pc) (PostOf Qc mc ms free) (vx_Post XC mc ms free) := vx_callBack cw.1 hM hp.1
  obtain ⟨⟨-, -, -, -, -, -, hcode, hini, hy, hlen, hl⟩, hstt⟩ := cw
  obtain ⟨hx, hb, hml, ho, -⟩ := S
  intro T hT X
  rcases vx_callS X hx (bytes := bytes) (maxL := maxL) (ret := ret) ho hl hstt hini hcode hy hK hg (hsize.trans hml.symm) (argsL := As) (rest := rest) (fun sig h => hn.trans (hlen sig h)) hstack hW (by rw [hb]; exact hdg)
    (fun vm₁ hW₁ => ⟨hf.1, hf.2, hp.2 (T.setVm vm₁) hT hW₁⟩) with ⟨v, vm₁, ⟨U', l2, c2, s2⟩, hW₁, X', ⟨g', mk, t, L, e1, e2, hq, h1, hL, h2, h3⟩, st⟩ | ⟨q, vm₁, ⟨U', l2, c2, s2⟩, hW₁, X', ⟨g', mk, t, L, E, ce, e1, e2, hq, hce, hcv, hcl, h1, hL, h2, h3⟩, st⟩
  · dsimp only [Pt.U, Pt.locs, Pt.cells, Pt.slots] at X' e1 e2 h1 h2 h3 st
    subst h1; subst h2; subst h3
    exact Or.inl ⟨v, (T.setVm vm₁).calling g' mk As.toArray, t, U', L, hT, X', hL, e1, e2, hq, st⟩
  · dsimp only [Pt.U, Pt.locs, Pt.cells, Pt.slots] at X' e1 e2 h1 h2 h3 st hcl
    subst h1; subst h2; subst h3
    exact Or.inr ⟨q, (T.setVm vm₁).calling g' mk As.toArray, t, U', L, E, ce, hT, X', hL, e1, e2, hq, hce, hcv, vx_cls hW₁ hcl, st⟩
end Runs
section Rows
variable {p : Program} {l : Launch} {e : Env} {R : Room} {s : State} {m : MethodId} {args : Array Value} {below : List Frame} {meth : Method} {c : Code} {H : Heap} {locs : List Loc} {cells slots : Nat} {Q : State → Prop}
variable {mc ms : Nat} {free : Addr → Prop} {A0 A1 : Nat → Prop} {H0 : Heap} {a : Array Value} {pc : Nat} {ls : Array Slot} {st0 rest : List Value}
theorem vx_keep {st₀ t T' : State} {L : List Loc} (h0 : st₀.heap = H) (e1 : T'.heap = t.heap) (hS : va_S A0 H0 H locs) (hA : ∀ q, q < H.size → A1 q → A0 q) (hf : ∀ q, free q → A0 q) (hL : ∀ q ∈ L, free q.base) (hF : va_F A1 st₀ t) :
    H.size ≤ T'.heap.size ∧ (∀ q : Nat, q < H.size → ¬ A1 q → T'.heap[q]? = H[q]?) ∧ va_S A0 H0 T'.heap (locs ++ L) := by
  obtain ⟨hz, hk⟩ := hF
  rw [h0] at hz hk
  exact ⟨by rw [e1]; exact hz, fun q h1 h2 => by rw [e1]; exact hk q h1 h2,
    ⟨Nat.le_trans hS.1 (by rw [e1]; exact hz), fun q h1 h2 => by rw [e1, hk q (Nat.lt_of_lt_of_le h1 hS.1) (fun z => h2 (hA q (Nat.lt_of_lt_of_le h1 hS.1) z))]; exact hS.2.1 q h1 h2, fun q hq => by
      rcases List.mem_append.mp hq with h | h
      · exact hS.2.2 q h
      · exact hf _ (hL q h)⟩⟩
theorem vx_calli {S SX : Type} {post : Int32 → S → Prop} {px : SX → Prop} {B : S → State → Prop} {BX : String → SX → State → Prop} {AX : Nat → Prop} (hr : vx_Run p l e R s m args below meth c H locs cells slots mc ms (F0 m pc ls st0) rest (va_Qi post B A1 a) (vx_X px BX AX) free) (hS : va_S A0 H0 H locs) (hA : ∀ q, q < H.size → A1 q → A0 q) (hf : ∀ q, free q → A0 q) (hAX : ∀ q, q < H.size → AX q → A0 q)
    (kx : ∀ (E : String) (ce : Cell) (q9 : Addr) (u : SX) (t : State) (H1 : Heap) (locs1 : List Loc), t.heap = H1 → s.vm.Alike t.vm → px u → BX E u t → H.size ≤ H1.size → (∀ q : Nat, q < H.size → ¬ AX q → H1[q]? = H[q]?) → va_S A0 H0 H1 locs1 → H1[q9]? = some ce → ce.vm = .none → s.vm.findClass E = some ce.cls → vx_W p l e R s m args below meth c H1 locs1 (cells + mc) (slots + ms) Q (F0 m pc ls rest) q9)
    (kk : ∀ (r : Int32) (u : S) (t : State) (H1 : Heap) (locs1 : List Loc), t.heap = H1 → s.vm.Alike t.vm → post r u → B u t → H.size ≤ H1.size → (∀ q : Nat, q < H.size → ¬ A1 q → H1[q]? = H[q]?) → va_S A0 H0 H1 locs1 → W p l e R s m args below meth c H1 locs1 (cells + mc) (slots + ms) Q (F0 m (pc + 3) ls (.int r :: rest))) : W p l e R s m args below meth c H locs cells slots Q (F0 m pc ls st0) := by
  intro T hT X
  rcases hr T hT X with ⟨v, st₀, t, T', L, h0, X', hL, e1, e2, ⟨⟨r, u, hv, hp, hb⟩, hF⟩, st⟩ | ⟨q, st₀, t, T', L, E, ce, h0, X', hL, e1, e2, ⟨u, hp, hb, hF⟩, hce, hcv, hcl, st⟩
  · cases hv
    obtain ⟨k1, k2, k3⟩ := vx_keep h0 e1 hS hA hf hL hF
    obtain ⟨t2, a1, b1⟩ := kk r u t T'.heap (locs ++ L) e1.symm (by rw [← e2]; exact X'.warmed.alike) hp hb k1 k2 k3 T' rfl X'
    exact ⟨t2, st t2 a1, b1⟩
  · obtain ⟨k1, k2, k3⟩ := vx_keep h0 e1 hS hAX hf hL hF
    obtain ⟨t2, a1, b1⟩ := kx E ce q u t T'.heap (locs ++ L) e1.symm (by rw [← e2]; exact X'.warmed.alike) hp hb k1 k2 k3 (by rw [e1]; exact hce) hcv hcl T' rfl X'
    exact ⟨t2, st.trans a1, b1⟩
theorem vx_calll {S SX : Type} {post : Int64 → S → Prop} {px : SX → Prop} {B : S → State → Prop} {BX : String → SX → State → Prop} {AX : Nat → Prop} (hr : vx_Run p l e R s m args below meth c H locs cells slots mc ms (F0 m pc ls st0) rest (va_Ql post B A1 a) (vx_X px BX AX) free) (hS : va_S A0 H0 H locs) (hA : ∀ q, q < H.size → A1 q → A0 q) (hf : ∀ q, free q → A0 q) (hAX : ∀ q, q < H.size → AX q → A0 q)
    (kx : ∀ (E : String) (ce : Cell) (q9 : Addr) (u : SX) (t : State) (H1 : Heap) (locs1 : List Loc), t.heap = H1 → s.vm.Alike t.vm → px u → BX E u t → H.size ≤ H1.size → (∀ q : Nat, q < H.size → ¬ AX q → H1[q]? = H[q]?) → va_S A0 H0 H1 locs1 → H1[q9]? = some ce → ce.vm = .none → s.vm.findClass E = some ce.cls → vx_W p l e R s m args below meth c H1 locs1 (cells + mc) (slots + ms) Q (F0 m pc ls rest) q9)
    (kk : ∀ (r : Int64) (u : S) (t : State) (H1 : Heap) (locs1 : List Loc), t.heap = H1 → s.vm.Alike t.vm → post r u → B u t → H.size ≤ H1.size → (∀ q : Nat, q < H.size → ¬ A1 q → H1[q]? = H[q]?) → va_S A0 H0 H1 locs1 → W p l e R s m args below meth c H1 locs1 (cells + mc) (slots + ms) Q (F0 m (pc + 3) ls (.long r :: rest))) : W p l e R s m args below meth c H locs cells slots Q (F0 m pc ls st0) := by
  intro T hT X
  rcases hr T hT X with ⟨v, st₀, t, T', L, h0, X', hL, e1, e2, ⟨⟨r, u, hv, hp, hb⟩, hF⟩, st⟩ | ⟨q, st₀, t, T', L, E, ce, h0, X', hL, e1, e2, ⟨u, hp, hb, hF⟩, hce, hcv, hcl, st⟩
  · cases hv
    obtain ⟨k1, k2, k3⟩ := vx_keep h0 e1 hS hA hf hL hF
    obtain ⟨t2, a1, b1⟩ := kk r u t T'.heap (locs ++ L) e1.symm (by rw [← e2]; exact X'.warmed.alike) hp hb k1 k2 k3 T' rfl X'
    exact ⟨t2, st t2 a1, b1⟩
  · obtain ⟨k1, k2, k3⟩ := vx_keep h0 e1 hS hAX hf hL hF
    obtain ⟨t2, a1, b1⟩ := kx E ce q u t T'.heap (locs ++ L) e1.symm (by rw [← e2]; exact X'.warmed.alike) hp hb k1 k2 k3 (by rw [e1]; exact hce) hcv hcl T' rfl X'
    exact ⟨t2, st.trans a1, b1⟩
theorem vx_callf {S SX : Type} {post : UInt32 → S → Prop} {px : SX → Prop} {B : S → State → Prop} {BX : String → SX → State → Prop} {AX : Nat → Prop} (hr : vx_Run p l e R s m args below meth c H locs cells slots mc ms (F0 m pc ls st0) rest (va_Qf post B A1 a) (vx_X px BX AX) free) (hS : va_S A0 H0 H locs) (hA : ∀ q, q < H.size → A1 q → A0 q) (hf : ∀ q, free q → A0 q) (hAX : ∀ q, q < H.size → AX q → A0 q)
    (kx : ∀ (E : String) (ce : Cell) (q9 : Addr) (u : SX) (t : State) (H1 : Heap) (locs1 : List Loc), t.heap = H1 → s.vm.Alike t.vm → px u → BX E u t → H.size ≤ H1.size → (∀ q : Nat, q < H.size → ¬ AX q → H1[q]? = H[q]?) → va_S A0 H0 H1 locs1 → H1[q9]? = some ce → ce.vm = .none → s.vm.findClass E = some ce.cls → vx_W p l e R s m args below meth c H1 locs1 (cells + mc) (slots + ms) Q (F0 m pc ls rest) q9)
    (kk : ∀ (r : UInt32) (u : S) (t : State) (H1 : Heap) (locs1 : List Loc), t.heap = H1 → s.vm.Alike t.vm → post r u → B u t → H.size ≤ H1.size → (∀ q : Nat, q < H.size → ¬ A1 q → H1[q]? = H[q]?) → va_S A0 H0 H1 locs1 → W p l e R s m args below meth c H1 locs1 (cells + mc) (slots + ms) Q (F0 m (pc + 3) ls (.float r :: rest))) : W p l e R s m args below meth c H locs cells slots Q (F0 m pc ls st0) := by
  intro T hT X
  rcases hr T hT X with ⟨v, st₀, t, T', L, h0, X', hL, e1, e2, ⟨⟨r, u, hv, hp, hb⟩, hF⟩, st⟩ | ⟨q, st₀, t, T', L, E, ce, h0, X', hL, e1, e2, ⟨u, hp, hb, hF⟩, hce, hcv, hcl, st⟩
  · cases hv
    obtain ⟨k1, k2, k3⟩ := vx_keep h0 e1 hS hA hf hL hF
    obtain ⟨t2, a1, b1⟩ := kk r u t T'.heap (locs ++ L) e1.symm (by rw [← e2]; exact X'.warmed.alike) hp hb k1 k2 k3 T' rfl X'
    exact ⟨t2, st t2 a1, b1⟩
  · obtain ⟨k1, k2, k3⟩ := vx_keep h0 e1 hS hAX hf hL hF
    obtain ⟨t2, a1, b1⟩ := kx E ce q u t T'.heap (locs ++ L) e1.symm (by rw [← e2]; exact X'.warmed.alike) hp hb k1 k2 k3 (by rw [e1]; exact hce) hcv hcl T' rfl X'
    exact ⟨t2, st.trans a1, b1⟩
theorem vx_calld {S SX : Type} {post : UInt64 → S → Prop} {px : SX → Prop} {B : S → State → Prop} {BX : String → SX → State → Prop} {AX : Nat → Prop} (hr : vx_Run p l e R s m args below meth c H locs cells slots mc ms (F0 m pc ls st0) rest (va_Qd post B A1 a) (vx_X px BX AX) free) (hS : va_S A0 H0 H locs) (hA : ∀ q, q < H.size → A1 q → A0 q) (hf : ∀ q, free q → A0 q) (hAX : ∀ q, q < H.size → AX q → A0 q)
    (kx : ∀ (E : String) (ce : Cell) (q9 : Addr) (u : SX) (t : State) (H1 : Heap) (locs1 : List Loc), t.heap = H1 → s.vm.Alike t.vm → px u → BX E u t → H.size ≤ H1.size → (∀ q : Nat, q < H.size → ¬ AX q → H1[q]? = H[q]?) → va_S A0 H0 H1 locs1 → H1[q9]? = some ce → ce.vm = .none → s.vm.findClass E = some ce.cls → vx_W p l e R s m args below meth c H1 locs1 (cells + mc) (slots + ms) Q (F0 m pc ls rest) q9)
    (kk : ∀ (r : UInt64) (u : S) (t : State) (H1 : Heap) (locs1 : List Loc), t.heap = H1 → s.vm.Alike t.vm → post r u → B u t → H.size ≤ H1.size → (∀ q : Nat, q < H.size → ¬ A1 q → H1[q]? = H[q]?) → va_S A0 H0 H1 locs1 → W p l e R s m args below meth c H1 locs1 (cells + mc) (slots + ms) Q (F0 m (pc + 3) ls (.double r :: rest))) : W p l e R s m args below meth c H locs cells slots Q (F0 m pc ls st0) := by
  intro T hT X
  rcases hr T hT X with ⟨v, st₀, t, T', L, h0, X', hL, e1, e2, ⟨⟨r, u, hv, hp, hb⟩, hF⟩, st⟩ | ⟨q, st₀, t, T', L, E, ce, h0, X', hL, e1, e2, ⟨u, hp, hb, hF⟩, hce, hcv, hcl, st⟩
  · cases hv
    obtain ⟨k1, k2, k3⟩ := vx_keep h0 e1 hS hA hf hL hF
    obtain ⟨t2, a1, b1⟩ := kk r u t T'.heap (locs ++ L) e1.symm (by rw [← e2]; exact X'.warmed.alike) hp hb k1 k2 k3 T' rfl X'
    exact ⟨t2, st t2 a1, b1⟩
  · obtain ⟨k1, k2, k3⟩ := vx_keep h0 e1 hS hAX hf hL hF
    obtain ⟨t2, a1, b1⟩ := kx E ce q u t T'.heap (locs ++ L) e1.symm (by rw [← e2]; exact X'.warmed.alike) hp hb k1 k2 k3 (by rw [e1]; exact hce) hcv hcl T' rfl X'
    exact ⟨t2, st.trans a1, b1⟩
theorem vx_callv {S SX : Type} {post : S → Prop} {px : SX → Prop} {B : S → State → Prop} {BX : String → SX → State → Prop} {AX : Nat → Prop} (hr : vx_Run p l e R s m args below meth c H locs cells slots mc ms (F0 m pc ls st0) rest (va_Qv post B A1 a) (vx_X px BX AX) free) (hS : va_S A0 H0 H locs) (hA : ∀ q, q < H.size → A1 q → A0 q) (hf : ∀ q, free q → A0 q) (hAX : ∀ q, q < H.size → AX q → A0 q)
    (kx : ∀ (E : String) (ce : Cell) (q9 : Addr) (u : SX) (t : State) (H1 : Heap) (locs1 : List Loc), t.heap = H1 → s.vm.Alike t.vm → px u → BX E u t → H.size ≤ H1.size → (∀ q : Nat, q < H.size → ¬ AX q → H1[q]? = H[q]?) → va_S A0 H0 H1 locs1 → H1[q9]? = some ce → ce.vm = .none → s.vm.findClass E = some ce.cls → vx_W p l e R s m args below meth c H1 locs1 (cells + mc) (slots + ms) Q (F0 m pc ls rest) q9)
    (kk : ∀ (u : S) (t : State) (H1 : Heap) (locs1 : List Loc), t.heap = H1 → s.vm.Alike t.vm → post u → B u t → H.size ≤ H1.size → (∀ q : Nat, q < H.size → ¬ A1 q → H1[q]? = H[q]?) → va_S A0 H0 H1 locs1 → W p l e R s m args below meth c H1 locs1 (cells + mc) (slots + ms) Q (F0 m (pc + 3) ls (rest))) : W p l e R s m args below meth c H locs cells slots Q (F0 m pc ls st0) := by
  intro T hT X
  rcases hr T hT X with ⟨v, st₀, t, T', L, h0, X', hL, e1, e2, ⟨⟨u, hv, hp, hb⟩, hF⟩, st⟩ | ⟨q, st₀, t, T', L, E, ce, h0, X', hL, e1, e2, ⟨u, hp, hb, hF⟩, hce, hcv, hcl, st⟩
  · cases hv
    obtain ⟨k1, k2, k3⟩ := vx_keep h0 e1 hS hA hf hL hF
    obtain ⟨t2, a1, b1⟩ := kk u t T'.heap (locs ++ L) e1.symm (by rw [← e2]; exact X'.warmed.alike) hp hb k1 k2 k3 T' rfl X'
    exact ⟨t2, st t2 a1, b1⟩
  · obtain ⟨k1, k2, k3⟩ := vx_keep h0 e1 hS hAX hf hL hF
    obtain ⟨t2, a1, b1⟩ := kx E ce q u t T'.heap (locs ++ L) e1.symm (by rw [← e2]; exact X'.warmed.alike) hp hb k1 k2 k3 (by rw [e1]; exact hce) hcv hcl T' rfl X'
    exact ⟨t2, st.trans a1, b1⟩
/-- caught by the row x of this method's table; the rows ahead don't take it -/
theorem vx_catch {own name : String} {E : String} {ce : Cell} {q : Addr} (hown : s.vm.findClass own = some m.cls) (pre : List ExceptionTableEntry) (x : ExceptionTableEntry) (suf : List ExceptionTableEntry) (hsplit : c.exceptionTable.toList = pre ++ x :: suf)
    (hpass : ∀ z ∈ pre, covers z pc = false ∨ (z.catchType ≠ 0 ∧ ∃ nm : String, (Cond.classLink own z.catchType nm).before args s = true ∧ va_Nc E nm s)) (hx : covers x pc = true) (h0 : x.catchType ≠ 0)
    (hlink : (Cond.classLink own x.catchType name).before args s = true) (hcast : (Cond.castable E name).before args s = true) (hcell : H[q]? = some ce) (hv : ce.vm = .none) (hcl : s.vm.findClass E = some ce.cls)
    (kk : W p l e R s m args below meth c H locs cells slots Q (F0 m x.handlerPc ls [.ref q])) : vx_W p l e R s m args below meth c H locs cells slots Q (F0 m pc ls rest) q := by
  intro T hT X
  have hpl : e.platform.magicAccessors = ({} : Platform).magicAccessors := by rw [X.admits.platform]
  obtain ⟨c3, c4, hc3, hc4, hasg⟩ := Cond.castable_spec hcast
  cases Option.some.inj (hc3.symm.trans hcl)
  obtain ⟨c5, hc5, hcl5⟩ := Cond.classLink_spec hown hlink e.platform hpl
  cases Option.some.inj (hc4.symm.trans hc5)
  obtain ⟨vm', X', st⟩ := X.thenCaughtThrough q (g := F0 m pc ls rest) rfl (Steps.refl _) (by rw [hT]; exact hcell) (by rw [hv]; rfl) (by obtain ⟨k9, h9, -⟩ := Vm.findClass_spec hcl; exact ⟨k9, h9⟩) pre x suf hsplit
    (fun z hz => by
      rcases hpass z hz with h | ⟨hz0, nm, hl1, hn1⟩
      · exact Or.inl h
      · obtain ⟨c6, hc6, hcl6⟩ := Cond.classLink_spec hown hl1 e.platform hpl
        obtain ⟨a8, b8, h1, h2, h3⟩ := hn1
        cases Option.some.inj (h1.symm.trans hcl)
        cases Option.some.inj (h2.symm.trans hc6)
        exact Or.inr ⟨hz0, _, hcl6, h3⟩) hx (Or.inr ⟨h0, c4, hcl5, hasg⟩)
  obtain ⟨t, a1, b1⟩ := kk (T.setVm vm') hT X'
  exact ⟨t, st.trans a1, b1⟩
end Rows
section Ends
variable {p : Program} {l : Launch} {e : Env} {R : Room} {s : State} {m : MethodId} {args : Array Value} {below : List Frame} {meth : Method} {c : Code} {H : Heap} {locs : List Loc} {cells slots : Nat} {Q : State → Prop}
variable {mc ms : Nat} {free : Addr → Prop} {A0 A1 : Nat → Prop} {H0 : Heap} {a : Array Value} {ls : Array Slot} {st0 rest : List Value}
variable {Qc : Array Value → State → Outcome → State → Prop} {XC : String → State → State → Prop}
/-- what a body that may throw owes at its end -/
def vx_MQ (below : List Frame) (Qc : Array Value → State → Outcome → State → Prop) (XC : String → State → State → Prop) (a : Array Value) (s : State) (mc ms : Nat) (free : Addr → Prop) : State → Prop := fun t =>
  ∃ o, t.status = .running ∧ Ended t below o ∧ vx_Q Qc XC mc ms free a s o t
theorem vx_ret {g : JFrame} {mc ms : Nat} (k : W p l e R s m args below meth c H locs cells slots (MQ below Qc args s mc ms free) g) : W p l e R s m args below meth c H locs cells slots (vx_MQ below Qc XC args s mc ms free) g := by
  intro T hT X
  obtain ⟨t, a1, o, b1, b2, b3, b4⟩ := k T hT X
  exact ⟨t, a1, o, b1, b2, Or.inl ⟨b3, b4⟩⟩
/-- not caught here: it goes on to the caller -/
theorem vx_widen {g : JFrame} {q : Addr} {k n : Nat} (h1 : cells ≤ k) (h2 : slots ≤ n) (kk : vx_W p l e R s m args below meth c H locs k n Q g q) : vx_W p l e R s m args below meth c H locs cells slots Q g q := fun T hT X => kk T hT (stand_widen X h1 h2)
theorem vx_out {pc : Nat} {E : String} {ce : Cell} {q : Addr} {mc ms : Nat} (hout : ∀ x ∈ c.exceptionTable.toList, covers x pc = false) (hlocks : meth.locks = false) (hcell : H[q]? = some ce) (hv : ce.vm = .none) (hcl : s.vm.findClass E = some ce.cls)
    (hx : ∀ t : State, t.heap = H → s.vm.Alike t.vm → XC E s t) (hf : ∀ z ∈ locs, free z.base) (hc : cells ≤ mc) (hs : slots ≤ ms) :
    vx_W p l e R s m args below meth c H locs cells slots (vx_MQ below Qc XC args s mc ms free) (F0 m pc ls rest) q := by
  intro T hT X
  obtain ⟨st1, hrun, hend, hW, hsm⟩ := X.leaveThrown q (g := F0 m pc ls rest) rfl rfl rfl hout hlocks
  have hcell9 : (T.setFrames (.throwing q :: below)).heap[q]? = some ce := by
    show T.heap[q]? = some ce
    rw [hT]; exact hcell
  exact ⟨_, st1, .threw q, hrun, hend, Or.inr ⟨q, rfl, E, ce, locs, hx _ hT hW.alike, hcell9, hv, hcl, hW, hsm.mono hc hs, hf⟩⟩
theorem vx_frame {U : State} {k n : Nat} (h : s.sameButNew ({ U with vm := s.vm } : State) locs k n) : s.heap.size ≤ U.heap.size ∧ ∀ q : Nat, q < s.heap.size → (∀ z ∈ locs, z.base ≠ q) → U.heap[q]? = s.heap[q]? := by
  obtain ⟨-, h2, -, -, -, h6⟩ := h
  refine ⟨h2, fun q hq hz => ?_⟩
  obtain ⟨c9, e1, e2, e3, e4⟩ := h6 q _ (Array.getElem?_eq_getElem hq)
  have hs : c9.slots = (s.heap[q]).slots := Array.ext_getElem? fun i => e4 i fun hm => hz _ hm rfl
  have h9 : c9 = s.heap[q] := by
    rw [hs] at e2
    exact e2
  have e5 : U.heap[q]? = some c9 := e1
  rw [e5, h9, Array.getElem?_eq_getElem hq]
/-- the words of a throw but the four that speak of the heap -/
def vx_no (w : Cond) : Bool := decide (w ≠ .isRef (.static Bundle.tN "UNASSIGNED_STACK" Bundle.steD)) && decide (w ≠ .isRef (.static Bundle.tN "SUPPRESSED_SENTINEL" Bundle.listD)) && decide (w ≠ .laysStatic Bundle.tN "UNASSIGNED_STACK" Bundle.steD) && decide (w ≠ .laysStatic Bundle.tN "SUPPRESSED_SENTINEL" Bundle.listD)
def vx_at0 (own : String) (ic : Nat) (X : String) (names : List String) : List Cond := (Bundle.ownAtoms0 own ic X names).filter vx_no
def vx_atS (own : String) (ic : Nat) (X : String) (names : List String) : List Cond := (Bundle.ownAtoms own ic X names).filter vx_no
/-- a word that the tables alone decide, or a good one -/
def vx_ot (w : Cond) : Bool := w.onTables || goodWord w
theorem vx_ot_at {args a' : Array Value} {s U : State} {w : Cond} (hW : s.WarmedH U.vm) (hvm : s.vm = U.vm) (hg : vx_ot w = true) (h : w.before args s = true) : w.before a' U = true := by
  simp only [vx_ot, Bool.or_eq_true] at hg
  rcases hg with hg | hg
  · exact va_tabs hg hvm h
  · exact word_at hW (good_of_word hg) h
/-- a list's words: the good ones out of the method's own list, the others by premises of their own -/
theorem vx_hat {args : Array Value} {s : State} {L B : List Cond} (h1 : ∀ w ∈ L.filter goodWord, w.before args s = true) (h2 : ∀ w ∈ L.filter (fun w => !goodWord w), w ∈ B) (h3 : ∀ w ∈ B, w.before args s = true) : ∀ w ∈ L, w.before args s = true := by
  intro w hw
  by_cases g : goodWord w = true
  · exact h1 w (List.mem_filter.mpr ⟨hw, g⟩)
  · refine h3 w (h2 w (List.mem_filter.mpr ⟨hw, ?_⟩))
    show (!goodWord w) = true
    cases hgw : goodWord w
    · rfl
    · exact absurd hgw g
theorem vx_c {args : Array Value} {s : State} {w : Cond} {B : List Cond} (h : w.before args s = true) (t : ∀ w ∈ B, w.before args s = true) : ∀ w' ∈ w :: B, w'.before args s = true := fun w' h' => (List.mem_cons.mp h').elim (fun e => by rw [e]; exact h) (t w')
theorem vx_n {args : Array Value} {s : State} : ∀ w ∈ ([] : List Cond), w.before args s = true := fun _ h => nomatch h
theorem vx_own {args : Array Value} {s : State} {L : List Cond} (h1 : ∀ w ∈ L.filter vx_no, w.before args s = true)
    (hU : (Cond.isRef (.static Bundle.tN "UNASSIGNED_STACK" Bundle.steD)).before args s = true) (hN : (Cond.isRef (.static Bundle.tN "SUPPRESSED_SENTINEL" Bundle.listD)).before args s = true)
    (lU : (Cond.laysStatic Bundle.tN "UNASSIGNED_STACK" Bundle.steD).before args s = true) (lN : (Cond.laysStatic Bundle.tN "SUPPRESSED_SENTINEL" Bundle.listD).before args s = true) : ∀ w ∈ L, w.before args s = true := by
  intro w hw
  by_cases e1 : w = .isRef (.static Bundle.tN "UNASSIGNED_STACK" Bundle.steD)
  · rw [e1]; exact hU
  · by_cases e2 : w = .isRef (.static Bundle.tN "SUPPRESSED_SENTINEL" Bundle.listD)
    · rw [e2]; exact hN
    · by_cases e3 : w = .laysStatic Bundle.tN "UNASSIGNED_STACK" Bundle.steD
      · rw [e3]; exact lU
      · by_cases e4 : w = .laysStatic Bundle.tN "SUPPRESSED_SENTINEL" Bundle.listD
        · rw [e4]; exact lN
        · exact h1 w (List.mem_filter.mpr ⟨hw, by unfold vx_no; rw [decide_eq_true e1, decide_eq_true e2, decide_eq_true e3, decide_eq_true e4]; rfl⟩)
/-- where a static field lies, its class's statics cell in H -/
def vx_L (C n d : String) (A : Nat → Prop) (U : State) (H : Heap) : Prop := ∃ (c : ClassId) (k : Class) (i : Nat) (f : Field) (a : Nat) (cell : Cell), U.vm.findClass C = some c ∧ U.fieldFound? C n d = some (c, k, i, f) ∧ f.isStatic = true ∧ k.statics = some a ∧ H[a]? = some cell ∧ cell.vm.isStatics = true ∧ cell.cls = c ∧ f.slot < cell.slots.size ∧ k.staticTypes[f.slot]? = some f.type ∧ ¬ A a
theorem vx_L.moved {C n d : String} {A : Nat → Prop} {u U : State} {H : Heap} (hvm : u.vm.Alike U.vm) (h : vx_L C n d A u H) : vx_L C n d A U H := by
  obtain ⟨c, k, i, f, a, cell, h1, h2, h3, h4, h5, h6, h7, h8, h9, h10⟩ := h
  obtain ⟨k', hi', he⟩ := State.fieldFound?_setVm hvm h2
  exact ⟨c, k', i, f, a, cell, by rw [hvm.findClass]; exact h1, hi', h3, by rw [he]; exact h4, h5, h6, h7, h8, by rw [he]; exact h9, h10⟩
theorem vx_L.kept {C n d : String} {A : Nat → Prop} {U : State} {H H1 : Heap} (h : vx_L C n d A U H) (hq : ∀ a : Nat, a < H.size → ¬ A a → H1[a]? = H[a]?) : vx_L C n d A U H1 := by
  obtain ⟨c, k, i, f, a, cell, h1, h2, h3, h4, h5, h6, h7, h8, h9, h10⟩ := h
  exact ⟨c, k, i, f, a, cell, h1, h2, h3, h4, by rw [hq a (Array.getElem?_eq_some_iff.mp h5).1 h10]; exact h5, h6, h7, h8, h9, h10⟩
theorem vx_L.narrow {C n d : String} {A B : Nat → Prop} {U : State} {H : Heap} (h : vx_L C n d A U H) (hAB : ∀ q, B q → A q) : vx_L C n d B U H := by
  obtain ⟨c, k, i, f, a, cell, h1, h2, h3, h4, h5, h6, h7, h8, h9, h10⟩ := h
  exact ⟨c, k, i, f, a, cell, h1, h2, h3, h4, h5, h6, h7, h8, h9, fun z => h10 (hAB _ z)⟩
theorem vx_L.word {C n d : String} {A : Nat → Prop} {s : State} {args : Array Value} (h : vx_L C n d A s s.heap) : (Cond.laysStatic C n d).before args s = true := by
  obtain ⟨c, k, i, f, a, cell, h1, h2, h3, h4, h5, h6, h7, h8, h9, -⟩ := h
  show (Cond.laysStatic C n d).holds args s none s [] = true
  exact Cond.laysStatic_of h1 h2 h3 h4 h5 h6 h7 h8 h9
/-- .. and what it holds: null or some reference -/
def vx_Zq (C n d : String) (A : Nat → Prop) (U : State) (H : Heap) : Prop := va_Zq C n d A U H ∧ vx_L C n d A U H
theorem vx_Zq.moved {C n d : String} {A : Nat → Prop} {u U : State} {H : Heap} (hvm : u.vm.Alike U.vm) (h : vx_Zq C n d A u H) : vx_Zq C n d A U H := ⟨va_Zq.moved hvm h.1, vx_L.moved hvm h.2⟩
theorem vx_Zq.kept {C n d : String} {A : Nat → Prop} {U : State} {H H1 : Heap} (h : vx_Zq C n d A U H) (hq : ∀ a : Nat, a < H.size → ¬ A a → H1[a]? = H[a]?) : vx_Zq C n d A U H1 := ⟨va_Zq.kept h.1 hq, vx_L.kept h.2 hq⟩
theorem vx_Zq.narrow {C n d : String} {A B : Nat → Prop} {U : State} {H : Heap} (h : vx_Zq C n d A U H) (hAB : ∀ q, B q → A q) : vx_Zq C n d B U H := ⟨va_Zq.narrow h.1 hAB, vx_L.narrow h.2 hAB⟩
theorem vx_Zqof {args : Array Value} {s : State} {C n d : String} {A : Nat → Prop} (hl : (Cond.laysStatic C n d).before args s = true) (hini : (Cond.initialized C).before args s = true) (h : (Cond.isRef (.static C n d)).before args s = true) (hA : ∀ a : Nat, a < s.heap.size → ¬ A a) : vx_Zq C n d A s s.heap := by
  refine ⟨va_Zqof hl hini h hA, ?_⟩
  obtain ⟨c, k, i, f, a, cell, h1, h2, h3, h4, h5, h6, h7, h8, h9⟩ := Cond.laysStatic_spec hl
  exact ⟨c, k, i, f, a, cell, h1, h2, h3, h4, h5, h6, h7, h8, h9, hA a (Array.getElem?_eq_some_iff.mp h5).1⟩
theorem vx_isRef {C n d : String} {v : Value} {A : Nat → Prop} {s : State} {args : Array Value} (h : va_Z C n d v A s s.heap) (hv : v.isRef = true) : (Cond.isRef (.static C n d)).before args s = true := by
  obtain ⟨cf, kf, fi, f, a, cell, h1, h2, h3, h4, h5, h6, h7, -⟩ := h
  have he : (Term.static C n d).eval args s none [] s = some v := by
    simp [Term.eval, State.fieldNamed?, h1, h2, h4, h5, h6, h7]
  simp only [Cond.before, Cond.holds, Cond.value, he]
  cases v <;> simp_all [Value.isRef]
theorem vx_isRefq {C n d : String} {A : Nat → Prop} {s : State} {args : Array Value} (h : va_Zq C n d A s s.heap) : (Cond.isRef (.static C n d)).before args s = true := by
  rcases h with h | ⟨t, h⟩
  · exact vx_isRef h rfl
  · exact vx_isRef h rfl
/-- the same frame, seen from here: as if the method were called anew in this heap -/
theorem vx_rebase {T : State} (X : Stand p l e R s m args below meth c T locs cells slots) {R' : Room} (hf : R'.frames ≤ R.frames) (hl : R'.locals ≤ R.locals) (hc : cells + R'.cells ≤ R.cells) (hs : slots + R'.slots ≤ R.slots) :
    Stand p l e R' ((T.setVm s.vm).setFrames (.invoking m args :: below)) m args below meth c T [] 0 0 := by
  have htop : (T.setVm s.vm).topJava?.isSome := X.here.top
  have hF : ((T.setVm s.vm).setFrames (.invoking m args :: below)).frames = .invoking m args :: below := State.frames_setFrames _ (State.cur_lt_of_top htop)
  obtain ⟨g₀, hg0⟩ := Option.isSome_iff_exists.mp htop
  obtain ⟨r, hr⟩ := State.topJava?_eq_some.mp hg0
  have hl9 : e.platform.stackLimits (T.setVm s.vm).me = e.platform.stackLimits s.me := X.limits
  have hb9 : (T.setVm s.vm).me.stackBytes = s.me.stackBytes := X.bytes
  refine ⟨X.admits, X.cas, X.clock, hF, ?_, X.hears, X.method, X.code, X.here, X.tail, X.warmed, ?_, ?_, ?_⟩
  · have h := X.room
    have hU : ((T.setVm s.vm).setFrames (.invoking m args :: below)).localsInUse = s.localsInUse := by
      rw [State.localsInUse_invoking hF (meth := meth) (c := c) X.method X.code, State.localsInUse_invoking X.frames X.method X.code]
    simp only [State.hasRoom, Bool.and_eq_true, decide_eq_true_eq] at h ⊢
    obtain ⟨⟨⟨⟨h1, h2, h3, h4, h5, h6⟩, h7⟩, h8⟩, h9⟩ := h
    rw [X.frames, List.length_cons] at h2 h3
    have q1 := X.heapSize
    have q2 := X.used
    simp only [hF, hU, List.length_cons, State.stackLimits_setFrames, State.stackBytes_setFrames, hl9, hb9]
    refine ⟨⟨⟨⟨by omega, by omega, by omega, by omega, by omega, h6⟩, ?_⟩, ?_⟩, X.book⟩
    · show T.heap.size + R'.cells ≤ e.platform.maxCells
      omega
    · show T.slotsUsed + R'.slots ≤ e.platform.maxSlots
      omega
  · rw [State.stackLimits_setFrames]; rfl
  · rw [State.stackBytes_setFrames]; rfl
  · refine ⟨?_, Nat.le_refl _, Nat.le_refl _, ?_, ?_, fun a c9 h9 => ⟨c9, h9, rfl, rfl, fun _ _ => rfl⟩⟩
    · obtain ⟨t, ht, -⟩ := State.frames_cons hr
      show T.setVm s.vm = { ((T.setVm s.vm).setFrames (.invoking m args :: below)).setFrames (T.setVm s.vm).frames with heap := T.heap, slotsUsed := T.slotsUsed }
      rw [State.setFrames_setFrames, State.setFrames_self ht]
      rfl
    · show T.slotsUsed = T.slotsUsed + ((T.heap.toList.drop T.heap.size).map (·.slots.size)).sum
      rw [List.drop_eq_nil_of_le (Nat.le_of_eq Array.length_toList)]
      rfl
    · show ((T.heap.toList.drop T.heap.size).map (·.slots.size)).sum ≤ 0
      rw [List.drop_eq_nil_of_le (Nat.le_of_eq Array.length_toList)]
      exact Nat.le_refl _
/-- 'throw new E()': new; dup; invokespecial; athrow -/
theorem vx_throw0 {cc : ByteArray} {pc : Nat} (hexec : p.tables.exec = Jvm.exec) (hb : c.code = cc) (hl : l.stackTraces = false) {own cls : String} {names : List String} {ik ic mc ms : Nat} {A : Nat → Prop}
    (hown : s.vm.findClass own = some m.cls) (hcls : Bundle.fit cls = true) (hnames : ∀ n ∈ names, Bundle.fit n = true)
    (hk : (Cond.classLink own ik cls).before args s = true) (hini : (Cond.initialized cls).before args s = true) (hat : ∀ w ∈ vx_at0 own ic cls names, w.before args s = true)
    (hgood : ∀ w ∈ Cond.classLink own ik cls :: Cond.initialized cls :: vx_at0 own ic cls names, vx_ot w = true)
    (hU : vx_Zq Bundle.tN "UNASSIGNED_STACK" Bundle.steD A s s.heap) (hN : vx_Zq Bundle.tN "SUPPRESSED_SENTINEL" Bundle.listD A s s.heap) (hS : va_S A s.heap H locs) (hsize : ls.size = c.maxLocals)
    (d0 : decode cc pc = .ok (.new ik, 3)) (d3 : decode cc (pc + 3) = .ok (.dup, 1)) (d4 : decode cc (pc + 4) = .ok (.invokespecial ic, 3)) (d7 : decode cc (pc + 7) = .ok (.athrow, 1))
    (hout : ∀ x ∈ c.exceptionTable.toList, covers x (pc + 7) = false)
    (hRframes : names.length + 3 < R.frames) (hRlocals : (rest.map fun v => v.category).sum + (13 * (names.length + 1) + 42) ≤ R.locals) (hRcells : cells + 1 ≤ R.cells) (hRslots : slots + 6 ≤ R.slots) (hlocks : meth.locks = false)
    (hx : ∀ t : State, s.vm.Alike t.vm → H.size ≤ t.heap.size → (∀ q : Nat, q < H.size → t.heap[q]? = H[q]?) → XC cls s t)
    (hf : ∀ z ∈ locs, free z.base) (hc : cells + 1 ≤ mc) (hs : slots + 6 ≤ ms) :
    W p l e R s m args below meth c H locs cells slots (vx_MQ below Qc XC args s mc ms free) (F0 m pc ls rest) := by
  intro T hT X
  have htr : e.platform.stackTraces = false := (show e.platform.stackTraces = l.stackTraces by rw [X.admits.platform]).trans hl
  have Y := vx_rebase X (R' := { frames := R.frames, locals := R.locals, cells := 1, slots := 6 }) (Nat.le_refl _) (Nat.le_refl _) hRcells hRslots
  obtain ⟨s', hA⟩ : ∃ z, z = (T.setVm s.vm).setFrames (.invoking m args :: below) := ⟨_, rfl⟩
  rw [← hA] at Y
  have hvm : s'.vm = s.vm := by rw [hA]; rfl
  have hhp : s'.heap = H := by rw [hA]; exact hT
  have hW0 : s.WarmedH s'.vm := by rw [hvm]; exact State.WarmedH.refl s
  have hat' : ∀ w ∈ vx_at0 own ic cls names, w.before args s' = true := fun w hw => vx_ot_at hW0 hvm.symm (hgood w (List.mem_cons_of_mem _ (List.mem_cons_of_mem _ hw))) (hat w hw)
  have hk' : (Cond.classLink own ik cls).before args s' = true := vx_ot_at hW0 hvm.symm (hgood _ List.mem_cons_self) hk
  have hini' : (Cond.initialized cls).before args s' = true := vx_ot_at hW0 hvm.symm (hgood _ (List.mem_cons_of_mem _ List.mem_cons_self)) hini
  have hU' : vx_Zq Bundle.tN "UNASSIGNED_STACK" Bundle.steD A s' s'.heap := by rw [hhp]; exact vx_Zq.moved hW0.alike (hU.kept hS.2.1)
  have hN' : vx_Zq Bundle.tN "SUPPRESSED_SENTINEL" Bundle.listD A s' s'.heap := by rw [hhp]; exact vx_Zq.moved hW0.alike (hN.kept hS.2.1)
  have h : ∀ w ∈ Bundle.ownAtoms0 own ic cls names, w.before args s' = true := vx_own hat' (vx_isRefq hU'.1) (vx_isRefq hN'.1) hU'.2.word hN'.2.word
  have hown' : s'.vm.findClass own = some m.cls := by rw [hvm]; exact hown
  have hins : (Cond.instantiable cls 6).before args s' = true := h _ (by simp [Bundle.ownAtoms0])
  obtain ⟨vm₁, cX, kX, hfX, hkX, -, -, X₁, st1⟩ := Y.newCold hexec (own := own) (C := cls) (index := ik) (n := 6) hown' hk' hins hini'
    (g := F0 m pc ls rest) rfl (by rw [hb]; exact d0) (Nat.le_refl _) (Nat.le_refl _)
  generalize hT1 : (T.setVm vm₁).pushCell { cls := cX, slots := kX.instanceTypes.map defaultValue, vm := .none } = T1 at X₁ st1
  have hcat : (Value.ref T.heap.size).category = 1 := rfl
  have hcellA : T1.heap[T.heap.size]? = some (freshCell cX kX) := by rw [← hT1]; exact State.heap_pushCell_size _ _
  have d3' : decode c.code (pc + 3) = .ok (.dup, 1) := by rw [hb]; exact d3
  obtain ⟨U, hsteps, hrun, hend, hW, hsame, ce, hce, hO⟩ := X₁.ctorThrow0 hexec htr (own := own) (cls := cls) (names := names) (ic := ic) hown' hcls hnames h (fun x hx => nomatch hx) hfX hkX hcellA (by rw [hhp, hT]; exact Nat.le_refl _)
    (g := { method := m, pc := pc + 4, locals := ls, stack := .ref T.heap.size :: .ref T.heap.size :: rest, locked := none }) rfl hsize rfl rfl (rest := rest) rfl
    (by rw [hb]; exact d4) (by rw [hb]; exact d7) hout hRframes (by simp only [List.map_cons, List.sum_cons, hcat]; omega) hlocks
  obtain ⟨f1, f2⟩ := vx_frame hsame
  rw [hhp] at f1 f2
  have hWs : s.WarmedH U.vm := State.WarmedH.trans hW0 hW
  have hcl : s.vm.findClass cls = some ce.cls := by
    have h9 := hO.cls
    rw [hvm] at h9
    exact h9
  have hall : s.sameButNew ({ U with vm := s.vm } : State) locs mc ms := by
    subst hA
    obtain ⟨e1, e2⟩ := hsame
    rw [State.setFrames_setFrames] at e1
    have h2 : (T.setVm s.vm).sameButNew ({ U with vm := s.vm } : State) [] (0 + 1) (0 + 6) := ⟨e1, e2⟩
    have h3 := X.same.trans h2
    rw [List.append_nil] at h3
    exact h3.mono hc hs
  refine ⟨U, ?_, .threw T.heap.size, hrun, hend, Or.inr ⟨T.heap.size, rfl, cls, ce, locs, hx U hWs.alike f1 (fun q hq => f2 q hq (fun z hz => nomatch hz)), hce, hO.vm, hcl, hWs, hall, hf⟩⟩
  refine st1 _ ?_
  show Steps p.tables e below (T1.setTop { method := m, pc := pc + 3, locals := ls, stack := .ref T.heap.size :: rest, locked := none }) _
  jvm_step X₁.here [X₁.here.top, hexec, d3', Value.category]
  exact hsteps
/-- 'throw new E("text")': new; dup; ldc; invokespecial; athrow -/
theorem vx_throwS {cc : ByteArray} {pc : Nat} (hexec : p.tables.exec = Jvm.exec) (hb : c.code = cc) (hl : l.stackTraces = false) {own cls text : String} {names : List String} {ik is ic mc ms sa : Nat} {A : Nat → Prop}
    (hown : s.vm.findClass own = some m.cls) (hcls : Bundle.fit cls = true) (hnames : ∀ n ∈ names, Bundle.fit n = true)
    (hk : (Cond.classLink own ik cls).before args s = true) (hini : (Cond.initialized cls).before args s = true) (hstr : vk_R own is text sa s) (hat : ∀ w ∈ vx_atS own ic cls names, w.before args s = true)
    (hgood : ∀ w ∈ Cond.classLink own ik cls :: Cond.initialized cls :: vx_atS own ic cls names, vx_ot w = true)
    (hU : vx_Zq Bundle.tN "UNASSIGNED_STACK" Bundle.steD A s s.heap) (hN : vx_Zq Bundle.tN "SUPPRESSED_SENTINEL" Bundle.listD A s s.heap) (hS : va_S A s.heap H locs) (hsize : ls.size = c.maxLocals)
    (d0 : decode cc pc = .ok (.new ik, 3)) (d3 : decode cc (pc + 3) = .ok (.dup, 1)) (d4 : decode cc (pc + 4) = .ok (.ldc is, 2)) (d6 : decode cc (pc + 6) = .ok (.invokespecial ic, 3)) (d9 : decode cc (pc + 9) = .ok (.athrow, 1))
    (hout : ∀ x ∈ c.exceptionTable.toList, covers x (pc + 9) = false)
    (hRframes : names.length + 3 < R.frames) (hRlocals : (rest.map fun v => v.category).sum + (13 * (names.length + 1) + 43) ≤ R.locals) (hRcells : cells + 1 ≤ R.cells) (hRslots : slots + 6 ≤ R.slots) (hlocks : meth.locks = false)
    (hx : ∀ t : State, s.vm.Alike t.vm → H.size ≤ t.heap.size → (∀ q : Nat, q < H.size → t.heap[q]? = H[q]?) → XC cls s t)
    (hf : ∀ z ∈ locs, free z.base) (hc : cells + 1 ≤ mc) (hs : slots + 6 ≤ ms) :
    W p l e R s m args below meth c H locs cells slots (vx_MQ below Qc XC args s mc ms free) (F0 m pc ls rest) := by
  intro T hT X
  have htr : e.platform.stackTraces = false := (show e.platform.stackTraces = l.stackTraces by rw [X.admits.platform]).trans hl
  have Y := vx_rebase X (R' := { frames := R.frames, locals := R.locals, cells := 1, slots := 6 }) (Nat.le_refl _) (Nat.le_refl _) hRcells hRslots
  obtain ⟨s', hA⟩ : ∃ z, z = (T.setVm s.vm).setFrames (.invoking m args :: below) := ⟨_, rfl⟩
  rw [← hA] at Y
  have hvm : s'.vm = s.vm := by rw [hA]; rfl
  have hhp : s'.heap = H := by rw [hA]; exact hT
  have hW0 : s.WarmedH s'.vm := by rw [hvm]; exact State.WarmedH.refl s
  have hat' : ∀ w ∈ vx_atS own ic cls names, w.before args s' = true := fun w hw => vx_ot_at hW0 hvm.symm (hgood w (List.mem_cons_of_mem _ (List.mem_cons_of_mem _ hw))) (hat w hw)
  have hk' : (Cond.classLink own ik cls).before args s' = true := vx_ot_at hW0 hvm.symm (hgood _ List.mem_cons_self) hk
  have hini' : (Cond.initialized cls).before args s' = true := vx_ot_at hW0 hvm.symm (hgood _ (List.mem_cons_of_mem _ List.mem_cons_self)) hini
  have hU' : vx_Zq Bundle.tN "UNASSIGNED_STACK" Bundle.steD A s' s'.heap := by rw [hhp]; exact vx_Zq.moved hW0.alike (hU.kept hS.2.1)
  have hN' : vx_Zq Bundle.tN "SUPPRESSED_SENTINEL" Bundle.listD A s' s'.heap := by rw [hhp]; exact vx_Zq.moved hW0.alike (hN.kept hS.2.1)
  have h : ∀ w ∈ Bundle.ownAtoms own ic cls names, w.before args s' = true := vx_own hat' (vx_isRefq hU'.1) (vx_isRefq hN'.1) hU'.2.word hN'.2.word
  have hown' : s'.vm.findClass own = some m.cls := by rw [hvm]; exact hown
  have hins : (Cond.instantiable cls 6).before args s' = true := h _ (by simp [Bundle.ownAtoms])
  obtain ⟨vm₁, cX, kX, hfX, hkX, -, -, X₁, st1⟩ := Y.newCold hexec (own := own) (C := cls) (index := ik) (n := 6) hown' hk' hins hini'
    (g := F0 m pc ls rest) rfl (by rw [hb]; exact d0) (Nat.le_refl _) (Nat.le_refl _)
  generalize hT1 : (T.setVm vm₁).pushCell { cls := cX, slots := kX.instanceTypes.map defaultValue, vm := .none } = T1 at X₁ st1
  have hcat : (Value.ref T.heap.size).category = 1 := rfl
  have hcellA : T1.heap[T.heap.size]? = some (freshCell cX kX) := by rw [← hT1]; exact State.heap_pushCell_size _ _
  have d3' : decode c.code (pc + 3) = .ok (.dup, 1) := by rw [hb]; exact d3
  have d4' : decode c.code (pc + 4) = .ok (.ldc is, 2) := by rw [hb]; exact d4
  have hstr' : vk_R own is text sa s' := vk_R.warm hW0 hstr
  obtain ⟨U, hsteps, hrun, hend, hW, hsame, ce, hce, hO⟩ := X₁.ctorThrowS hexec htr (own := own) (cls := cls) (names := names) (ic := ic) hown' hcls hnames h (fun x hx => nomatch hx) hfX hkX hcellA (by rw [hhp, hT]; exact Nat.le_refl _) (msg := .ref sa) rfl
    (g := { method := m, pc := pc + 6, locals := ls, stack := .ref sa :: .ref T.heap.size :: .ref T.heap.size :: rest, locked := none }) rfl hsize rfl rfl (rest := rest) rfl
    (by rw [hb]; exact d6) (by rw [hb]; exact d9) hout hRframes (by simp only [List.map_cons, List.sum_cons, hcat]; omega) hlocks
  obtain ⟨f1, f2⟩ := vx_frame hsame
  rw [hhp] at f1 f2
  have hWs : s.WarmedH U.vm := State.WarmedH.trans hW0 hW
  have hcl : s.vm.findClass cls = some ce.cls := by
    have h9 := hO.cls
    rw [hvm] at h9
    exact h9
  have hall : s.sameButNew ({ U with vm := s.vm } : State) locs mc ms := by
    subst hA
    obtain ⟨e1, e2⟩ := hsame
    rw [State.setFrames_setFrames] at e1
    have h2 : (T.setVm s.vm).sameButNew ({ U with vm := s.vm } : State) [] (0 + 1) (0 + 6) := ⟨e1, e2⟩
    have h3 := X.same.trans h2
    rw [List.append_nil] at h3
    exact h3.mono hc hs
  refine ⟨U, ?_, .threw T.heap.size, hrun, hend, Or.inr ⟨T.heap.size, rfl, cls, ce, locs, hx U hWs.alike f1 (fun q hq => f2 q hq (fun z hz => nomatch hz)), hce, hO.vm, hcl, hWs, hall, hf⟩⟩
  refine st1 _ ?_
  show Steps p.tables e below (T1.setTop { method := m, pc := pc + 3, locals := ls, stack := .ref T.heap.size :: rest, locked := none }) _
  jvm_step X₁.here [X₁.here.top, hexec, d3', Value.category]
  exact X₁.ldcString hexec (own := own) (text := text) (index := is) (a := sa) hown' hstr'.1 hstr'.2
    (g := { method := m, pc := pc + 4, locals := ls, stack := .ref T.heap.size :: .ref T.heap.size :: rest, locked := none }) rfl d4' _ hsteps
/-- 'throw new E("text")', the text by a wide index -/
theorem vx_throwSW {cc : ByteArray} {pc : Nat} (hexec : p.tables.exec = Jvm.exec) (hb : c.code = cc) (hl : l.stackTraces = false) {own cls text : String} {names : List String} {ik is ic mc ms sa : Nat} {A : Nat → Prop}
    (hown : s.vm.findClass own = some m.cls) (hcls : Bundle.fit cls = true) (hnames : ∀ n ∈ names, Bundle.fit n = true)
    (hk : (Cond.classLink own ik cls).before args s = true) (hini : (Cond.initialized cls).before args s = true) (hstr : vk_R own is text sa s) (hat : ∀ w ∈ vx_atS own ic cls names, w.before args s = true)
    (hgood : ∀ w ∈ Cond.classLink own ik cls :: Cond.initialized cls :: vx_atS own ic cls names, vx_ot w = true)
    (hU : vx_Zq Bundle.tN "UNASSIGNED_STACK" Bundle.steD A s s.heap) (hN : vx_Zq Bundle.tN "SUPPRESSED_SENTINEL" Bundle.listD A s s.heap) (hS : va_S A s.heap H locs) (hsize : ls.size = c.maxLocals)
    (d0 : decode cc pc = .ok (.new ik, 3)) (d3 : decode cc (pc + 3) = .ok (.dup, 1)) (d4 : decode cc (pc + 4) = .ok (.ldc_w is, 3)) (d7 : decode cc (pc + 7) = .ok (.invokespecial ic, 3)) (d10 : decode cc (pc + 10) = .ok (.athrow, 1))
    (hout : ∀ x ∈ c.exceptionTable.toList, covers x (pc + 10) = false)
    (hRframes : names.length + 3 < R.frames) (hRlocals : (rest.map fun v => v.category).sum + (13 * (names.length + 1) + 43) ≤ R.locals) (hRcells : cells + 1 ≤ R.cells) (hRslots : slots + 6 ≤ R.slots) (hlocks : meth.locks = false)
    (hx : ∀ t : State, s.vm.Alike t.vm → H.size ≤ t.heap.size → (∀ q : Nat, q < H.size → t.heap[q]? = H[q]?) → XC cls s t)
    (hf : ∀ z ∈ locs, free z.base) (hc : cells + 1 ≤ mc) (hs : slots + 6 ≤ ms) :
    W p l e R s m args below meth c H locs cells slots (vx_MQ below Qc XC args s mc ms free) (F0 m pc ls rest) := by
  intro T hT X
  have htr : e.platform.stackTraces = false := (show e.platform.stackTraces = l.stackTraces by rw [X.admits.platform]).trans hl
  have Y := vx_rebase X (R' := { frames := R.frames, locals := R.locals, cells := 1, slots := 6 }) (Nat.le_refl _) (Nat.le_refl _) hRcells hRslots
  obtain ⟨s', hA⟩ : ∃ z, z = (T.setVm s.vm).setFrames (.invoking m args :: below) := ⟨_, rfl⟩
  rw [← hA] at Y
  have hvm : s'.vm = s.vm := by rw [hA]; rfl
  have hhp : s'.heap = H := by rw [hA]; exact hT
  have hW0 : s.WarmedH s'.vm := by rw [hvm]; exact State.WarmedH.refl s
  have hat' : ∀ w ∈ vx_atS own ic cls names, w.before args s' = true := fun w hw => vx_ot_at hW0 hvm.symm (hgood w (List.mem_cons_of_mem _ (List.mem_cons_of_mem _ hw))) (hat w hw)
  have hk' : (Cond.classLink own ik cls).before args s' = true := vx_ot_at hW0 hvm.symm (hgood _ List.mem_cons_self) hk
  have hini' : (Cond.initialized cls).before args s' = true := vx_ot_at hW0 hvm.symm (hgood _ (List.mem_cons_of_mem _ List.mem_cons_self)) hini
  have hU' : vx_Zq Bundle.tN "UNASSIGNED_STACK" Bundle.steD A s' s'.heap := by rw [hhp]; exact vx_Zq.moved hW0.alike (hU.kept hS.2.1)
  have hN' : vx_Zq Bundle.tN "SUPPRESSED_SENTINEL" Bundle.listD A s' s'.heap := by rw [hhp]; exact vx_Zq.moved hW0.alike (hN.kept hS.2.1)
  have h : ∀ w ∈ Bundle.ownAtoms own ic cls names, w.before args s' = true := vx_own hat' (vx_isRefq hU'.1) (vx_isRefq hN'.1) hU'.2.word hN'.2.word
  have hown' : s'.vm.findClass own = some m.cls := by rw [hvm]; exact hown
  have hins : (Cond.instantiable cls 6).before args s' = true := h _ (by simp [Bundle.ownAtoms])
  obtain ⟨vm₁, cX, kX, hfX, hkX, -, -, X₁, st1⟩ := Y.newCold hexec (own := own) (C := cls) (index := ik) (n := 6) hown' hk' hins hini'
    (g := F0 m pc ls rest) rfl (by rw [hb]; exact d0) (Nat.le_refl _) (Nat.le_refl _)
  generalize hT1 : (T.setVm vm₁).pushCell { cls := cX, slots := kX.instanceTypes.map defaultValue, vm := .none } = T1 at X₁ st1
  have hcat : (Value.ref T.heap.size).category = 1 := rfl
  have hcellA : T1.heap[T.heap.size]? = some (freshCell cX kX) := by rw [← hT1]; exact State.heap_pushCell_size _ _
  have d3' : decode c.code (pc + 3) = .ok (.dup, 1) := by rw [hb]; exact d3
  have d4' : decode c.code (pc + 4) = .ok (.ldc_w is, 3) := by rw [hb]; exact d4
  have hstr' : vk_R own is text sa s' := vk_R.warm hW0 hstr
  obtain ⟨U, hsteps, hrun, hend, hW, hsame, ce, hce, hO⟩ := X₁.ctorThrowS hexec htr (own := own) (cls := cls) (names := names) (ic := ic) hown' hcls hnames h (fun x hx => nomatch hx) hfX hkX hcellA (by rw [hhp, hT]; exact Nat.le_refl _) (msg := .ref sa) rfl
    (g := { method := m, pc := pc + 7, locals := ls, stack := .ref sa :: .ref T.heap.size :: .ref T.heap.size :: rest, locked := none }) rfl hsize rfl rfl (rest := rest) rfl
    (by rw [hb]; exact d7) (by rw [hb]; exact d10) hout hRframes (by simp only [List.map_cons, List.sum_cons, hcat]; omega) hlocks
  obtain ⟨f1, f2⟩ := vx_frame hsame
  rw [hhp] at f1 f2
  have hWs : s.WarmedH U.vm := State.WarmedH.trans hW0 hW
  have hcl : s.vm.findClass cls = some ce.cls := by
    have h9 := hO.cls
    rw [hvm] at h9
    exact h9
  have hall : s.sameButNew ({ U with vm := s.vm } : State) locs mc ms := by
    subst hA
    obtain ⟨e1, e2⟩ := hsame
    rw [State.setFrames_setFrames] at e1
    have h2 : (T.setVm s.vm).sameButNew ({ U with vm := s.vm } : State) [] (0 + 1) (0 + 6) := ⟨e1, e2⟩
    have h3 := X.same.trans h2
    rw [List.append_nil] at h3
    exact h3.mono hc hs
  refine ⟨U, ?_, .threw T.heap.size, hrun, hend, Or.inr ⟨T.heap.size, rfl, cls, ce, locs, hx U hWs.alike f1 (fun q hq => f2 q hq (fun z hz => nomatch hz)), hce, hO.vm, hcl, hWs, hall, hf⟩⟩
  refine st1 _ ?_
  show Steps p.tables e below (T1.setTop { method := m, pc := pc + 3, locals := ls, stack := .ref T.heap.size :: rest, locked := none }) _
  jvm_step X₁.here [X₁.here.top, hexec, d3', Value.category]
  exact X₁.ldcStringW hexec (own := own) (text := text) (index := is) (a := sa) hown' hstr'.1 hstr'.2
    (g := { method := m, pc := pc + 4, locals := ls, stack := .ref T.heap.size :: .ref T.heap.size :: rest, locked := none }) rfl d4' _ hsteps
end Ends
section Bodies
variable {l : Launch}
theorem vx_ofW {y : MethodName} {ws ws' : List Cond} {rm : Room} {Pc : Array Value → State → Prop} {Qc : Array Value → State → Outcome → State → Prop} {XC : String → State → State → Prop} {mc ms : Nat} {free : Addr → Prop} {cc : ByteArray} {maxL : Nat} {ret : Option FieldType}
    (hy : plainName y.cls = true) (hw : ws = Cond.code y cc maxL ret :: ws')
    (body : ∀ p e s m args below meth c s₁, BodyLoose p l y (headSpec ws rm) cc maxL ret e s m args below meth c s₁ → c.maxLocals = maxL → (∀ x ∈ c.exceptionTable.toList, False) → Pc args s →
      W p l e (headSpec ws rm).room s m args below meth c s.heap [] 0 0 (vx_MQ below Qc XC args s mc ms free) (entryFrame m args maxL)) : vx_Met l y ws rm Pc Qc XC mc ms free := by
  refine MetFree.of_bodyS (code := cc) (maxLocals := maxL) (ret := ret) hy ?_ ?_
  · intro args s m h hn
    obtain ⟨meth, c, h1, h2, h3, h4, h5, h6, -, -⟩ := Cond.code_spec hn (atoms_spec (ws := ws) h _ (by rw [hw]; exact List.mem_cons_self))
    exact ⟨meth, c, h1, h2, h3, h4, h5, h6⟩
  · intro p e s m args below meth c s₁ B hml hP _
    have hh0 : s₁.heap = s.heap := by rw [B.state]; rfl
    have ht : ∀ x ∈ c.exceptionTable.toList, False := by
      obtain ⟨meth9, c9, h1, h2, -, -, -, -, h7, -⟩ := Cond.code_spec B.named (atoms_spec (ws := ws) B.pre _ (by rw [hw]; exact List.mem_cons_self))
      cases Option.some.inj (h1.symm.trans B.method)
      cases Option.some.inj (h2.symm.trans (Stand.of_body B).code)
      intro x hx
      rw [Array.isEmpty_iff.mp h7] at hx
      cases hx
    obtain ⟨t, a1, o, b1, b2, b3⟩ := body p e s m args below meth c s₁ B hml ht hP s₁ hh0 (Stand.of_body B)
    exact ⟨t, o, a1, b1, b2, b3⟩
/-- the table of a body with handlers -/
theorem vx_table {p : Program} {x y : MethodName} {S : Spec} {cc bytes : ByteArray} {maxL maxL' : Nat} {ret ret' : Option FieldType} {e : Env} {s s₁ : State} {m : MethodId} {args : Array Value} {below : List Frame} {meth : Method} {c : Code} {hh : List (Nat × Nat × Nat × Nat)}
    (B : BodyLoose p l y S cc maxL ret e s m args below meth c s₁) (h : (Cond.codeWith y bytes maxL' ret' hh).before args s = true) : c.exceptionTable.toList = tableOf hh := by
  obtain ⟨m9, meth9, c9, hn9, h1, h2, -, -, h6, -⟩ := Cond.codeWith_spec h
  cases Option.some.inj (hn9.symm.trans B.named)
  cases Option.some.inj (h1.symm.trans B.method)
  cases Option.some.inj (h2.symm.trans (Stand.of_body B).code)
  rw [← h6, table_eq]
end Bodies
end VXA
/-! ===== END ===== -/
/-! ===== BEGIN a static call of a method with an exception table ===== -/
section VXS
variable {p : Program} {l : Launch} {e : Env} {R : Room} {s : State} {m : MethodId} {args : Array Value} {below : List Frame} {meth : Method} {c : Code} {T : State} {H : Heap} {locs : List Loc} {cells slots : Nat}
abbrev vx_CSW (R : Room) (s : State) (args : Array Value) (own : String) (index : Nat) (y : MethodName) (bytes : ByteArray) (maxL : Nat) (ret : Option FieldType) (hh : List (Nat × Nat × Nat × Nat)) (ws : List Cond) (rm : Room) (mc ms n : Nat) : Prop :=
  (rm.cells = mc ∧ rm.slots = ms ∧ rm.frames + 1 ≤ R.frames ∧ 8 + (maxL + 11) + rm.locals ≤ R.locals ∧ (∀ w ∈ ws, ∀ (a' : Array Value) (U : State), s.WarmedH U.vm → w.before a' U = true) ∧ Cond.codeWith y bytes maxL ret hh ∈ ws) ∧
  (Cond.codeWith y bytes maxL ret hh).before args s = true ∧ (Cond.initialized y.cls).before args s = true ∧ (y.cls ≠ "java/lang/invoke/MethodHandle" ∧ y.cls ≠ "java/lang/invoke/VarHandle") ∧
  (∀ sig, parseMethodDescriptor y.desc = some sig → n = sig.parameters.length) ∧ (Cond.methodLink own index y).before args s = true ∧ (Cond.static y).before args s = true
theorem vx_cwSW {own : String} {index maxL mc ms : Nat} {y : MethodName} {bytes : ByteArray} {ret : Option FieldType} {hh : List (Nat × Nat × Nat × Nat)} {Ts ws ws' : List Cond} {rm : Room} (n : Nat) (ht : ∀ w ∈ Ts, w.before args s = true) (hT : GoodIn Ts (va_wsS own index y ws)) (hw : ws = Cond.codeWith y bytes maxL ret hh :: ws') (hrc : rm.cells = mc) (hrs : rm.slots = ms)
    (hd : y.cls ≠ "java/lang/invoke/MethodHandle" ∧ y.cls ≠ "java/lang/invoke/VarHandle" ∧ (parseMethodDescriptor y.desc).map (fun d => d.parameters.length) = some n) (hR : rm.frames + 1 ≤ R.frames ∧ 8 + (maxL + 11) + rm.locals ≤ R.locals) :
    vx_CSW R s args own index y bytes maxL ret hh ws rm mc ms n := by
  have ok : ∀ w ∈ va_wsS own index y ws, w.before args s = true := fun w h => ht w (hT w h).1
  have hG : GoodIn Ts ws := fun w h => hT w (by unfold va_wsS; exact List.mem_append_right _ h)
  have hc : Cond.codeWith y bytes maxL ret hh ∈ ws := by rw [hw]; exact List.mem_cons_self
  refine ⟨⟨hrc, hrs, hR.1, hR.2, pay_in ht hG, hc⟩, ht _ (hG _ hc).1, ok _ (by simp [va_wsS]), ⟨hd.1, hd.2.1⟩, fun sig h => ?_, ok _ (by simp [va_wsS]), ok _ (by simp [va_wsS])⟩
  have h2 := hd.2.2
  rw [h] at h2
  exact (Option.some.inj h2).symm
theorem vx_callSW (X : Stand p l e R s m args below meth c T locs cells slots) (hexec : p.tables.exec = Jvm.exec) {own : String} {index : Nat} {y : MethodName} {bytes : ByteArray} {maxL : Nat} {ret : Option FieldType} {hh : List (Nat × Nat × Nat × Nat)}
    (hown : s.vm.findClass own = some m.cls) (hlink : (Cond.methodLink own index y).before args s = true) (hstat : (Cond.static y).before args s = true) (hinit : (Cond.initialized y.cls).before args s = true)
    (hcode : (Cond.codeWith y bytes maxL ret hh).before args s = true) (hy : y.cls ≠ "java/lang/invoke/MethodHandle" ∧ y.cls ≠ "java/lang/invoke/VarHandle")
    {W9 : Nat} {Pre : Pt → Array Value → Prop} {Post : Pt → Array Value → Option Value → Pt → Prop} (hK : Back l R p e below s args y 3 W9 Pre Post)
    {g : JFrame} (hg : g.method = m) (hsize : g.locals.size = c.maxLocals) {argsL rest : List Value} (hlen : ∀ sig, parseMethodDescriptor y.desc = some sig → argsL.length = sig.parameters.length)
    (hstack : g.stack = argsL.reverse ++ rest) (hW : 2 * g.monitorRoom + (rest.map fun v => v.category).sum ≤ W9) (hdg : decode c.code g.pc = .ok (.invokestatic index, 3))
    (hpre : ∀ vm₁, s.WarmedH vm₁ → Pre ⟨T.setVm vm₁, locs, cells, slots⟩ argsL.toArray) :
    ∃ (v : Option Value) (vm₁ : Vm) (B : Pt), s.WarmedH vm₁ ∧ Stand p l e R s m args below meth c B.U B.locs B.cells B.slots ∧ Post ⟨T.setVm vm₁, locs, cells, slots⟩ argsL.toArray v B ∧
      ∀ target, Steps p.tables e below (B.U.setTop { g with pc := g.pc + 3, stack := v.toList ++ rest }) target → Steps p.tables e below (T.setTop g) target := by
  obtain ⟨mk, methM, cM, hnamed, hmethM, -, -, -, -, -, -, hsigM⟩ := Cond.codeWith_spec hcode
  have hstatic : methM.isStatic = true := Cond.static_spec hnamed hmethM hstat
  obtain ⟨kP, hkP, -⟩ := className_of_methodNamed hnamed
  have hinitP : kP.init = .initialized := Cond.initialized_spec (findClass_of_methodNamed hnamed) hkP hinit
  obtain ⟨vm₁, X₁, hstep₁⟩ := X.invokestatic hexec hown hlink hnamed hmethM hstatic hkP hinitP hy (g := g) hg (argsL := argsL) (rest := rest) (hlen _ hsigM) hstack hdg
  obtain ⟨v, B, X', hpost, hsteps⟩ := hK m meth c ⟨T.setVm vm₁, locs, cells, slots⟩ { g with stack := rest } (.invokestatic index) mk argsL.toArray X₁ hg hsize hdg hW (X₁.named hnamed) (hpre vm₁ X₁.warmed)
  exact ⟨v, vm₁, B, X₁.warmed, X', hpost, fun target h => hstep₁ _ fun acts => by rw [doInvoke_state]; exact hsteps.trans h⟩
theorem vx_runSW {y : MethodName} {bytes cc : ByteArray} {maxL nL mc ms n index : Nat} {ret : Option FieldType} {hh : List (Nat × Nat × Nat × Nat)} {ws : List Cond} {rm : Room} {Pc : Array Value → State → Prop} {Qc : Array Value → State → Outcome → State → Prop} {free : Addr → Prop} {Ts : List Cond} {own : String} {As rest : List Value} {g : JFrame}
    (S : CallFix p m c cc nL s args Ts own) (hM : Met l y ws rm Pc Qc mc ms free) (cw : vx_CSW R s args own index y bytes maxL ret hh ws rm mc ms n) (hp : PreS s H Pc As)
    (hg : g.method = m) (hn : As.length = n) (hsize : g.locals.size = nL) (hstack : g.stack = As.reverse ++ rest) (hW : 2 * g.monitorRoom + (rest.map fun v => v.category).sum ≤ 8) (hdg : decode cc g.pc = .ok (.invokestatic index, 3)) (hf : cells + mc ≤ R.cells ∧ slots + ms ≤ R.slots) :
    va_Run p l e R s m args below meth c H locs cells slots mc ms g rest (Qc As.toArray) (free) := by
  obtain ⟨⟨hrc, hrs, hfr, hlo, hws, hcw⟩, hcode, hini, hy, hlen, hl, hstt⟩ := cw
  have hK : Back l R p e below s args y 3 8 (PreOf R mc ms Pc) (PostOf Qc mc ms free) := va_backW (hh := hh) (bytes := bytes) (maxL := maxL) (ret := ret) hM hp.1 hrc hrs hfr hlo hws hcw (fun a' U hW => word_at hW (Or.inl (by first | rfl | simp [Cond.onTables, Cond.keeps, Cond.steady])) hini)
  obtain ⟨hx, hb, hml, ho, -⟩ := S
  intro T hT X
  obtain ⟨v, vm₁, ⟨U', l2, c2, s2⟩, hW₁, X', ⟨g', mk, t, L, e1, e2, hq, h1, hL, h2, h3⟩, st⟩ := vx_callSW X hx (hh := hh) (bytes := bytes) (maxL := maxL) (ret := ret) ho hl hstt hini hcode hy hK hg (hsize.trans hml.symm) (argsL := As) (rest := rest) (fun sig h => hn.trans (hlen sig h)) hstack hW (by rw [hb]; exact hdg)
    (fun vm₁ hW₁ => ⟨hf.1, hf.2, hp.2 (T.setVm vm₁) hT hW₁⟩)
  dsimp only [Pt.U, Pt.locs, Pt.cells, Pt.slots] at X' e1 e2 h1 h2 h3 st
  subst h1; subst h2; subst h3
  exact ⟨v, (T.setVm vm₁).calling g' mk As.toArray, t, U', L, hT, X', hL, e1, e2, hq, st⟩
/-- not caught here, past rows that name other classes: it goes on to the caller -/
theorem vx_outP {p : Program} {l : Launch} {e : Env} {R : Room} {s : State} {m : MethodId} {args : Array Value} {below : List Frame} {meth : Method} {c : Code} {H : Heap} {locs : List Loc} {cells slots : Nat} {free : Addr → Prop} {ls : Array Slot} {rest : List Value} {Qc : Array Value → State → Outcome → State → Prop} {XC : String → State → State → Prop}
    {pc : Nat} {own E : String} {ce : Cell} {q : Addr} {mc ms : Nat} (hown : s.vm.findClass own = some m.cls) (hlocks : meth.locks = false)
    (hpass : ∀ z ∈ c.exceptionTable.toList, covers z pc = false ∨ (z.catchType ≠ 0 ∧ ∃ nm : String, (Cond.classLink own z.catchType nm).before args s = true ∧ va_Nc E nm s)) (hcell : H[q]? = some ce) (hv : ce.vm = .none) (hcl : s.vm.findClass E = some ce.cls)
    (hx : ∀ t : State, t.heap = H → s.vm.Alike t.vm → XC E s t) (hf : ∀ z ∈ locs, free z.base) (hc : cells ≤ mc) (hs : slots ≤ ms) :
    vx_W p l e R s m args below meth c H locs cells slots (vx_MQ below Qc XC args s mc ms free) (F0 m pc ls rest) q := by
  intro T hT X
  have hpl : e.platform.magicAccessors = ({} : Platform).magicAccessors := by rw [X.admits.platform]
  obtain ⟨vm', hW', X', st⟩ := X.outThrough hlocks q (g := F0 m pc ls rest) rfl rfl rfl (cell := ce) (by rw [hT]; exact hcell) (by rw [hv]; rfl)
    (by obtain ⟨k9, h9, -⟩ := Vm.findClass_spec hcl; exact ⟨k9, h9⟩) (fun z hz => by
      rcases hpass z hz with h | ⟨hz0, nm, hl1, hn1⟩
      · exact Or.inl h
      · obtain ⟨c6, hc6, hcl6⟩ := Cond.classLink_spec hown hl1 e.platform hpl
        obtain ⟨a8, b8, h1, h2, h3⟩ := hn1
        cases Option.some.inj (h1.symm.trans hcl)
        cases Option.some.inj (h2.symm.trans hc6)
        exact Or.inr ⟨hz0, _, hcl6, h3⟩)
  obtain ⟨g₀, hfr⟩ := X'.frames_eq
  have hcell9 : ((T.setVm vm').setFrames (.throwing q :: below)).heap[q]? = some ce := by
    show T.heap[q]? = some ce
    rw [hT]; exact hcell
  have hend : Ended ((T.setVm vm').setFrames (.throwing q :: below)) below (.threw q) := State.frames_setFrames _ (State.cur_lt_of_frames hfr)
  refine ⟨(T.setVm vm').setFrames (.throwing q :: below), ?_, .threw q, X'.here.running, hend, Or.inr ⟨q, rfl, E, ce, locs, hx _ hT (X'.ends _).1.alike, hcell9, hv, hcl, (X'.ends _).1, (X'.ends _).2.mono hc hs, hf⟩⟩
  rw [X.pushThrowing_eq]
  exact st
/-- a thing of a world lies in the heap -/
theorem vx_lt {D : va_G} {cl : List vw_C} {ws : va_W} {H1 : Heap} (h : va_P D cl ws H1) {k : Nat} {q : Nat × va_E} (hk : ws[k]? = some q) : q.1 < H1.size := (h k q hk).lt
end VXS
/-! ===== END ===== -/
/-! ===== BEGIN methods with a table of their own: called by a name, returning or throwing ===== -/
section VXH
/-! vx_backW, vx_callVX, vx_callSX, vx_callVW, vx_runVW, vx_runVX, vx_runSX, vx_ofWH follow the same proofs as their sisters above (Free/Laws.lean, Shelf42/LK1.lean); vx_outP calls Shelf42/NT130.lean (outThrough). -/
section
variable {l : Launch} {R : Room} {p : Program} {e : Env} {below : List Frame} {s : State} {sargs : Array Value} {y : MethodName} {len W9 : Nat}
theorem vx_backW {ws : List Cond} {rm : Room} {Pc : Array Value → State → Prop} {Qc : Array Value → State → Outcome → State → Prop} {XC : String → State → State → Prop} {mc ms : Nat} {free : Addr → Prop} {bytes : ByteArray} {maxL : Nat} {ret : Option FieldType} {hh : List (Nat × Nat × Nat × Nat)}
    (hM : vx_Met l y ws rm Pc Qc XC mc ms free) (hblind : FrameBlind Pc) (hrc : rm.cells = mc) (hrs : rm.slots = ms)
    (hframes : rm.frames + 1 ≤ R.frames) (hlocals : W9 + (maxL + 11) + rm.locals ≤ R.locals)
    (hws : ∀ w ∈ ws, ∀ a' U, s.WarmedH U.vm → w.before a' U = true) (hcode : Cond.codeWith y bytes maxL ret hh ∈ ws) (hinit : ∀ a' U, s.WarmedH U.vm → (Cond.initialized y.cls).before a' U = true) :
    vx_Back l R p e below s sargs y len W9 (PreOf R mc ms Pc) (PostOf Qc mc ms free) (vx_Post XC mc ms free) := by
  intro m meth c A g ig mk a X hg hsize hdg hW hn hp
  have h1 : (headSpec ws rm).pre.before a A.U = true := atoms_intro fun w hw => hws w hw _ _ X.warmed
  have h2 : (Cond.codeWith y bytes maxL ret hh).before a A.U = true := hws _ hcode _ _ X.warmed
  have h3 : (Cond.initialized y.cls).before a A.U = true := hinit _ _ X.warmed
  have h4 : A.cells + (headSpec ws rm).room.cells ≤ R.cells := by rw [show (headSpec ws rm).room.cells = mc from hrc]; exact hp.1
  have h5 : A.slots + (headSpec ws rm).room.slots ≤ R.slots := by rw [show (headSpec ws rm).room.slots = ms from hrs]; exact hp.2.1
  have hPc : Pc a (A.U.calling g mk a) := hblind _ _ _ _ hp.2.2
  obtain ⟨U, Ls, c0, s0⟩ := A
  dsimp only [Pt.U, Pt.locs, Pt.cells, Pt.slots] at h1 h2 h3 h4 h5 X hn hPc ⊢
  obtain ⟨m9, methY, cY, hn9, hmY, hcY, -, hlY, -⟩ := Cond.codeWith_spec h2
  cases Option.some.inj (hn9.symm.trans hn)
  obtain ⟨kY, hkY, -⟩ := className_of_methodNamed hn
  have hinitY : kY.init = .initialized := Cond.initialized_spec (findClass_of_methodNamed hn) hkY h3
  have h : At U g.method c below := by rw [hg]; exact X.here
  have hlocals9 : W9 + (maxL + 11) + (headSpec ws rm).room.locals ≤ R.locals := hlocals
  have happ : (headSpec ws rm).appliesLoose y e.platform (U.calling g mk a) = true :=
    Spec.appliesLoose_calling (g := g) h hdg hn hkY hinitY
      (X.room_calling (g := g) (R' := (headSpec ws rm).room) hsize hmY hcY hframes (by rw [hlY]; omega) h4 h5) h1
  obtain ⟨mid, hmid⟩ := h.above
  have hfr : (U.setTop g).frames = (.java g :: mid) ++ below := by rw [State.frames_setTop' g h.top, hmid]; rfl
  obtain ⟨o, s₂, hsteps, -, hend, hq⟩ := Steps.callFree hM p X.admits X.cas X.clock (acts := []) hfr happ hPc trivial
  have hq' : vx_Q Qc XC mc ms free a (U.calling g mk a) o s₂ := hq
  rw [State.frames_setTop' g h.top] at hend
  obtain ⟨g₀, hg0⟩ := Option.isSome_iff_exists.mp h.top
  obtain ⟨r, hr⟩ := State.topJava?_eq_some.mp hg0
  have hr' : (({ U with heap := s₂.heap, slotsUsed := s₂.slotsUsed } : State).setVm s₂.vm).frames = .java g₀ :: r := hr
  rcases hq' with ⟨hqc, L, hfe, hL⟩ | ⟨q, rfl, E, ce, L, hx, hce, hcv, hcl, hW₂, hsm, hL⟩
  · obtain ⟨⟨v, rfl⟩, hW₂, e2, q2, q3, q4, q5, q6⟩ := id hfe
    have e3 : s₂ = ({ (U.calling g mk a).setFrames s₂.frames with heap := s₂.heap, slotsUsed := s₂.slotsUsed } : State).setVm s₂.vm := by
      have : s₂ = ({ s₂ with vm := (U.calling g mk a).vm } : State).setVm s₂.vm := rfl
      rw [e2] at this
      exact this
    obtain ⟨c₂, i₂, len₂, hc₂, hd₂, hf₂⟩ := hend
    have hW' : U.WarmedH s₂.vm := hW₂
    have hcc : c₂ = c := by
      have h1 : s₂.code? g.method = U.code? g.method := by
        rw [State.code?_eq, State.code?_eq, hW'.alike.method?]
      exact Option.some.inj (hc₂.symm.trans (h1.trans h.code))
    subst hcc
    have hlen : len₂ = len := by rw [hdg] at hd₂; cases hd₂; rfl
    subst hlen
    have hs₂ : s₂ = (({ U with heap := s₂.heap, slotsUsed := s₂.slotsUsed } : State).setVm s₂.vm).setTop { g with pc := g.pc + len₂, stack := v.toList ++ g.stack } := by
      refine e3.trans ?_
      rw [hf₂, State.calling_eq h.top, State.setFrames_setFrames, State.setTop_of_frames _ hr', hr]
      rfl
    have hsame : U.sameButNew ({ U with heap := s₂.heap, slotsUsed := s₂.slotsUsed } : State) L mc ms := by
      refine ⟨?_, q2, q3, q4, q5, q6⟩
      obtain ⟨t, ht, -⟩ := State.frames_cons hr
      show ({ U with heap := s₂.heap, slotsUsed := s₂.slotsUsed } : State) = { U.setFrames U.frames with heap := s₂.heap, slotsUsed := s₂.slotsUsed }
      rw [State.setFrames_self ht]
    subst hg
    refine Or.inl ⟨v, ⟨(({ U with heap := s₂.heap, slotsUsed := s₂.slotsUsed } : State).setVm s₂.vm), Ls ++ L, c0 + mc, s0 + ms⟩,
      ⟨X.admits, X.cas, X.clock, X.frames, X.room, X.hears, X.method, X.code, (X.here.setHeapUsed s₂.heap s₂.slotsUsed).setVm hW'.alike, X.tail, State.WarmedH.trans X.warmed hW', X.limits, X.bytes, X.same.trans (hsame.setVm s.vm)⟩,
      ⟨g, mk, s₂, L, rfl, rfl, hqc, rfl, hL, rfl, rfl⟩, ?_⟩
    show Steps p.tables e below _ ((({ U with heap := s₂.heap, slotsUsed := s₂.slotsUsed } : State).setVm s₂.vm).setTop { g with pc := g.pc + len₂, stack := v.toList ++ g.stack })
    rw [← hs₂]
    exact hsteps
  · obtain ⟨e2, q2, q3, q4, q5, q6⟩ := id hsm
    have e3 : s₂ = ({ (U.calling g mk a).setFrames s₂.frames with heap := s₂.heap, slotsUsed := s₂.slotsUsed } : State).setVm s₂.vm := by
      have : s₂ = ({ s₂ with vm := (U.calling g mk a).vm } : State).setVm s₂.vm := rfl
      rw [e2] at this
      exact this
    have hf₂ : s₂.frames = .throwing q :: .java g :: U.frames.tail := hend
    have hW' : U.WarmedH s₂.vm := hW₂
    have hs₂ : s₂ = ((({ U with heap := s₂.heap, slotsUsed := s₂.slotsUsed } : State).setVm s₂.vm).setTop g).pushFrame (.throwing q) := by
      refine e3.trans ?_
      rw [hf₂, State.calling_eq h.top, State.setFrames_setFrames, State.pushFrame, State.frames_setTop _ hr', State.setTop_of_frames _ hr', State.setFrames_setFrames, hr]
      rfl
    have hsame : U.sameButNew ({ U with heap := s₂.heap, slotsUsed := s₂.slotsUsed } : State) L mc ms := by
      refine ⟨?_, q2, q3, q4, q5, q6⟩
      obtain ⟨t, ht, -⟩ := State.frames_cons hr
      show ({ U with heap := s₂.heap, slotsUsed := s₂.slotsUsed } : State) = { U.setFrames U.frames with heap := s₂.heap, slotsUsed := s₂.slotsUsed }
      rw [State.setFrames_self ht]
    subst hg
    refine Or.inr ⟨q, ⟨(({ U with heap := s₂.heap, slotsUsed := s₂.slotsUsed } : State).setVm s₂.vm), Ls ++ L, c0 + mc, s0 + ms⟩,
      ⟨X.admits, X.cas, X.clock, X.frames, X.room, X.hears, X.method, X.code, (X.here.setHeapUsed s₂.heap s₂.slotsUsed).setVm hW'.alike, X.tail, State.WarmedH.trans X.warmed hW', X.limits, X.bytes, X.same.trans (hsame.setVm s.vm)⟩,
      ⟨g, mk, s₂, L, E, ce, rfl, rfl, hx, hce, hcv, hcl, rfl, hL, rfl, rfl⟩, ?_⟩
    show Steps p.tables e below _ (((({ U with heap := s₂.heap, slotsUsed := s₂.slotsUsed } : State).setVm s₂.vm).setTop g).pushFrame (.throwing q))
    rw [← hs₂]
    exact hsteps
end
variable {p : Program} {l : Launch} {e : Env} {R : Room} {s : State} {m : MethodId} {args : Array Value} {below : List Frame} {meth : Method} {c : Code} {T : State} {H : Heap} {locs : List Loc} {cells slots : Nat}
theorem vx_callVX (X : Stand p l e R s m args below meth c T locs cells slots) (hexec : p.tables.exec = Jvm.exec) {own C : String} {index : Nat} {y : MethodName} {bytes : ByteArray} {maxL : Nat} {ret : Option FieldType} {hh : List (Nat × Nat × Nat × Nat)}
    (hown : s.vm.findClass own = some m.cls) (hlink : (Cond.methodLink own index y).before args s = true) (hinst : (Cond.instanceMethod y).before args s = true) (hsel : (Cond.selects C y y).before args s = true)
    (hcode : (Cond.codeWith y bytes maxL ret hh).before args s = true) (hy : y.cls ≠ "java/lang/invoke/MethodHandle" ∧ y.cls ≠ "java/lang/invoke/VarHandle")
    {W9 : Nat} {Pre : Pt → Array Value → Prop} {Post : Pt → Array Value → Option Value → Pt → Prop} {PostX : Pt → Array Value → Addr → Pt → Prop} (hK : vx_Back l R p e below s args y 3 W9 Pre Post PostX)
    {b : Addr} {cellB : Cell} (hcell : T.heap[b]? = some cellB) (hobj : cellB.vm.isStatics = false) (hcls : s.vm.findClass C = some cellB.cls)
    {g : JFrame} (hg : g.method = m) (hsize : g.locals.size = c.maxLocals) {argsL rest : List Value} (hlen : ∀ sig, parseMethodDescriptor y.desc = some sig → argsL.length = sig.parameters.length)
    (hstack : g.stack = argsL.reverse ++ .ref b :: rest) (hW : 2 * g.monitorRoom + (rest.map fun v => v.category).sum ≤ W9) (hdg : decode c.code g.pc = .ok (.invokevirtual index, 3))
    (hpre : ∀ vm₁, s.WarmedH vm₁ → Pre ⟨T.setVm vm₁, locs, cells, slots⟩ (Value.ref b :: argsL).toArray) :
    (∃ (v : Option Value) (vm₁ : Vm) (B : Pt), s.WarmedH vm₁ ∧ Stand p l e R s m args below meth c B.U B.locs B.cells B.slots ∧ Post ⟨T.setVm vm₁, locs, cells, slots⟩ (Value.ref b :: argsL).toArray v B ∧
      ∀ target, Steps p.tables e below (B.U.setTop { g with pc := g.pc + 3, stack := v.toList ++ rest }) target → Steps p.tables e below (T.setTop g) target) ∨
    (∃ (q : Addr) (vm₁ : Vm) (B : Pt), s.WarmedH vm₁ ∧ Stand p l e R s m args below meth c B.U B.locs B.cells B.slots ∧ PostX ⟨T.setVm vm₁, locs, cells, slots⟩ (Value.ref b :: argsL).toArray q B ∧
      Steps p.tables e below (T.setTop g) ((B.U.setTop { g with stack := rest }).pushFrame (.throwing q))) := by
  obtain ⟨mk, methM, hnamed, hmethM, hstM, habM⟩ := Cond.instanceMethod_spec hinst
  obtain ⟨m8, methM', cM, hn8, hmethM', -, -, -, -, -, -, hsigM⟩ := Cond.codeWith_spec hcode
  cases Option.some.inj (hn8.symm.trans hnamed)
  cases hmethM.symm.trans hmethM'
  obtain ⟨c2, r2, m2, q1, q2, q3, q4, kP, hkP, hkPi⟩ := Cond.selects_spec hsel
  cases hcls.symm.trans q1
  cases (State.methodFound?_of_named hnamed hy).symm.trans q2
  cases hnamed.symm.trans q3
  have hselP : selectMethod e.platform s.vm cellB.cls mk = .method mk := by rw [Launch.admits_selectMethod X.admits]; exact q4
  obtain ⟨vm₁, X₁, hstep₁⟩ := X.invokevirtual hexec hown hlink hnamed hmethM hstM hkP hkPi hy (a := b) (cell := cellB) hcell
    (fun z h => by rw [h] at hobj; cases hobj) hselP hmethM habM hkP hkPi (g := g) hg (argsL := argsL) (rest := rest) (hlen _ hsigM) hstack hdg
  rcases hK m meth c ⟨T.setVm vm₁, locs, cells, slots⟩ { g with stack := rest } (.invokevirtual index) mk (Value.ref b :: argsL).toArray X₁ hg hsize hdg hW (X₁.named hnamed) (hpre vm₁ X₁.warmed) with ⟨v, B, X', hpost, hsteps⟩ | ⟨q, B, X', hpost, hsteps⟩
  · exact Or.inl ⟨v, vm₁, B, X₁.warmed, X', hpost, fun target h => hstep₁ _ fun acts => by rw [doInvoke_state]; exact hsteps.trans h⟩
  · exact Or.inr ⟨q, vm₁, B, X₁.warmed, X', hpost, hstep₁ _ fun acts => by rw [doInvoke_state]; exact hsteps⟩
theorem vx_callSX (X : Stand p l e R s m args below meth c T locs cells slots) (hexec : p.tables.exec = Jvm.exec) {own : String} {index : Nat} {y : MethodName} {bytes : ByteArray} {maxL : Nat} {ret : Option FieldType} {hh : List (Nat × Nat × Nat × Nat)}
    (hown : s.vm.findClass own = some m.cls) (hlink : (Cond.methodLink own index y).before args s = true) (hstat : (Cond.static y).before args s = true) (hinit : (Cond.initialized y.cls).before args s = true)
    (hcode : (Cond.codeWith y bytes maxL ret hh).before args s = true) (hy : y.cls ≠ "java/lang/invoke/MethodHandle" ∧ y.cls ≠ "java/lang/invoke/VarHandle")
    {W9 : Nat} {Pre : Pt → Array Value → Prop} {Post : Pt → Array Value → Option Value → Pt → Prop} {PostX : Pt → Array Value → Addr → Pt → Prop} (hK : vx_Back l R p e below s args y 3 W9 Pre Post PostX)
    {g : JFrame} (hg : g.method = m) (hsize : g.locals.size = c.maxLocals) {argsL rest : List Value} (hlen : ∀ sig, parseMethodDescriptor y.desc = some sig → argsL.length = sig.parameters.length)
    (hstack : g.stack = argsL.reverse ++ rest) (hW : 2 * g.monitorRoom + (rest.map fun v => v.category).sum ≤ W9) (hdg : decode c.code g.pc = .ok (.invokestatic index, 3))
    (hpre : ∀ vm₁, s.WarmedH vm₁ → Pre ⟨T.setVm vm₁, locs, cells, slots⟩ argsL.toArray) :
    (∃ (v : Option Value) (vm₁ : Vm) (B : Pt), s.WarmedH vm₁ ∧ Stand p l e R s m args below meth c B.U B.locs B.cells B.slots ∧ Post ⟨T.setVm vm₁, locs, cells, slots⟩ argsL.toArray v B ∧
      ∀ target, Steps p.tables e below (B.U.setTop { g with pc := g.pc + 3, stack := v.toList ++ rest }) target → Steps p.tables e below (T.setTop g) target) ∨
    (∃ (q : Addr) (vm₁ : Vm) (B : Pt), s.WarmedH vm₁ ∧ Stand p l e R s m args below meth c B.U B.locs B.cells B.slots ∧ PostX ⟨T.setVm vm₁, locs, cells, slots⟩ argsL.toArray q B ∧
      Steps p.tables e below (T.setTop g) ((B.U.setTop { g with stack := rest }).pushFrame (.throwing q))) := by
  obtain ⟨mk, methM, cM, hnamed, hmethM, -, -, -, -, -, -, hsigM⟩ := Cond.codeWith_spec hcode
  have hstatic : methM.isStatic = true := Cond.static_spec hnamed hmethM hstat
  obtain ⟨kP, hkP, -⟩ := className_of_methodNamed hnamed
  have hinitP : kP.init = .initialized := Cond.initialized_spec (findClass_of_methodNamed hnamed) hkP hinit
  obtain ⟨vm₁, X₁, hstep₁⟩ := X.invokestatic hexec hown hlink hnamed hmethM hstatic hkP hinitP hy (g := g) hg (argsL := argsL) (rest := rest) (hlen _ hsigM) hstack hdg
  rcases hK m meth c ⟨T.setVm vm₁, locs, cells, slots⟩ { g with stack := rest } (.invokestatic index) mk argsL.toArray X₁ hg hsize hdg hW (X₁.named hnamed) (hpre vm₁ X₁.warmed) with ⟨v, B, X', hpost, hsteps⟩ | ⟨q, B, X', hpost, hsteps⟩
  · exact Or.inl ⟨v, vm₁, B, X₁.warmed, X', hpost, fun target h => hstep₁ _ fun acts => by rw [doInvoke_state]; exact hsteps.trans h⟩
  · exact Or.inr ⟨q, vm₁, B, X₁.warmed, X', hpost, hstep₁ _ fun acts => by rw [doInvoke_state]; exact hsteps⟩
theorem vx_callVW (X : Stand p l e R s m args below meth c T locs cells slots) (hexec : p.tables.exec = Jvm.exec) {own C : String} {index : Nat} {y : MethodName} {bytes : ByteArray} {maxL : Nat} {ret : Option FieldType} {hh : List (Nat × Nat × Nat × Nat)}
    (hown : s.vm.findClass own = some m.cls) (hlink : (Cond.methodLink own index y).before args s = true) (hinst : (Cond.instanceMethod y).before args s = true) (hsel : (Cond.selects C y y).before args s = true)
    (hcode : (Cond.codeWith y bytes maxL ret hh).before args s = true) (hy : y.cls ≠ "java/lang/invoke/MethodHandle" ∧ y.cls ≠ "java/lang/invoke/VarHandle")
    {W9 : Nat} {Pre : Pt → Array Value → Prop} {Post : Pt → Array Value → Option Value → Pt → Prop} (hK : Back l R p e below s args y 3 W9 Pre Post)
    {b : Addr} {cellB : Cell} (hcell : T.heap[b]? = some cellB) (hobj : cellB.vm.isStatics = false) (hcls : s.vm.findClass C = some cellB.cls)
    {g : JFrame} (hg : g.method = m) (hsize : g.locals.size = c.maxLocals) {argsL rest : List Value} (hlen : ∀ sig, parseMethodDescriptor y.desc = some sig → argsL.length = sig.parameters.length)
    (hstack : g.stack = argsL.reverse ++ .ref b :: rest) (hW : 2 * g.monitorRoom + (rest.map fun v => v.category).sum ≤ W9) (hdg : decode c.code g.pc = .ok (.invokevirtual index, 3))
    (hpre : ∀ vm₁, s.WarmedH vm₁ → Pre ⟨T.setVm vm₁, locs, cells, slots⟩ (Value.ref b :: argsL).toArray) :
    ∃ (v : Option Value) (vm₁ : Vm) (B : Pt), s.WarmedH vm₁ ∧ Stand p l e R s m args below meth c B.U B.locs B.cells B.slots ∧ Post ⟨T.setVm vm₁, locs, cells, slots⟩ (Value.ref b :: argsL).toArray v B ∧
      ∀ target, Steps p.tables e below (B.U.setTop { g with pc := g.pc + 3, stack := v.toList ++ rest }) target → Steps p.tables e below (T.setTop g) target := by
  obtain ⟨mk, methM, hnamed, hmethM, hstM, habM⟩ := Cond.instanceMethod_spec hinst
  obtain ⟨m8, methM', cM, hn8, hmethM', -, -, -, -, -, -, hsigM⟩ := Cond.codeWith_spec hcode
  cases Option.some.inj (hn8.symm.trans hnamed)
  cases hmethM.symm.trans hmethM'
  obtain ⟨c2, r2, m2, q1, q2, q3, q4, kP, hkP, hkPi⟩ := Cond.selects_spec hsel
  cases hcls.symm.trans q1
  cases (State.methodFound?_of_named hnamed hy).symm.trans q2
  cases hnamed.symm.trans q3
  have hselP : selectMethod e.platform s.vm cellB.cls mk = .method mk := by rw [Launch.admits_selectMethod X.admits]; exact q4
  obtain ⟨vm₁, X₁, hstep₁⟩ := X.invokevirtual hexec hown hlink hnamed hmethM hstM hkP hkPi hy (a := b) (cell := cellB) hcell
    (fun z h => by rw [h] at hobj; cases hobj) hselP hmethM habM hkP hkPi (g := g) hg (argsL := argsL) (rest := rest) (hlen _ hsigM) hstack hdg
  obtain ⟨v, B, X', hpost, hsteps⟩ := hK m meth c ⟨T.setVm vm₁, locs, cells, slots⟩ { g with stack := rest } (.invokevirtual index) mk (Value.ref b :: argsL).toArray X₁ hg hsize hdg hW (X₁.named hnamed) (hpre vm₁ X₁.warmed)
  exact ⟨v, vm₁, B, X₁.warmed, X', hpost, fun target h => hstep₁ _ fun acts => by rw [doInvoke_state]; exact hsteps.trans h⟩
abbrev vx_CVW (R : Room) (s : State) (args : Array Value) (own C : String) (index : Nat) (y : MethodName) (bytes : ByteArray) (maxL : Nat) (ret : Option FieldType) (hh : List (Nat × Nat × Nat × Nat)) (ws : List Cond) (rm : Room) (mc ms n : Nat) : Prop :=
  (rm.cells = mc ∧ rm.slots = ms ∧ rm.frames + 1 ≤ R.frames ∧ 8 + (maxL + 11) + rm.locals ≤ R.locals ∧ (∀ w ∈ ws, ∀ (a' : Array Value) (U : State), s.WarmedH U.vm → w.before a' U = true) ∧ Cond.codeWith y bytes maxL ret hh ∈ ws) ∧
  (Cond.codeWith y bytes maxL ret hh).before args s = true ∧ (Cond.initialized y.cls).before args s = true ∧ (y.cls ≠ "java/lang/invoke/MethodHandle" ∧ y.cls ≠ "java/lang/invoke/VarHandle") ∧
  (∀ sig, parseMethodDescriptor y.desc = some sig → n = sig.parameters.length) ∧ (Cond.methodLink own index y).before args s = true ∧ (Cond.instanceMethod y).before args s = true ∧ (Cond.selects C y y).before args s = true
theorem vx_cwVW {own C : String} {index maxL mc ms : Nat} {y : MethodName} {bytes : ByteArray} {ret : Option FieldType} {hh : List (Nat × Nat × Nat × Nat)} {Ts ws ws' : List Cond} {rm : Room} (n : Nat) (ht : ∀ w ∈ Ts, w.before args s = true) (hT : GoodIn Ts (wsV own index C y ws)) (hw : ws = Cond.codeWith y bytes maxL ret hh :: ws') (hrc : rm.cells = mc) (hrs : rm.slots = ms)
    (hd : y.cls = C ∧ y.cls ≠ "java/lang/invoke/MethodHandle" ∧ y.cls ≠ "java/lang/invoke/VarHandle" ∧ (parseMethodDescriptor y.desc).map (fun d => d.parameters.length) = some n) (hR : rm.frames + 1 ≤ R.frames ∧ 8 + (maxL + 11) + rm.locals ≤ R.locals) :
    vx_CVW R s args own C index y bytes maxL ret hh ws rm mc ms n := by
  obtain ⟨hC, hd⟩ := hd
  subst hC
  have ok : ∀ w ∈ wsV own index y.cls y ws, w.before args s = true := fun w h => ht w (hT w h).1
  have hG : GoodIn Ts ws := fun w h => hT w (by unfold wsV; exact List.mem_append_right _ h)
  have hc : Cond.codeWith y bytes maxL ret hh ∈ ws := by rw [hw]; exact List.mem_cons_self
  refine ⟨⟨hrc, hrs, hR.1, hR.2, pay_in ht hG, hc⟩, ht _ (hG _ hc).1, ok _ (by simp [wsV]), ⟨hd.1, hd.2.1⟩, fun sig h => ?_, ok _ (by simp [wsV]), ok _ (by simp [wsV]), ok _ (by simp [wsV])⟩
  have h2 := hd.2.2
  rw [h] at h2
  exact (Option.some.inj h2).symm
theorem vx_runVW {y : MethodName} {bytes cc : ByteArray} {maxL nL mc ms n index : Nat} {ret : Option FieldType} {hh : List (Nat × Nat × Nat × Nat)} {ws : List Cond} {rm : Room} {Pc : Array Value → State → Prop} {Qc : Array Value → State → Outcome → State → Prop} {free : Addr → Prop} {Ts : List Cond} {own C : String} {b : Addr} {As rest : List Value} {g : JFrame}
    (S : CallFix p m c cc nL s args Ts own) (hM : Met l y ws rm Pc Qc mc ms free) (cw : vx_CVW R s args own C index y bytes maxL ret hh ws rm mc ms n) (hp : PreV s H C b Pc As)
    (hg : g.method = m) (hn : As.length = n) (hsize : g.locals.size = nL) (hstack : g.stack = As.reverse ++ .ref b :: rest) (hW : 2 * g.monitorRoom + (rest.map fun v => v.category).sum ≤ 8) (hdg : decode cc g.pc = .ok (.invokevirtual index, 3)) (hf : cells + mc ≤ R.cells ∧ slots + ms ≤ R.slots) :
    va_Run p l e R s m args below meth c H locs cells slots mc ms g rest (Qc (Value.ref b :: As).toArray) free := by
  obtain ⟨⟨hrc, hrs, hfr, hlo, hws, hcw⟩, hcode, hini, hy, hlen, hl, hin, hse⟩ := cw
  have hK : Back l R p e below s args y 3 8 (PreOf R mc ms Pc) (PostOf Qc mc ms free) := va_backW (hh := hh) (bytes := bytes) (maxL := maxL) (ret := ret) hM hp.1 hrc hrs hfr hlo hws hcw (fun a' U hW => word_at hW (Or.inl (by first | rfl | simp [Cond.onTables, Cond.keeps, Cond.steady])) hini)
  obtain ⟨hx, hb, hml, ho, -⟩ := S
  obtain ⟨-, ⟨cellB, hcB, hoB, hclB⟩, hPc⟩ := hp
  intro T hT X
  obtain ⟨v, vm₁, ⟨U', l2, c2, s2⟩, hW₁, X', ⟨g', mk, t, L, e1, e2, hq, h1, hL, h2, h3⟩, st⟩ := vx_callVW X hx (C := C) (hh := hh) (bytes := bytes) (maxL := maxL) (ret := ret) ho hl hin hse hcode hy hK (by rw [hT]; exact hcB) hoB hclB hg (hsize.trans hml.symm) (argsL := As) (rest := rest) (fun sig h => hn.trans (hlen sig h)) hstack hW (by rw [hb]; exact hdg)
    (fun vm₁ hW₁ => ⟨hf.1, hf.2, hPc (T.setVm vm₁) hT hW₁⟩)
  dsimp only [Pt.U, Pt.locs, Pt.cells, Pt.slots] at X' e1 e2 h1 h2 h3 st
  subst h1; subst h2; subst h3
  exact ⟨v, (T.setVm vm₁).calling g' mk (Value.ref b :: As).toArray, t, U', L, hT, X', hL, e1, e2, hq, st⟩
section
variable {y : MethodName} {bytes cc : ByteArray} {maxL nL mc ms n index : Nat} {ret : Option FieldType} {ws : List Cond} {rm : Room} {Pc : Array Value → State → Prop} {Qc : Array Value → State → Outcome → State → Prop} {XC : String → State → State → Prop} {free : Addr → Prop} {Ts : List Cond} {own C : String} {b : Addr} {As rest : List Value} {g : JFrame}
theorem vx_runVX {hh : List (Nat × Nat × Nat × Nat)} (S : CallFix p m c cc nL s args Ts own) (hM : vx_Met l y ws rm Pc Qc XC mc ms free) (cw : vx_CVW R s args own C index y bytes maxL ret hh ws rm mc ms n) (hp : PreV s H C b Pc As)
    (hg : g.method = m) (hn : As.length = n) (hsize : g.locals.size = nL) (hstack : g.stack = As.reverse ++ .ref b :: rest) (hW : 2 * g.monitorRoom + (rest.map fun v => v.category).sum ≤ 8) (hdg : decode cc g.pc = .ok (.invokevirtual index, 3)) (hf : cells + mc ≤ R.cells ∧ slots + ms ≤ R.slots) :
    vx_Run p l e R s m args below meth c H locs cells slots mc ms g rest (Qc (Value.ref b :: As).toArray) XC free := by
  obtain ⟨⟨hrc, hrs, hfr, hlo, hws, hcw⟩, hcode, hini, hy, hlen, hl, hin, hse⟩ := cw
  have hK : vx_Back l R p e below s args y 3 8 (PreOf R mc ms Pc) (PostOf Qc mc ms free) (vx_Post XC mc ms free) := vx_backW (hh := hh) (bytes := bytes) (maxL := maxL) (ret := ret) hM hp.1 hrc hrs hfr hlo hws hcw (fun a' U hW => word_at hW (Or.inl (by first | rfl | simp [Cond.onTables, Cond.keeps, Cond.steady])) hini)
  obtain ⟨hx, hb, hml, ho, -⟩ := S
  obtain ⟨-, ⟨cellB, hcB, hoB, hclB⟩, hPc⟩ := hp
  intro T hT X
  rcases vx_callVX X hx (C := C) (hh := hh) (bytes := bytes) (maxL := maxL) (ret := ret) ho hl hin hse hcode hy hK (by rw [hT]; exact hcB) hoB hclB hg (hsize.trans hml.symm) (argsL := As) (rest := rest) (fun sig h => hn.trans (hlen sig h)) hstack hW (by rw [hb]; exact hdg)
    (fun vm₁ hW₁ => ⟨hf.1, hf.2, hPc (T.setVm vm₁) hT hW₁⟩) with ⟨v, vm₁, ⟨U', l2, c2, s2⟩, hW₁, X', ⟨g', mk, t, L, e1, e2, hq, h1, hL, h2, h3⟩, st⟩ | ⟨q, vm₁, ⟨U', l2, c2, s2⟩, hW₁, X', ⟨g', mk, t, L, E, ce, e1, e2, hq, hce, hcv, hcl, h1, hL, h2, h3⟩, st⟩
  · dsimp only [Pt.U, Pt.locs, Pt.cells, Pt.slots] at X' e1 e2 h1 h2 h3 st
    subst h1; subst h2; subst h3
    exact Or.inl ⟨v, (T.setVm vm₁).calling g' mk (Value.ref b :: As).toArray, t, U', L, hT, X', hL, e1, e2, hq, st⟩
  · dsimp only [Pt.U, Pt.locs, Pt.cells, Pt.slots] at X' e1 e2 h1 h2 h3 st hcl
    subst h1; subst h2; subst h3
    exact Or.inr ⟨q, (T.setVm vm₁).calling g' mk (Value.ref b :: As).toArray, t, U', L, E, ce, hT, X', hL, e1, e2, hq, hce, hcv, vx_cls hW₁ hcl, st⟩
theorem vx_runSX {hh : List (Nat × Nat × Nat × Nat)} (S : CallFix p m c cc nL s args Ts own) (hM : vx_Met l y ws rm Pc Qc XC mc ms free) (cw : vx_CSW R s args own index y bytes maxL ret hh ws rm mc ms n) (hp : PreS s H Pc As)
    (hg : g.method = m) (hn : As.length = n) (hsize : g.locals.size = nL) (hstack : g.stack = As.reverse ++ rest) (hW : 2 * g.monitorRoom + (rest.map fun v => v.category).sum ≤ 8) (hdg : decode cc g.pc = .ok (.invokestatic index, 3)) (hf : cells + mc ≤ R.cells ∧ slots + ms ≤ R.slots) :
    vx_Run p l e R s m args below meth c H locs cells slots mc ms g rest (Qc As.toArray) XC free := by
  obtain ⟨⟨hrc, hrs, hfr, hlo, hws, hcw⟩, hcode, hini, hy, hlen, hl, hstt⟩ := cw
  have hK : vx_Back l R p e below s args y 3 8 (PreOf R mc ms Pc) (PostOf Qc mc ms free) (vx_Post XC mc ms free) := vx_backW (hh := hh) (bytes := bytes) (maxL := maxL) (ret := ret) hM hp.1 hrc hrs hfr hlo hws hcw (fun a' U hW => word_at hW (Or.inl (by first | rfl | simp [Cond.onTables, Cond.keeps, Cond.steady])) hini)
  obtain ⟨hx, hb, hml, ho, -⟩ := S
  intro T hT X
  rcases vx_callSX X hx (hh := hh) (bytes := bytes) (maxL := maxL) (ret := ret) ho hl hstt hini hcode hy hK hg (hsize.trans hml.symm) (argsL := As) (rest := rest) (fun sig h => hn.trans (hlen sig h)) hstack hW (by rw [hb]; exact hdg)
    (fun vm₁ hW₁ => ⟨hf.1, hf.2, hp.2 (T.setVm vm₁) hT hW₁⟩) with ⟨v, vm₁, ⟨U', l2, c2, s2⟩, hW₁, X', ⟨g', mk, t, L, e1, e2, hq, h1, hL, h2, h3⟩, st⟩ | ⟨q, vm₁, ⟨U', l2, c2, s2⟩, hW₁, X', ⟨g', mk, t, L, E, ce, e1, e2, hq, hce, hcv, hcl, h1, hL, h2, h3⟩, st⟩
  · dsimp only [Pt.U, Pt.locs, Pt.cells, Pt.slots] at X' e1 e2 h1 h2 h3 st
    subst h1; subst h2; subst h3
    exact Or.inl ⟨v, (T.setVm vm₁).calling g' mk As.toArray, t, U', L, hT, X', hL, e1, e2, hq, st⟩
  · dsimp only [Pt.U, Pt.locs, Pt.cells, Pt.slots] at X' e1 e2 h1 h2 h3 st hcl
    subst h1; subst h2; subst h3
    exact Or.inr ⟨q, (T.setVm vm₁).calling g' mk As.toArray, t, U', L, E, ce, hT, X', hL, e1, e2, hq, hce, hcv, vx_cls hW₁ hcl, st⟩
end
end VXH
theorem vx_ofWH {l : Launch} {y : MethodName} {ws ws' : List Cond} {rm : Room} {Pc : Array Value → State → Prop} {Qc : Array Value → State → Outcome → State → Prop} {XC : String → State → State → Prop} {mc ms : Nat} {free : Addr → Prop} {cc : ByteArray} {maxL : Nat} {ret : Option FieldType} {hh : List (Nat × Nat × Nat × Nat)}
    (hy : plainName y.cls = true) (hw : ws = Cond.codeWith y cc maxL ret hh :: ws')
    (body : ∀ p e s m args below meth c s₁, BodyLoose p l y (headSpec ws rm) cc maxL ret e s m args below meth c s₁ → c.maxLocals = maxL → Pc args s →
      W p l e (headSpec ws rm).room s m args below meth c s.heap [] 0 0 (vx_MQ below Qc XC args s mc ms free) (entryFrame m args maxL)) : vx_Met l y ws rm Pc Qc XC mc ms free := by
  refine MetFree.of_bodyS (code := cc) (maxLocals := maxL) (ret := ret) hy ?_ ?_
  · intro args s m h hn
    obtain ⟨m9, meth, c, hn9, h1, h2, h3, h4, -, h5, h6, -⟩ := Cond.codeWith_spec (atoms_spec (ws := ws) h _ (by rw [hw]; exact List.mem_cons_self))
    cases hn.symm.trans hn9
    exact ⟨meth, c, h1, h2, h3, h4, h5, h6⟩
  · intro p e s m args below meth c s₁ B hml hP _
    have hh0 : s₁.heap = s.heap := by rw [B.state]; rfl
    obtain ⟨t, a1, o, b1, b2, b3⟩ := body p e s m args below meth c s₁ B hml hP s₁ hh0 (Stand.of_body B)
    exact ⟨t, o, a1, b1, b2, b3⟩
/-! ===== END ===== -/

/-! ===== BEGIN printed: names, fields, word lists, decode rows ===== -/
def RX0 : String := "Fishclock$Boats"
def TX0 : u_T := fun k => match k with
  | 0 => ("Fishclock$Boats", "quota", "LFishclock$Row;", true)
  | 1 => ("Fishclock$Boats", "landedOfKind", "LFishclock$Row;", true)
  | 2 => ("Fishclock$Boats", "landed", "LFishclock$Row;", true)
  | 3 => ("Fishclock$Boats", "aid", "LFishclock$Row;", true)
  | 4 => ("Fishclock$Boats", "isDay", "LFishclock$Row;", true)
  | 5 => ("Fishclock$Boats", "account", "LFishclock$Row;", true)
  | _ => ("Fishclock$Boats", "waiting", "LFishclock$Row;", true)
def tyX0 : Nat → FieldType := fun k => match k with
  | 0 => .object "Fishclock$Row"
  | 1 => .object "Fishclock$Row"
  | 2 => .object "Fishclock$Row"
  | 3 => .object "Fishclock$Row"
  | 4 => .object "Fishclock$Row"
  | 5 => .object "Fishclock$Row"
  | _ => .object "Fishclock$Row"
theorem nmX0 : ∀ a, a < 7 → ∀ b, b < 7 → a ≠ b → (TX0 a).2.1 ≠ (TX0 b).2.1 := by decide +kernel
theorem tyX0_ok : ∀ k, k < 7 → parseFieldDescriptor (TX0 k).2.2.1 = some (tyX0 k) := by decide +kernel
abbrev cX0_init : ByteArray := prog_2_method_1_code
def yX0_init : MethodName := ⟨RX0, "<init>", "()V"⟩
abbrev cX0_placeOf : ByteArray := prog_2_method_2_code
def yX0_placeOf : MethodName := ⟨RX0, "placeOf", "(II)I"⟩
abbrev cX0_addLanded : ByteArray := prog_2_method_3_code
def yX0_addLanded : MethodName := ⟨RX0, "addLanded", "(III)V"⟩
abbrev cX0_isAboveQuota : ByteArray := prog_2_method_4_code
def yX0_isAboveQuota : MethodName := ⟨RX0, "isAboveQuota", "(II)Z"⟩
abbrev cX0_waits : ByteArray := prog_2_method_5_code
def yX0_waits : MethodName := ⟨RX0, "waits", "(IZ)Z"⟩
abbrev cX0_countWaiting : ByteArray := prog_2_method_6_code
def yX0_countWaiting : MethodName := ⟨RX0, "countWaiting", "(Z)I"⟩
abbrev cX0_findWaiting : ByteArray := prog_2_method_7_code
def yX0_findWaiting : MethodName := ⟨RX0, "findWaiting", "(ZI)I"⟩
def RX1 : String := "Fishclock$Boxes"
def TX1 : u_T := fun k => match k with
  | 0 => ("Fishclock$Boxes", "boat", "LFishclock$Row;", true)
  | 1 => ("Fishclock$Boxes", "rank", "LFishclock$Row;", true)
  | 2 => ("Fishclock$Boxes", "kilos", "LFishclock$Row;", true)
  | 3 => ("Fishclock$Boxes", "real", "LFishclock$Row;", true)
  | 4 => ("Fishclock$Boxes", "state", "LFishclock$Row;", true)
  | 5 => ("Fishclock$Boxes", "lot", "LFishclock$Row;", true)
  | 6 => ("Fishclock$Boxes", "buyer", "LFishclock$Row;", true)
  | 7 => ("Fishclock$Boxes", "price", "LFishclock$Row;", true)
  | 8 => ("Fishclock$Boxes", "soldTick", "LFishclock$Row;", true)
  | 9 => ("Fishclock$Boxes", "soldDay", "LFishclock$Row;", true)
  | 10 => ("Fishclock$Boxes", "wasCarried", "LFishclock$Row;", true)
  | 11 => ("Fishclock$Boxes", "isClaimed", "LFishclock$Row;", true)
  | 12 => ("Fishclock$Boxes", "sums", "LFishclock$Row;", true)
  | _ => ("Fishclock$Boxes", "count", "I", false)
def tyX1 : Nat → FieldType := fun k => match k with
  | 0 => .object "Fishclock$Row"
  | 1 => .object "Fishclock$Row"
  | 2 => .object "Fishclock$Row"
  | 3 => .object "Fishclock$Row"
  | 4 => .object "Fishclock$Row"
  | 5 => .object "Fishclock$Row"
  | 6 => .object "Fishclock$Row"
  | 7 => .object "Fishclock$Row"
  | 8 => .object "Fishclock$Row"
  | 9 => .object "Fishclock$Row"
  | 10 => .object "Fishclock$Row"
  | 11 => .object "Fishclock$Row"
  | 12 => .object "Fishclock$Row"
  | _ => .int
theorem nmX1 : ∀ a, a < 14 → ∀ b, b < 14 → a ≠ b → (TX1 a).2.1 ≠ (TX1 b).2.1 := by decide +kernel
theorem tyX1_ok : ∀ k, k < 14 → parseFieldDescriptor (TX1 k).2.2.1 = some (tyX1 k) := by decide +kernel
abbrev cX1_init : ByteArray := prog_3_method_1_code
def yX1_init : MethodName := ⟨RX1, "<init>", "()V"⟩
abbrev cX1_rankOf : ByteArray := prog_3_method_2_code
def yX1_rankOf : MethodName := ⟨RX1, "rankOf", "(III)I"⟩
abbrev cX1_kindOf : ByteArray := prog_3_method_3_code
def yX1_kindOf : MethodName := ⟨RX1, "kindOf", "(I)I"⟩
abbrev cX1_sizeOf : ByteArray := prog_3_method_4_code
def yX1_sizeOf : MethodName := ⟨RX1, "sizeOf", "(I)I"⟩
abbrev cX1_freshOf : ByteArray := prog_3_method_5_code
def yX1_freshOf : MethodName := ⟨RX1, "freshOf", "(I)I"⟩
abbrev cX1_sumOf : ByteArray := prog_3_method_6_code
def yX1_sumOf : MethodName := ⟨RX1, "sumOf", "(I)I"⟩
abbrev cX1_add : ByteArray := prog_3_method_7_code
def yX1_add : MethodName := ⟨RX1, "add", "(IIIII)I"⟩
abbrev cX1_isWaiting : ByteArray := prog_3_method_8_code
def yX1_isWaiting : MethodName := ⟨RX1, "isWaiting", "(I)Z"⟩
abbrev cX1_countWaiting : ByteArray := prog_3_method_9_code
def yX1_countWaiting : MethodName := ⟨RX1, "countWaiting", "()I"⟩
abbrev cX1_move : ByteArray := prog_3_method_10_code
def yX1_move : MethodName := ⟨RX1, "move", "(II)V"⟩
abbrev cX1_sell : ByteArray := prog_3_method_11_code
def yX1_sell : MethodName := ⟨RX1, "sell", "(III)V"⟩
abbrev cX1_canBeCarried : ByteArray := prog_3_method_12_code
def yX1_canBeCarried : MethodName := ⟨RX1, "canBeCarried", "(I)Z"⟩
abbrev cX1_carry : ByteArray := prog_3_method_13_code
def yX1_carry : MethodName := ⟨RX1, "carry", "(I)V"⟩
abbrev cX1_centsLacking : ByteArray := prog_3_method_14_code
def yX1_centsLacking : MethodName := ⟨RX1, "centsLacking", "(I)I"⟩
def RX2 : String := "Fishclock$Buyers"
def TX2 : u_T := fun k => match k with
  | 0 => ("Fishclock$Buyers", "guarantee", "LFishclock$Row;", true)
  | 1 => ("Fishclock$Buyers", "delay", "LFishclock$Row;", true)
  | 2 => ("Fishclock$Buyers", "owed", "LFishclock$Row;", true)
  | 3 => ("Fishclock$Buyers", "bought", "LFishclock$Row;", true)
  | _ => ("Fishclock$Buyers", "line", "LFishclock$Row;", true)
def tyX2 : Nat → FieldType := fun k => match k with
  | 0 => .object "Fishclock$Row"
  | 1 => .object "Fishclock$Row"
  | 2 => .object "Fishclock$Row"
  | 3 => .object "Fishclock$Row"
  | _ => .object "Fishclock$Row"
theorem nmX2 : ∀ a, a < 5 → ∀ b, b < 5 → a ≠ b → (TX2 a).2.1 ≠ (TX2 b).2.1 := by decide +kernel
theorem tyX2_ok : ∀ k, k < 5 → parseFieldDescriptor (TX2 k).2.2.1 = some (tyX2 k) := by decide +kernel
abbrev cX2_init : ByteArray := prog_4_method_1_code
def yX2_init : MethodName := ⟨RX2, "<init>", "()V"⟩
abbrev cX2_leftOf : ByteArray := prog_4_method_2_code
def yX2_leftOf : MethodName := ⟨RX2, "leftOf", "(I)I"⟩
abbrev cX2_greatestDelay : ByteArray := prog_4_method_3_code
def yX2_greatestDelay : MethodName := ⟨RX2, "greatestDelay", "()I"⟩
def RX3 : String := "Fishclock$Clocks"
def TX3 : u_T := fun k => match k with
  | 0 => ("Fishclock$Clocks", "state", "LFishclock$Row;", true)
  | 1 => ("Fishclock$Clocks", "lot", "LFishclock$Row;", true)
  | 2 => ("Fishclock$Clocks", "price", "LFishclock$Row;", true)
  | 3 => ("Fishclock$Clocks", "winner", "LFishclock$Row;", true)
  | 4 => ("Fishclock$Clocks", "lotsLeft", "LFishclock$Row;", true)
  | 5 => ("Fishclock$Clocks", "until", "LFishclock$Row;", true)
  | 6 => ("Fishclock$Clocks", "step", "LFishclock$Row;", true)
  | _ => ("Fishclock$Clocks", "power", "LFishclock$Row;", true)
def tyX3 : Nat → FieldType := fun k => match k with
  | 0 => .object "Fishclock$Row"
  | 1 => .object "Fishclock$Row"
  | 2 => .object "Fishclock$Row"
  | 3 => .object "Fishclock$Row"
  | 4 => .object "Fishclock$Row"
  | 5 => .object "Fishclock$Row"
  | 6 => .object "Fishclock$Row"
  | _ => .object "Fishclock$Row"
theorem nmX3 : ∀ a, a < 8 → ∀ b, b < 8 → a ≠ b → (TX3 a).2.1 ≠ (TX3 b).2.1 := by decide +kernel
theorem tyX3_ok : ∀ k, k < 8 → parseFieldDescriptor (TX3 k).2.2.1 = some (tyX3 k) := by decide +kernel
abbrev cX3_init : ByteArray := prog_5_method_1_code
def yX3_init : MethodName := ⟨RX3, "<init>", "()V"⟩
def RX4 : String := "Fishclock$Kinds"
def TX4 : u_T := fun k => match k with
  | 0 => ("Fishclock$Kinds", "start", "LFishclock$Row;", true)
  | 1 => ("Fishclock$Kinds", "minimum", "LFishclock$Row;", true)
  | _ => ("Fishclock$Kinds", "hall", "LFishclock$Row;", true)
def tyX4 : Nat → FieldType := fun k => match k with
  | 0 => .object "Fishclock$Row"
  | 1 => .object "Fishclock$Row"
  | _ => .object "Fishclock$Row"
theorem nmX4 : ∀ a, a < 3 → ∀ b, b < 3 → a ≠ b → (TX4 a).2.1 ≠ (TX4 b).2.1 := by decide +kernel
theorem tyX4_ok : ∀ k, k < 3 → parseFieldDescriptor (TX4 k).2.2.1 = some (tyX4 k) := by decide +kernel
abbrev cX4_init : ByteArray := prog_6_method_1_code
def yX4_init : MethodName := ⟨RX4, "<init>", "()V"⟩
abbrev cX4_minimumOf : ByteArray := prog_6_method_2_code
def yX4_minimumOf : MethodName := ⟨RX4, "minimumOf", "(I)I"⟩
def RX5 : String := "Fishclock$Lorries"
def TX5 : u_T := fun k => match k with
  | 0 => ("Fishclock$Lorries", "buyer", "LFishclock$Row;", true)
  | 1 => ("Fishclock$Lorries", "tick", "LFishclock$Row;", true)
  | 2 => ("Fishclock$Lorries", "many", "LFishclock$Row;", true)
  | 3 => ("Fishclock$Lorries", "loaded", "LFishclock$Row;", true)
  | _ => ("Fishclock$Lorries", "count", "I", false)
def tyX5 : Nat → FieldType := fun k => match k with
  | 0 => .object "Fishclock$Row"
  | 1 => .object "Fishclock$Row"
  | 2 => .object "Fishclock$Row"
  | 3 => .object "Fishclock$Row"
  | _ => .int
theorem nmX5 : ∀ a, a < 5 → ∀ b, b < 5 → a ≠ b → (TX5 a).2.1 ≠ (TX5 b).2.1 := by decide +kernel
theorem tyX5_ok : ∀ k, k < 5 → parseFieldDescriptor (TX5 k).2.2.1 = some (tyX5 k) := by decide +kernel
abbrev cX5_init : ByteArray := prog_7_method_1_code
def yX5_init : MethodName := ⟨RX5, "<init>", "()V"⟩
abbrev cX5_add : ByteArray := prog_7_method_2_code
def yX5_add : MethodName := ⟨RX5, "add", "(III)I"⟩
def RX6 : String := "Fishclock$Lots"
def TX6 : u_T := fun k => match k with
  | 0 => ("Fishclock$Lots", "boat", "LFishclock$Row;", true)
  | 1 => ("Fishclock$Lots", "rank", "LFishclock$Row;", true)
  | 2 => ("Fishclock$Lots", "hall", "LFishclock$Row;", true)
  | 3 => ("Fishclock$Lots", "first", "LFishclock$Row;", true)
  | 4 => ("Fishclock$Lots", "behind", "LFishclock$Row;", true)
  | 5 => ("Fishclock$Lots", "order", "LFishclock$Row;", true)
  | 6 => ("Fishclock$Lots", "alike", "LFishclock$Row;", true)
  | 7 => ("Fishclock$Lots", "count", "I", false)
  | _ => ("Fishclock$Lots", "reserved", "I", false)
def tyX6 : Nat → FieldType := fun k => match k with
  | 0 => .object "Fishclock$Row"
  | 1 => .object "Fishclock$Row"
  | 2 => .object "Fishclock$Row"
  | 3 => .object "Fishclock$Row"
  | 4 => .object "Fishclock$Row"
  | 5 => .object "Fishclock$Row"
  | 6 => .object "Fishclock$Row"
  | 7 => .int
  | _ => .int
theorem nmX6 : ∀ a, a < 9 → ∀ b, b < 9 → a ≠ b → (TX6 a).2.1 ≠ (TX6 b).2.1 := by decide +kernel
theorem tyX6_ok : ∀ k, k < 9 → parseFieldDescriptor (TX6 k).2.2.1 = some (tyX6 k) := by decide +kernel
abbrev cX6_init : ByteArray := prog_8_method_1_code
def yX6_init : MethodName := ⟨RX6, "<init>", "()V"⟩
abbrev cX6_clear : ByteArray := prog_8_method_2_code
def yX6_clear : MethodName := ⟨RX6, "clear", "()V"⟩
abbrev cX6_add : ByteArray := prog_8_method_3_code
def yX6_add : MethodName := ⟨RX6, "add", "(III)V"⟩
abbrev cX6_addBox : ByteArray := prog_8_method_4_code
def yX6_addBox : MethodName := ⟨RX6, "addBox", "(II)I"⟩
abbrev cX6_left : ByteArray := prog_8_method_5_code
def yX6_left : MethodName := ⟨RX6, "left", "(I)I"⟩
abbrev cX6_boxAt : ByteArray := prog_8_method_6_code
def yX6_boxAt : MethodName := ⟨RX6, "boxAt", "(II)I"⟩
abbrev cX6_countIn : ByteArray := prog_8_method_7_code
def yX6_countIn : MethodName := ⟨RX6, "countIn", "(I)I"⟩
abbrev cX6_nextIn : ByteArray := prog_8_method_8_code
def yX6_nextIn : MethodName := ⟨RX6, "nextIn", "(II)I"⟩
def RX7 : String := "Fishclock$Presses"
def TX7 : u_T := fun k => match k with
  | 0 => ("Fishclock$Presses", "price", "LFishclock$Row;", true)
  | 1 => ("Fishclock$Presses", "tick", "LFishclock$Row;", true)
  | _ => ("Fishclock$Presses", "comes", "LFishclock$Row;", true)
def tyX7 : Nat → FieldType := fun k => match k with
  | 0 => .object "Fishclock$Row"
  | 1 => .object "Fishclock$Row"
  | _ => .object "Fishclock$Row"
theorem nmX7 : ∀ a, a < 3 → ∀ b, b < 3 → a ≠ b → (TX7 a).2.1 ≠ (TX7 b).2.1 := by decide +kernel
theorem tyX7_ok : ∀ k, k < 3 → parseFieldDescriptor (TX7 k).2.2.1 = some (tyX7 k) := by decide +kernel
abbrev cX7_init : ByteArray := prog_9_method_1_code
def yX7_init : MethodName := ⟨RX7, "<init>", "()V"⟩
abbrev cX7_placeOf : ByteArray := prog_9_method_2_code
def yX7_placeOf : MethodName := ⟨RX7, "placeOf", "(II)I"⟩
abbrev cX7_make : ByteArray := prog_9_method_3_code
def yX7_make : MethodName := ⟨RX7, "make", "(IIIII)V"⟩
abbrev cX7_forget : ByteArray := prog_9_method_4_code
def yX7_forget : MethodName := ⟨RX7, "forget", "(I)V"⟩
abbrev cX7_isMade : ByteArray := prog_9_method_5_code
def yX7_isMade : MethodName := ⟨RX7, "isMade", "(II)Z"⟩
abbrev cX7_isHeard : ByteArray := prog_9_method_6_code
def yX7_isHeard : MethodName := ⟨RX7, "isHeard", "(III)Z"⟩
abbrev cX7_isAnyHeard : ByteArray := prog_9_method_7_code
def yX7_isAnyHeard : MethodName := ⟨RX7, "isAnyHeard", "(II)Z"⟩
abbrev cX7_priceOf : ByteArray := prog_9_method_8_code
def yX7_priceOf : MethodName := ⟨RX7, "priceOf", "(II)I"⟩
abbrev cX7_isAhead : ByteArray := prog_9_method_9_code
def yX7_isAhead : MethodName := ⟨RX7, "isAhead", "(III)Z"⟩
def RX8 : String := "Fishclock$Row"
def TX8 : u_T := fun k => match k with
  | _ => ("Fishclock$Row", "cells", "[I", true)
def tyX8 : Nat → FieldType := fun k => match k with
  | _ => .array .int
theorem nmX8 : ∀ a, a < 1 → ∀ b, b < 1 → a ≠ b → (TX8 a).2.1 ≠ (TX8 b).2.1 := by decide +kernel
theorem tyX8_ok : ∀ k, k < 1 → parseFieldDescriptor (TX8 k).2.2.1 = some (tyX8 k) := by decide +kernel
abbrev cX8_init : ByteArray := prog_10_method_1_code
def yX8_init : MethodName := ⟨RX8, "<init>", "(II)V"⟩
abbrev cX8_at : ByteArray := prog_10_method_2_code
def yX8_at : MethodName := ⟨RX8, "at", "(I)I"⟩
abbrev cX8_put : ByteArray := prog_10_method_3_code
def yX8_put : MethodName := ⟨RX8, "put", "(II)V"⟩
abbrev cX8_add : ByteArray := prog_10_method_4_code
def yX8_add : MethodName := ⟨RX8, "add", "(II)V"⟩
abbrev cX8_swap : ByteArray := prog_10_method_5_code
def yX8_swap : MethodName := ⟨RX8, "swap", "(II)I"⟩
abbrev cX8_fill : ByteArray := prog_10_method_6_code
def yX8_fill : MethodName := ⟨RX8, "fill", "(I)V"⟩
def RX9 : String := "Fishclock"
def TX9 : u_T := fun k => match k with
  | 0 => ("Fishclock", "boats", "LFishclock$Boats;", true)
  | 1 => ("Fishclock", "kinds", "LFishclock$Kinds;", true)
  | 2 => ("Fishclock", "buyers", "LFishclock$Buyers;", true)
  | 3 => ("Fishclock", "boxes", "LFishclock$Boxes;", true)
  | 4 => ("Fishclock", "lots", "LFishclock$Lots;", true)
  | 5 => ("Fishclock", "clocks", "LFishclock$Clocks;", true)
  | 6 => ("Fishclock", "presses", "LFishclock$Presses;", true)
  | 7 => ("Fishclock", "lorries", "LFishclock$Lorries;", true)
  | 8 => ("Fishclock", "now", "I", false)
  | 9 => ("Fishclock", "day", "I", false)
  | 10 => ("Fishclock", "isOpen", "Z", false)
  | _ => ("Fishclock", "drawn", "I", false)
def tyX9 : Nat → FieldType := fun k => match k with
  | 0 => .object "Fishclock$Boats"
  | 1 => .object "Fishclock$Kinds"
  | 2 => .object "Fishclock$Buyers"
  | 3 => .object "Fishclock$Boxes"
  | 4 => .object "Fishclock$Lots"
  | 5 => .object "Fishclock$Clocks"
  | 6 => .object "Fishclock$Presses"
  | 7 => .object "Fishclock$Lorries"
  | 8 => .int
  | 9 => .int
  | 10 => .boolean
  | _ => .int
theorem nmX9 : ∀ a, a < 12 → ∀ b, b < 12 → a ≠ b → (TX9 a).2.1 ≠ (TX9 b).2.1 := by decide +kernel
theorem tyX9_ok : ∀ k, k < 12 → parseFieldDescriptor (TX9 k).2.2.1 = some (tyX9 k) := by decide +kernel
abbrev cX9_init : ByteArray := prog_1_method_1_code
def yX9_init : MethodName := ⟨RX9, "<init>", "()V"⟩
abbrev cX9_quota : ByteArray := prog_1_method_2_code
def yX9_quota : MethodName := ⟨RX9, "quota", "(III)I"⟩
abbrev cX9_aid : ByteArray := prog_1_method_3_code
def yX9_aid : MethodName := ⟨RX9, "aid", "(IIZ)I"⟩
abbrev cX9_kind : ByteArray := prog_1_method_4_code
def yX9_kind : MethodName := ⟨RX9, "kind", "(IIII)V"⟩
abbrev cX9_step : ByteArray := prog_1_method_5_code
def yX9_step : MethodName := ⟨RX9, "step", "(II)I"⟩
abbrev cX9_buyer : ByteArray := prog_1_method_6_code
def yX9_buyer : MethodName := ⟨RX9, "buyer", "(III)I"⟩
abbrev cX9_draw : ByteArray := prog_1_method_7_code
def yX9_draw : MethodName := ⟨RX9, "draw", "(I)I"⟩
abbrev cX9_power : ByteArray := prog_1_method_8_code
def yX9_power : MethodName := ⟨RX9, "power", "(IZ)Z"⟩
abbrev cX9_line : ByteArray := prog_1_method_9_code
def yX9_line : MethodName := ⟨RX9, "line", "(IZ)Z"⟩
abbrev cX9_land : ByteArray := prog_1_method_10_code
def yX9_land : MethodName := ⟨RX9, "land", "(IIIIII)I"⟩
abbrev cX9_open : ByteArray := prog_1_method_11_code
def yX9_open : MethodName := ⟨RX9, "open", "()I"⟩
abbrev cX9_end : ByteArray := prog_1_method_12_code
def yX9_end : MethodName := ⟨RX9, "end", "()I"⟩
abbrev cX9_press : ByteArray := prog_1_method_13_code
def yX9_press : MethodName := ⟨RX9, "press", "(II)I"⟩
abbrev cX9_take : ByteArray := prog_1_method_14_code
def yX9_take : MethodName := ⟨RX9, "take", "(III)I"⟩
abbrev cX9_pass : ByteArray := prog_1_method_15_code
def yX9_pass : MethodName := ⟨RX9, "pass", "(I)I"⟩
abbrev cX9_lorry : ByteArray := prog_1_method_16_code
def yX9_lorry : MethodName := ⟨RX9, "lorry", "(III)I"⟩
abbrev cX9_pay : ByteArray := prog_1_method_17_code
def yX9_pay : MethodName := ⟨RX9, "pay", "(II)I"⟩
abbrev cX9_claim : ByteArray := prog_1_method_18_code
def yX9_claim : MethodName := ⟨RX9, "claim", "(II)I"⟩
abbrev cX9_settle : ByteArray := prog_1_method_19_code
def yX9_settle : MethodName := ⟨RX9, "settle", "(III)I"⟩
abbrev cX9_now : ByteArray := prog_1_method_20_code
def yX9_now : MethodName := ⟨RX9, "now", "()I"⟩
abbrev cX9_day : ByteArray := prog_1_method_21_code
def yX9_day : MethodName := ⟨RX9, "day", "()I"⟩
abbrev cX9_isOpen : ByteArray := prog_1_method_22_code
def yX9_isOpen : MethodName := ⟨RX9, "isOpen", "()Z"⟩
abbrev cX9_told : ByteArray := prog_1_method_23_code
def yX9_told : MethodName := ⟨RX9, "told", "(II)I"⟩
abbrev cX9_lot : ByteArray := prog_1_method_24_code
def yX9_lot : MethodName := ⟨RX9, "lot", "(II)I"⟩
abbrev cX9_hall : ByteArray := prog_1_method_25_code
def yX9_hall : MethodName := ⟨RX9, "hall", "(II)I"⟩
abbrev cX9_account : ByteArray := prog_1_method_26_code
def yX9_account : MethodName := ⟨RX9, "account", "(II)I"⟩
abbrev cX9_ship : ByteArray := prog_1_method_27_code
def yX9_ship : MethodName := ⟨RX9, "ship", "(II)I"⟩
abbrev cX9_kilos : ByteArray := prog_1_method_28_code
def yX9_kilos : MethodName := ⟨RX9, "kilos", "(I)I"⟩
abbrev cX9_kilosAnew : ByteArray := prog_1_method_29_code
def yX9_kilosAnew : MethodName := ⟨RX9, "kilosAnew", "(I)I"⟩
abbrev cX9_average : ByteArray := prog_1_method_30_code
def yX9_average : MethodName := ⟨RX9, "average", "(II)I"⟩
abbrev cX9_loaded : ByteArray := prog_1_method_31_code
def yX9_loaded : MethodName := ⟨RX9, "loaded", "(I)I"⟩
abbrev cX9_mustExist : ByteArray := prog_1_method_32_code
def yX9_mustExist : MethodName := ⟨RX9, "mustExist", "(II)V"⟩
abbrev cX9_mustBeIn : ByteArray := prog_1_method_33_code
def yX9_mustBeIn : MethodName := ⟨RX9, "mustBeIn", "(III)V"⟩
abbrev cX9_mustHold : ByteArray := prog_1_method_34_code
def yX9_mustHold : MethodName := ⟨RX9, "mustHold", "(Z)V"⟩
abbrev cX9_countWaitingBoxes : ByteArray := prog_1_method_35_code
def yX9_countWaitingBoxes : MethodName := ⟨RX9, "countWaitingBoxes", "()V"⟩
abbrev cX9_offerBoats : ByteArray := prog_1_method_36_code
def yX9_offerBoats : MethodName := ⟨RX9, "offerBoats", "(Z)V"⟩
abbrev cX9_offerBoat : ByteArray := prog_1_method_37_code
def yX9_offerBoat : MethodName := ⟨RX9, "offerBoat", "(I)V"⟩
abbrev cX9_tickHalls : ByteArray := prog_1_method_38_code
def yX9_tickHalls : MethodName := ⟨RX9, "tickHalls", "()V"⟩
abbrev cX9_tickFalling : ByteArray := prog_1_method_39_code
def yX9_tickFalling : MethodName := ⟨RX9, "tickFalling", "(I)V"⟩
abbrev cX9_tickStanding : ByteArray := prog_1_method_40_code
def yX9_tickStanding : MethodName := ⟨RX9, "tickStanding", "(I)V"⟩
abbrev cX9_tickTaking : ByteArray := prog_1_method_41_code
def yX9_tickTaking : MethodName := ⟨RX9, "tickTaking", "(I)V"⟩
abbrev cX9_findWinner : ByteArray := prog_1_method_42_code
def yX9_findWinner : MethodName := ⟨RX9, "findWinner", "(I)I"⟩
abbrev cX9_bringToClock : ByteArray := prog_1_method_43_code
def yX9_bringToClock : MethodName := ⟨RX9, "bringToClock", "(II)V"⟩
abbrev cX9_beginRound : ByteArray := prog_1_method_44_code
def yX9_beginRound : MethodName := ⟨RX9, "beginRound", "(I)V"⟩
abbrev cX9_goOn : ByteArray := prog_1_method_45_code
def yX9_goOn : MethodName := ⟨RX9, "goOn", "(I)V"⟩
abbrev cX9_costOfFirst : ByteArray := prog_1_method_46_code
def yX9_costOfFirst : MethodName := ⟨RX9, "costOfFirst", "(II)I"⟩
abbrev cX9_sellFirst : ByteArray := prog_1_method_47_code
def yX9_sellFirst : MethodName := ⟨RX9, "sellFirst", "(II)V"⟩
abbrev cX9_withdrawRest : ByteArray := prog_1_method_48_code
def yX9_withdrawRest : MethodName := ⟨RX9, "withdrawRest", "(I)I"⟩
abbrev cX9_withdraw : ByteArray := prog_1_method_49_code
def yX9_withdraw : MethodName := ⟨RX9, "withdraw", "(I)V"⟩
abbrev cX9_sendLorries : ByteArray := prog_1_method_50_code
def yX9_sendLorries : MethodName := ⟨RX9, "sendLorries", "()V"⟩
abbrev cX9_fetch : ByteArray := prog_1_method_51_code
def yX9_fetch : MethodName := ⟨RX9, "fetch", "(I)V"⟩
def RX10 : String := "FishclockModel"
def TX10 : u_T := fun k => match k with
  | 0 => ("FishclockModel", "now", "I", false)
  | 1 => ("FishclockModel", "day", "I", false)
  | 2 => ("FishclockModel", "isOpen", "Z", false)
  | 3 => ("FishclockModel", "x", "I", false)
  | 4 => ("FishclockModel", "quota", "[I", true)
  | 5 => ("FishclockModel", "landed", "[I", true)
  | 6 => ("FishclockModel", "aid", "[I", true)
  | 7 => ("FishclockModel", "isDay", "[Z", true)
  | 8 => ("FishclockModel", "purse", "[I", true)
  | 9 => ("FishclockModel", "start", "[I", true)
  | 10 => ("FishclockModel", "minimum", "[I", true)
  | 11 => ("FishclockModel", "hallOf", "[I", true)
  | 12 => ("FishclockModel", "guarantee", "[I", true)
  | 13 => ("FishclockModel", "delay", "[I", true)
  | 14 => ("FishclockModel", "owes", "[I", true)
  | 15 => ("FishclockModel", "isUp", "[Z", true)
  | 16 => ("FishclockModel", "boxes", "I", false)
  | 17 => ("FishclockModel", "boat", "[I", true)
  | 18 => ("FishclockModel", "kind", "[I", true)
  | 19 => ("FishclockModel", "size", "[I", true)
  | 20 => ("FishclockModel", "fresh", "[I", true)
  | 21 => ("FishclockModel", "kilos", "[I", true)
  | 22 => ("FishclockModel", "real", "[I", true)
  | 23 => ("FishclockModel", "state", "[I", true)
  | 24 => ("FishclockModel", "wasCarried", "[Z", true)
  | 25 => ("FishclockModel", "buyer", "[I", true)
  | 26 => ("FishclockModel", "price", "[I", true)
  | 27 => ("FishclockModel", "soldAt", "[I", true)
  | 28 => ("FishclockModel", "soldOn", "[I", true)
  | 29 => ("FishclockModel", "isClaimed", "[Z", true)
  | 30 => ("FishclockModel", "lotOf", "[I", true)
  | 31 => ("FishclockModel", "lots", "I", false)
  | 32 => ("FishclockModel", "lotBoat", "[I", true)
  | 33 => ("FishclockModel", "lotKind", "[I", true)
  | 34 => ("FishclockModel", "lotSize", "[I", true)
  | 35 => ("FishclockModel", "lotFresh", "[I", true)
  | 36 => ("FishclockModel", "lotHall", "[I", true)
  | 37 => ("FishclockModel", "isDone", "[Z", true)
  | 38 => ("FishclockModel", "step", "[I", true)
  | 39 => ("FishclockModel", "hasPower", "[Z", true)
  | 40 => ("FishclockModel", "clock", "[I", true)
  | 41 => ("FishclockModel", "at", "[I", true)
  | 42 => ("FishclockModel", "shown", "[I", true)
  | 43 => ("FishclockModel", "until", "[I", true)
  | 44 => ("FishclockModel", "winner", "[I", true)
  | 45 => ("FishclockModel", "pressed", "[I", true)
  | 46 => ("FishclockModel", "comes", "[I", true)
  | 47 => ("FishclockModel", "kept", "[I", true)
  | 48 => ("FishclockModel", "isHeard", "[Z", true)
  | 49 => ("FishclockModel", "lorries", "I", false)
  | 50 => ("FishclockModel", "lorryBuyer", "[I", true)
  | 51 => ("FishclockModel", "lorryTick", "[I", true)
  | 52 => ("FishclockModel", "lorryMany", "[I", true)
  | 53 => ("FishclockModel", "loaded", "[I", true)
  | _ => ("FishclockModel", "thrown", "I", false)
def tyX10 : Nat → FieldType := fun k => match k with
  | 0 => .int
  | 1 => .int
  | 2 => .boolean
  | 3 => .int
  | 4 => .array .int
  | 5 => .array .int
  | 6 => .array .int
  | 7 => .array .boolean
  | 8 => .array .int
  | 9 => .array .int
  | 10 => .array .int
  | 11 => .array .int
  | 12 => .array .int
  | 13 => .array .int
  | 14 => .array .int
  | 15 => .array .boolean
  | 16 => .int
  | 17 => .array .int
  | 18 => .array .int
  | 19 => .array .int
  | 20 => .array .int
  | 21 => .array .int
  | 22 => .array .int
  | 23 => .array .int
  | 24 => .array .boolean
  | 25 => .array .int
  | 26 => .array .int
  | 27 => .array .int
  | 28 => .array .int
  | 29 => .array .boolean
  | 30 => .array .int
  | 31 => .int
  | 32 => .array .int
  | 33 => .array .int
  | 34 => .array .int
  | 35 => .array .int
  | 36 => .array .int
  | 37 => .array .boolean
  | 38 => .array .int
  | 39 => .array .boolean
  | 40 => .array .int
  | 41 => .array .int
  | 42 => .array .int
  | 43 => .array .int
  | 44 => .array .int
  | 45 => .array .int
  | 46 => .array .int
  | 47 => .array .int
  | 48 => .array .boolean
  | 49 => .int
  | 50 => .array .int
  | 51 => .array .int
  | 52 => .array .int
  | 53 => .array .int
  | _ => .int
theorem nmX10 : ∀ a, a < 55 → ∀ b, b < 55 → a ≠ b → (TX10 a).2.1 ≠ (TX10 b).2.1 := by decide +kernel
theorem tyX10_ok : ∀ k, k < 55 → parseFieldDescriptor (TX10 k).2.2.1 = some (tyX10 k) := by decide +kernel
abbrev cX10_init : ByteArray := prog_12_method_1_code
def yX10_init : MethodName := ⟨RX10, "<init>", "()V"⟩
abbrev cX10_thrown : ByteArray := prog_12_method_2_code
def yX10_thrown : MethodName := ⟨RX10, "thrown", "()I"⟩
abbrev cX10_fails : ByteArray := prog_12_method_3_code
def yX10_fails : MethodName := ⟨RX10, "fails", "(I)Z"⟩
abbrev cX10_isIn : ByteArray := prog_12_method_4_code
def yX10_isIn : MethodName := ⟨RX10, "isIn", "(III)Z"⟩
abbrev cX10_isEight : ByteArray := prog_12_method_5_code
def yX10_isEight : MethodName := ⟨RX10, "isEight", "(I)Z"⟩
abbrev cX10_isKind : ByteArray := prog_12_method_6_code
def yX10_isKind : MethodName := ⟨RX10, "isKind", "(I)Z"⟩
abbrev cX10_isHall : ByteArray := prog_12_method_7_code
def yX10_isHall : MethodName := ⟨RX10, "isHall", "(I)Z"⟩
abbrev cX10_isBox : ByteArray := prog_12_method_8_code
def yX10_isBox : MethodName := ⟨RX10, "isBox", "(I)Z"⟩
abbrev cX10_quota : ByteArray := prog_12_method_9_code
def yX10_quota : MethodName := ⟨RX10, "quota", "(III)I"⟩
abbrev cX10_aid : ByteArray := prog_12_method_10_code
def yX10_aid : MethodName := ⟨RX10, "aid", "(IIZ)I"⟩
abbrev cX10_kind : ByteArray := prog_12_method_11_code
def yX10_kind : MethodName := ⟨RX10, "kind", "(IIII)V"⟩
abbrev cX10_step : ByteArray := prog_12_method_12_code
def yX10_step : MethodName := ⟨RX10, "step", "(II)I"⟩
abbrev cX10_buyer : ByteArray := prog_12_method_13_code
def yX10_buyer : MethodName := ⟨RX10, "buyer", "(III)I"⟩
abbrev cX10_draw : ByteArray := prog_12_method_14_code
def yX10_draw : MethodName := ⟨RX10, "draw", "(I)I"⟩
abbrev cX10_power : ByteArray := prog_12_method_15_code
def yX10_power : MethodName := ⟨RX10, "power", "(IZ)Z"⟩
abbrev cX10_line : ByteArray := prog_12_method_16_code
def yX10_line : MethodName := ⟨RX10, "line", "(IZ)Z"⟩
abbrev cX10_land : ByteArray := prog_12_method_17_code
def yX10_land : MethodName := ⟨RX10, "land", "(IIIIII)I"⟩
abbrev cX10_isToSell : ByteArray := prog_12_method_18_code
def yX10_isToSell : MethodName := ⟨RX10, "isToSell", "(I)Z"⟩
abbrev cX10_ready : ByteArray := prog_12_method_19_code
def yX10_ready : MethodName := ⟨RX10, "ready", "(Z)I"⟩
abbrev cX10_size : ByteArray := prog_12_method_20_code
def yX10_size : MethodName := ⟨RX10, "size", "(I)I"⟩
abbrev cX10_drawn : ByteArray := prog_12_method_21_code
def yX10_drawn : MethodName := ⟨RX10, "drawn", "(I)I"⟩
abbrev cX10_parts : ByteArray := prog_12_method_22_code
def yX10_parts : MethodName := ⟨RX10, "parts", "(I)V"⟩
abbrev cX10_drawsAll : ByteArray := prog_12_method_23_code
def yX10_drawsAll : MethodName := ⟨RX10, "drawsAll", "(Z)V"⟩
abbrev cX10_open : ByteArray := prog_12_method_24_code
def yX10_open : MethodName := ⟨RX10, "open", "()I"⟩
abbrev cX10_comes : ByteArray := prog_12_method_25_code
def yX10_comes : MethodName := ⟨RX10, "comes", "(I)V"⟩
abbrev cX10_begins : ByteArray := prog_12_method_26_code
def yX10_begins : MethodName := ⟨RX10, "begins", "(I)V"⟩
abbrev cX10_withdraws : ByteArray := prog_12_method_27_code
def yX10_withdraws : MethodName := ⟨RX10, "withdraws", "(I)V"⟩
abbrev cX10_withdrawsAll : ByteArray := prog_12_method_28_code
def yX10_withdrawsAll : MethodName := ⟨RX10, "withdrawsAll", "(I)I"⟩
abbrev cX10_ends : ByteArray := prog_12_method_29_code
def yX10_ends : MethodName := ⟨RX10, "ends", "(I)V"⟩
abbrev cX10_end : ByteArray := prog_12_method_30_code
def yX10_end : MethodName := ⟨RX10, "end", "()I"⟩
abbrev cX10_press : ByteArray := prog_12_method_31_code
def yX10_press : MethodName := ⟨RX10, "press", "(II)I"⟩
abbrev cX10_firstOf : ByteArray := prog_12_method_32_code
def yX10_firstOf : MethodName := ⟨RX10, "firstOf", "(I)I"⟩
abbrev cX10_leftOf : ByteArray := prog_12_method_33_code
def yX10_leftOf : MethodName := ⟨RX10, "leftOf", "(I)I"⟩
abbrev cX10_canPay : ByteArray := prog_12_method_34_code
def yX10_canPay : MethodName := ⟨RX10, "canPay", "(II)Z"⟩
abbrev cX10_costOf : ByteArray := prog_12_method_35_code
def yX10_costOf : MethodName := ⟨RX10, "costOf", "(III)I"⟩
abbrev cX10_gets : ByteArray := prog_12_method_36_code
def yX10_gets : MethodName := ⟨RX10, "gets", "(II)V"⟩
abbrev cX10_take : ByteArray := prog_12_method_37_code
def yX10_take : MethodName := ⟨RX10, "take", "(III)I"⟩
abbrev cX10_hears : ByteArray := prog_12_method_38_code
def yX10_hears : MethodName := ⟨RX10, "hears", "(I)Z"⟩
abbrev cX10_slowest : ByteArray := prog_12_method_39_code
def yX10_slowest : MethodName := ⟨RX10, "slowest", "()I"⟩
abbrev cX10_falls : ByteArray := prog_12_method_40_code
def yX10_falls : MethodName := ⟨RX10, "falls", "(I)V"⟩
abbrev cX10_isBefore : ByteArray := prog_12_method_41_code
def yX10_isBefore : MethodName := ⟨RX10, "isBefore", "(II)Z"⟩
abbrev cX10_stands : ByteArray := prog_12_method_42_code
def yX10_stands : MethodName := ⟨RX10, "stands", "(I)V"⟩
abbrev cX10_waits : ByteArray := prog_12_method_43_code
def yX10_waits : MethodName := ⟨RX10, "waits", "(I)V"⟩
abbrev cX10_leaves : ByteArray := prog_12_method_44_code
def yX10_leaves : MethodName := ⟨RX10, "leaves", "(I)V"⟩
abbrev cX10_passes : ByteArray := prog_12_method_45_code
def yX10_passes : MethodName := ⟨RX10, "passes", "()V"⟩
abbrev cX10_pass : ByteArray := prog_12_method_46_code
def yX10_pass : MethodName := ⟨RX10, "pass", "(I)I"⟩
abbrev cX10_lorry : ByteArray := prog_12_method_47_code
def yX10_lorry : MethodName := ⟨RX10, "lorry", "(III)I"⟩
abbrev cX10_areCents : ByteArray := prog_12_method_48_code
def yX10_areCents : MethodName := ⟨RX10, "areCents", "(I)Z"⟩
abbrev cX10_pay : ByteArray := prog_12_method_49_code
def yX10_pay : MethodName := ⟨RX10, "pay", "(II)I"⟩
abbrev cX10_claim : ByteArray := prog_12_method_50_code
def yX10_claim : MethodName := ⟨RX10, "claim", "(II)I"⟩
abbrev cX10_settle : ByteArray := prog_12_method_51_code
def yX10_settle : MethodName := ⟨RX10, "settle", "(III)I"⟩
abbrev cX10_now : ByteArray := prog_12_method_52_code
def yX10_now : MethodName := ⟨RX10, "now", "()I"⟩
abbrev cX10_day : ByteArray := prog_12_method_53_code
def yX10_day : MethodName := ⟨RX10, "day", "()I"⟩
abbrev cX10_isOpen : ByteArray := prog_12_method_54_code
def yX10_isOpen : MethodName := ⟨RX10, "isOpen", "()Z"⟩
abbrev cX10_told : ByteArray := prog_12_method_55_code
def yX10_told : MethodName := ⟨RX10, "told", "(II)I"⟩
abbrev cX10_lot : ByteArray := prog_12_method_56_code
def yX10_lot : MethodName := ⟨RX10, "lot", "(II)I"⟩
abbrev cX10_lotsOf : ByteArray := prog_12_method_57_code
def yX10_lotsOf : MethodName := ⟨RX10, "lotsOf", "(I)I"⟩
abbrev cX10_hall : ByteArray := prog_12_method_58_code
def yX10_hall : MethodName := ⟨RX10, "hall", "(II)I"⟩
abbrev cX10_account : ByteArray := prog_12_method_59_code
def yX10_account : MethodName := ⟨RX10, "account", "(II)I"⟩
abbrev cX10_ship : ByteArray := prog_12_method_60_code
def yX10_ship : MethodName := ⟨RX10, "ship", "(II)I"⟩
abbrev cX10_isOf : ByteArray := prog_12_method_61_code
def yX10_isOf : MethodName := ⟨RX10, "isOf", "(II)Z"⟩
abbrev cX10_kilos : ByteArray := prog_12_method_62_code
def yX10_kilos : MethodName := ⟨RX10, "kilos", "(I)I"⟩
abbrev cX10_kilosAnew : ByteArray := prog_12_method_63_code
def yX10_kilosAnew : MethodName := ⟨RX10, "kilosAnew", "(I)I"⟩
abbrev cX10_average : ByteArray := prog_12_method_64_code
def yX10_average : MethodName := ⟨RX10, "average", "(II)I"⟩
abbrev cX10_loaded : ByteArray := prog_12_method_65_code
def yX10_loaded : MethodName := ⟨RX10, "loaded", "(I)I"⟩
def RJ9 : String := "java/lang/Math"
def TJ9 : u_T := fun k => match k with
  | _ => ("", "", "", false)
def tyJ9 : Nat → FieldType := fun k => match k with
  | _ => .int
theorem nmJ9 : ∀ a, a < 0 → ∀ b, b < 0 → a ≠ b → (TJ9 a).2.1 ≠ (TJ9 b).2.1 := by decide +kernel
theorem tyJ9_ok : ∀ k, k < 0 → parseFieldDescriptor (TJ9 k).2.2.1 = some (tyJ9 k) := by decide +kernel
abbrev cJ9_max_7cf53 : ByteArray := prog_17_method_65_code
def yJ9_max_7cf53 : MethodName := ⟨RJ9, "max", "(II)I"⟩
abbrev cJ9_max_f86c9 : ByteArray := prog_17_method_66_code
def yJ9_max_f86c9 : MethodName := ⟨RJ9, "max", "(JJ)J"⟩
abbrev cJ9_min_7cf53 : ByteArray := prog_17_method_69_code
def yJ9_min_7cf53 : MethodName := ⟨RJ9, "min", "(II)I"⟩
def RJ0 : String := "java/lang/String"
def TJ0 : u_T := fun k => match k with
  | _ => ("", "", "", false)
def tyJ0 : Nat → FieldType := fun k => match k with
  | _ => .int
theorem nmJ0 : ∀ a, a < 0 → ∀ b, b < 0 → a ≠ b → (TJ0 a).2.1 ≠ (TJ0 b).2.1 := by decide +kernel
theorem tyJ0_ok : ∀ k, k < 0 → parseFieldDescriptor (TJ0 k).2.2.1 = some (tyJ0 k) := by decide +kernel
def RL : String := "FishclockLaw"
abbrev cL_quota : ByteArray := method_3_code
def yL_quota : MethodName := ⟨RL, "quota", "(LFishclock;III[J)I"⟩
abbrev cL_aid : ByteArray := method_4_code
def yL_aid : MethodName := ⟨RL, "aid", "(LFishclock;IIZ[J)I"⟩
abbrev cL_kind : ByteArray := method_5_code
def yL_kind : MethodName := ⟨RL, "kind", "(LFishclock;IIII)I"⟩
abbrev cL_step : ByteArray := method_6_code
def yL_step : MethodName := ⟨RL, "step", "(LFishclock;II[J)I"⟩
abbrev cL_buyer : ByteArray := method_7_code
def yL_buyer : MethodName := ⟨RL, "buyer", "(LFishclock;III[J)I"⟩
abbrev cL_power : ByteArray := method_8_code
def yL_power : MethodName := ⟨RL, "power", "(LFishclock;IZ[J)I"⟩
abbrev cL_line : ByteArray := method_9_code
def yL_line : MethodName := ⟨RL, "line", "(LFishclock;IZ[J)I"⟩
abbrev cL_land : ByteArray := method_10_code
def yL_land : MethodName := ⟨RL, "land", "(LFishclock;IIIIII[J)I"⟩
abbrev cL_open : ByteArray := method_11_code
def yL_open : MethodName := ⟨RL, "open", "(LFishclock;[J)I"⟩
abbrev cL_end : ByteArray := method_12_code
def yL_end : MethodName := ⟨RL, "end", "(LFishclock;[J)I"⟩
abbrev cL_press : ByteArray := method_13_code
def yL_press : MethodName := ⟨RL, "press", "(LFishclock;II[J)I"⟩
abbrev cL_take : ByteArray := method_14_code
def yL_take : MethodName := ⟨RL, "take", "(LFishclock;III[J)I"⟩
abbrev cL_pass : ByteArray := method_15_code
def yL_pass : MethodName := ⟨RL, "pass", "(LFishclock;I[J)I"⟩
abbrev cL_lorry : ByteArray := method_16_code
def yL_lorry : MethodName := ⟨RL, "lorry", "(LFishclock;III[J)I"⟩
abbrev cL_pay : ByteArray := method_17_code
def yL_pay : MethodName := ⟨RL, "pay", "(LFishclock;II[J)I"⟩
abbrev cL_claim : ByteArray := method_18_code
def yL_claim : MethodName := ⟨RL, "claim", "(LFishclock;II[J)I"⟩
abbrev cL_settle : ByteArray := method_19_code
def yL_settle : MethodName := ⟨RL, "settle", "(LFishclock;III[J)I"⟩
abbrev cL_told : ByteArray := method_20_code
def yL_told : MethodName := ⟨RL, "told", "(LFishclock;II[J)I"⟩
abbrev cL_lot : ByteArray := method_21_code
def yL_lot : MethodName := ⟨RL, "lot", "(LFishclock;II[J)I"⟩
abbrev cL_hall : ByteArray := method_22_code
def yL_hall : MethodName := ⟨RL, "hall", "(LFishclock;II[J)I"⟩
abbrev cL_account : ByteArray := method_23_code
def yL_account : MethodName := ⟨RL, "account", "(LFishclock;II[J)I"⟩
abbrev cL_ship : ByteArray := method_24_code
def yL_ship : MethodName := ⟨RL, "ship", "(LFishclock;II[J)I"⟩
abbrev cL_kilos : ByteArray := method_25_code
def yL_kilos : MethodName := ⟨RL, "kilos", "(LFishclock;I[J)I"⟩
abbrev cL_kilosAnew : ByteArray := method_26_code
def yL_kilosAnew : MethodName := ⟨RL, "kilosAnew", "(LFishclock;I[J)I"⟩
abbrev cL_average : ByteArray := method_27_code
def yL_average : MethodName := ⟨RL, "average", "(LFishclock;II[J)I"⟩
abbrev cL_loaded : ByteArray := method_28_code
def yL_loaded : MethodName := ⟨RL, "loaded", "(LFishclock;I[J)I"⟩
abbrev cL_law : ByteArray := code
def yL_law : MethodName := ⟨RL, "law", "([I)Z"⟩
abbrev vwCl : List vw_C := [(RX0, TX0, 7), (RX1, TX1, 14), (RX2, TX2, 5), (RX3, TX3, 8), (RX4, TX4, 3), (RX5, TX5, 5), (RX6, TX6, 9), (RX7, TX7, 3), (RX8, TX8, 1), (RX9, TX9, 12), (RX10, TX10, 55)]
/-- the tables' words that hold in every later state -/
def gT : List Cond := lw_tbl.filter goodWord
theorem gT_of {w : Cond} (h : w ∈ lw_tbl) (g : goodWord w = true) : w ∈ gT := List.mem_filter.mpr ⟨h, g⟩
theorem gT_in : ∀ w ∈ gT, w ∈ lw_tbl := fun _ h => (List.mem_filter.mp h).1
theorem gT_self : ∀ w ∈ gT, w ∈ gT ∧ ((w.onTables && w.keeps) = true ∨ ∃ ty, w = .arrayClass ty) := fun _ h => ⟨h, good_of_word (List.mem_filter.mp h).2⟩
theorem lw_tab {w : Cond} (h : w ∈ tables_1) : w ∈ lw_tbl := List.mem_append_right _ h
theorem lw_0 {w : Cond} (i : Nat) (h : (k2_sels lw_privs)[i]? = some w) : w ∈ lw_tbl := List.mem_append_left _ (List.mem_of_getElem? h)
theorem lw_1 {w : Cond} (i : Nat) (h : tables_1_1[i]? = some w) : w ∈ lw_tbl := lw_tab (List.mem_append_left _ (List.mem_of_getElem? h))
theorem lw_2 {w : Cond} (i : Nat) (h : tables_1_2[i]? = some w) : w ∈ lw_tbl := lw_tab (List.mem_append_right _ (List.mem_append_left _ (List.mem_of_getElem? h)))
theorem lw_3 {w : Cond} (i : Nat) (h : tables_1_3[i]? = some w) : w ∈ lw_tbl := lw_tab (List.mem_append_right _ (List.mem_append_right _ (List.mem_append_left _ (List.mem_of_getElem? h))))
theorem lw_4 {w : Cond} (i : Nat) (h : tables_1_4[i]? = some w) : w ∈ lw_tbl := lw_tab (List.mem_append_right _ (List.mem_append_right _ (List.mem_append_right _ (List.mem_append_left _ (List.mem_of_getElem? h)))))
theorem lw_5 {w : Cond} (i : Nat) (h : tables_1_5[i]? = some w) : w ∈ lw_tbl := lw_tab (List.mem_append_right _ (List.mem_append_right _ (List.mem_append_right _ (List.mem_append_right _ (List.mem_append_left _ (List.mem_of_getElem? h))))))
theorem lw_6 {w : Cond} (i : Nat) (h : tables_1_6[i]? = some w) : w ∈ lw_tbl := lw_tab (List.mem_append_right _ (List.mem_append_right _ (List.mem_append_right _ (List.mem_append_right _ (List.mem_append_right _ (List.mem_of_getElem? h))))))
theorem gT_0 {w : Cond} (i : Nat) (h : (k2_sels lw_privs)[i]? = some w) (g : goodWord w = true) : w ∈ gT := gT_of (lw_0 i h) g
theorem gT_1 {w : Cond} (i : Nat) (h : tables_1_1[i]? = some w) (g : goodWord w = true) : w ∈ gT := gT_of (lw_1 i h) g
theorem gT_2 {w : Cond} (i : Nat) (h : tables_1_2[i]? = some w) (g : goodWord w = true) : w ∈ gT := gT_of (lw_2 i h) g
theorem gT_3 {w : Cond} (i : Nat) (h : tables_1_3[i]? = some w) (g : goodWord w = true) : w ∈ gT := gT_of (lw_3 i h) g
theorem gT_4 {w : Cond} (i : Nat) (h : tables_1_4[i]? = some w) (g : goodWord w = true) : w ∈ gT := gT_of (lw_4 i h) g
theorem gT_5 {w : Cond} (i : Nat) (h : tables_1_5[i]? = some w) (g : goodWord w = true) : w ∈ gT := gT_of (lw_5 i h) g
theorem gT_6 {w : Cond} (i : Nat) (h : tables_1_6[i]? = some w) (g : goodWord w = true) : w ∈ gT := gT_of (lw_6 i h) g
end
section
/-! words by their places -/
theorem lay_X0_0 : u_lay RX0 TX0 0 ∈ gT := gT_1 57 rfl rfl
theorem lay_X0_1 : u_lay RX0 TX0 1 ∈ gT := gT_1 59 rfl rfl
theorem lay_X0_2 : u_lay RX0 TX0 2 ∈ gT := gT_1 61 rfl rfl
theorem lay_X0_3 : u_lay RX0 TX0 3 ∈ gT := gT_1 63 rfl rfl
theorem lay_X0_4 : u_lay RX0 TX0 4 ∈ gT := gT_1 65 rfl rfl
theorem lay_X0_5 : u_lay RX0 TX0 5 ∈ gT := gT_1 67 rfl rfl
theorem lay_X0_6 : u_lay RX0 TX0 6 ∈ gT := gT_1 69 rfl rfl
theorem inX0 : ∀ w ∈ u_ws RX0 TX0 7, w ∈ gT := by
  intro w hw
  obtain ⟨k, hk, rfl⟩ := List.mem_map.mp hw
  have hk := List.mem_range.mp hk
  match k, hk with
  | 0, _ => exact lay_X0_0
  | 1, _ => exact lay_X0_1
  | 2, _ => exact lay_X0_2
  | 3, _ => exact lay_X0_3
  | 4, _ => exact lay_X0_4
  | 5, _ => exact lay_X0_5
  | 6, _ => exact lay_X0_6
  | k + 7, h => exact absurd h (by omega)
theorem lay_X1_0 : u_lay RX1 TX1 0 ∈ gT := gT_1 160 rfl rfl
theorem lay_X1_1 : u_lay RX1 TX1 1 ∈ gT := gT_1 162 rfl rfl
theorem lay_X1_2 : u_lay RX1 TX1 2 ∈ gT := gT_1 164 rfl rfl
theorem lay_X1_3 : u_lay RX1 TX1 3 ∈ gT := gT_1 166 rfl rfl
theorem lay_X1_4 : u_lay RX1 TX1 4 ∈ gT := gT_1 168 rfl rfl
theorem lay_X1_5 : u_lay RX1 TX1 5 ∈ gT := gT_1 170 rfl rfl
theorem lay_X1_6 : u_lay RX1 TX1 6 ∈ gT := gT_1 172 rfl rfl
theorem lay_X1_7 : u_lay RX1 TX1 7 ∈ gT := gT_1 174 rfl rfl
theorem lay_X1_8 : u_lay RX1 TX1 8 ∈ gT := gT_1 176 rfl rfl
theorem lay_X1_9 : u_lay RX1 TX1 9 ∈ gT := gT_1 178 rfl rfl
theorem lay_X1_10 : u_lay RX1 TX1 10 ∈ gT := gT_1 180 rfl rfl
theorem lay_X1_11 : u_lay RX1 TX1 11 ∈ gT := gT_1 182 rfl rfl
theorem lay_X1_12 : u_lay RX1 TX1 12 ∈ gT := gT_1 184 rfl rfl
theorem lay_X1_13 : u_lay RX1 TX1 13 ∈ gT := gT_1 186 rfl rfl
theorem inX1 : ∀ w ∈ u_ws RX1 TX1 14, w ∈ gT := by
  intro w hw
  obtain ⟨k, hk, rfl⟩ := List.mem_map.mp hw
  have hk := List.mem_range.mp hk
  match k, hk with
  | 0, _ => exact lay_X1_0
  | 1, _ => exact lay_X1_1
  | 2, _ => exact lay_X1_2
  | 3, _ => exact lay_X1_3
  | 4, _ => exact lay_X1_4
  | 5, _ => exact lay_X1_5
  | 6, _ => exact lay_X1_6
  | 7, _ => exact lay_X1_7
  | 8, _ => exact lay_X1_8
  | 9, _ => exact lay_X1_9
  | 10, _ => exact lay_X1_10
  | 11, _ => exact lay_X1_11
  | 12, _ => exact lay_X1_12
  | 13, _ => exact lay_X1_13
  | k + 14, h => exact absurd h (by omega)
theorem lay_X2_0 : u_lay RX2 TX2 0 ∈ gT := gT_1 115 rfl rfl
theorem lay_X2_1 : u_lay RX2 TX2 1 ∈ gT := gT_1 117 rfl rfl
theorem lay_X2_2 : u_lay RX2 TX2 2 ∈ gT := gT_1 119 rfl rfl
theorem lay_X2_3 : u_lay RX2 TX2 3 ∈ gT := gT_1 121 rfl rfl
theorem lay_X2_4 : u_lay RX2 TX2 4 ∈ gT := gT_1 123 rfl rfl
theorem inX2 : ∀ w ∈ u_ws RX2 TX2 5, w ∈ gT := by
  intro w hw
  obtain ⟨k, hk, rfl⟩ := List.mem_map.mp hw
  have hk := List.mem_range.mp hk
  match k, hk with
  | 0, _ => exact lay_X2_0
  | 1, _ => exact lay_X2_1
  | 2, _ => exact lay_X2_2
  | 3, _ => exact lay_X2_3
  | 4, _ => exact lay_X2_4
  | k + 5, h => exact absurd h (by omega)
theorem lay_X3_0 : u_lay RX3 TX3 0 ∈ gT := gT_2 15 rfl rfl
theorem lay_X3_1 : u_lay RX3 TX3 1 ∈ gT := gT_2 17 rfl rfl
theorem lay_X3_2 : u_lay RX3 TX3 2 ∈ gT := gT_2 19 rfl rfl
theorem lay_X3_3 : u_lay RX3 TX3 3 ∈ gT := gT_2 21 rfl rfl
theorem lay_X3_4 : u_lay RX3 TX3 4 ∈ gT := gT_2 23 rfl rfl
theorem lay_X3_5 : u_lay RX3 TX3 5 ∈ gT := gT_2 25 rfl rfl
theorem lay_X3_6 : u_lay RX3 TX3 6 ∈ gT := gT_2 27 rfl rfl
theorem lay_X3_7 : u_lay RX3 TX3 7 ∈ gT := gT_2 29 rfl rfl
theorem inX3 : ∀ w ∈ u_ws RX3 TX3 8, w ∈ gT := by
  intro w hw
  obtain ⟨k, hk, rfl⟩ := List.mem_map.mp hw
  have hk := List.mem_range.mp hk
  match k, hk with
  | 0, _ => exact lay_X3_0
  | 1, _ => exact lay_X3_1
  | 2, _ => exact lay_X3_2
  | 3, _ => exact lay_X3_3
  | 4, _ => exact lay_X3_4
  | 5, _ => exact lay_X3_5
  | 6, _ => exact lay_X3_6
  | 7, _ => exact lay_X3_7
  | k + 8, h => exact absurd h (by omega)
theorem lay_X4_0 : u_lay RX4 TX4 0 ∈ gT := gT_1 90 rfl rfl
theorem lay_X4_1 : u_lay RX4 TX4 1 ∈ gT := gT_1 92 rfl rfl
theorem lay_X4_2 : u_lay RX4 TX4 2 ∈ gT := gT_1 94 rfl rfl
theorem inX4 : ∀ w ∈ u_ws RX4 TX4 3, w ∈ gT := by
  intro w hw
  obtain ⟨k, hk, rfl⟩ := List.mem_map.mp hw
  have hk := List.mem_range.mp hk
  match k, hk with
  | 0, _ => exact lay_X4_0
  | 1, _ => exact lay_X4_1
  | 2, _ => exact lay_X4_2
  | k + 3, h => exact absurd h (by omega)
theorem lay_X5_0 : u_lay RX5 TX5 0 ∈ gT := gT_2 68 rfl rfl
theorem lay_X5_1 : u_lay RX5 TX5 1 ∈ gT := gT_2 70 rfl rfl
theorem lay_X5_2 : u_lay RX5 TX5 2 ∈ gT := gT_2 72 rfl rfl
theorem lay_X5_3 : u_lay RX5 TX5 3 ∈ gT := gT_2 74 rfl rfl
theorem lay_X5_4 : u_lay RX5 TX5 4 ∈ gT := gT_2 76 rfl rfl
theorem inX5 : ∀ w ∈ u_ws RX5 TX5 5, w ∈ gT := by
  intro w hw
  obtain ⟨k, hk, rfl⟩ := List.mem_map.mp hw
  have hk := List.mem_range.mp hk
  match k, hk with
  | 0, _ => exact lay_X5_0
  | 1, _ => exact lay_X5_1
  | 2, _ => exact lay_X5_2
  | 3, _ => exact lay_X5_3
  | 4, _ => exact lay_X5_4
  | k + 5, h => exact absurd h (by omega)
theorem lay_X6_0 : u_lay RX6 TX6 0 ∈ gT := gT_1 212 rfl rfl
theorem lay_X6_1 : u_lay RX6 TX6 1 ∈ gT := gT_1 214 rfl rfl
theorem lay_X6_2 : u_lay RX6 TX6 2 ∈ gT := gT_1 216 rfl rfl
theorem lay_X6_3 : u_lay RX6 TX6 3 ∈ gT := gT_1 218 rfl rfl
theorem lay_X6_4 : u_lay RX6 TX6 4 ∈ gT := gT_1 220 rfl rfl
theorem lay_X6_5 : u_lay RX6 TX6 5 ∈ gT := gT_1 222 rfl rfl
theorem lay_X6_6 : u_lay RX6 TX6 6 ∈ gT := gT_1 224 rfl rfl
theorem lay_X6_7 : u_lay RX6 TX6 7 ∈ gT := gT_1 226 rfl rfl
theorem lay_X6_8 : u_lay RX6 TX6 8 ∈ gT := gT_1 228 rfl rfl
theorem inX6 : ∀ w ∈ u_ws RX6 TX6 9, w ∈ gT := by
  intro w hw
  obtain ⟨k, hk, rfl⟩ := List.mem_map.mp hw
  have hk := List.mem_range.mp hk
  match k, hk with
  | 0, _ => exact lay_X6_0
  | 1, _ => exact lay_X6_1
  | 2, _ => exact lay_X6_2
  | 3, _ => exact lay_X6_3
  | 4, _ => exact lay_X6_4
  | 5, _ => exact lay_X6_5
  | 6, _ => exact lay_X6_6
  | 7, _ => exact lay_X6_7
  | 8, _ => exact lay_X6_8
  | k + 9, h => exact absurd h (by omega)
theorem lay_X7_0 : u_lay RX7 TX7 0 ∈ gT := gT_2 43 rfl rfl
theorem lay_X7_1 : u_lay RX7 TX7 1 ∈ gT := gT_2 45 rfl rfl
theorem lay_X7_2 : u_lay RX7 TX7 2 ∈ gT := gT_2 47 rfl rfl
theorem inX7 : ∀ w ∈ u_ws RX7 TX7 3, w ∈ gT := by
  intro w hw
  obtain ⟨k, hk, rfl⟩ := List.mem_map.mp hw
  have hk := List.mem_range.mp hk
  match k, hk with
  | 0, _ => exact lay_X7_0
  | 1, _ => exact lay_X7_1
  | 2, _ => exact lay_X7_2
  | k + 3, h => exact absurd h (by omega)
theorem lay_X8_0 : u_lay RX8 TX8 0 ∈ gT := gT_1 40 rfl rfl
theorem inX8 : ∀ w ∈ u_ws RX8 TX8 1, w ∈ gT := by
  intro w hw
  obtain ⟨k, hk, rfl⟩ := List.mem_map.mp hw
  have hk := List.mem_range.mp hk
  match k, hk with
  | 0, _ => exact lay_X8_0
  | k + 1, h => exact absurd h (by omega)
theorem lay_X9_0 : u_lay RX9 TX9 0 ∈ gT := gT_2 91 rfl rfl
theorem lay_X9_1 : u_lay RX9 TX9 1 ∈ gT := gT_2 93 rfl rfl
theorem lay_X9_2 : u_lay RX9 TX9 2 ∈ gT := gT_2 95 rfl rfl
theorem lay_X9_3 : u_lay RX9 TX9 3 ∈ gT := gT_2 97 rfl rfl
theorem lay_X9_4 : u_lay RX9 TX9 4 ∈ gT := gT_2 99 rfl rfl
theorem lay_X9_5 : u_lay RX9 TX9 5 ∈ gT := gT_2 101 rfl rfl
theorem lay_X9_6 : u_lay RX9 TX9 6 ∈ gT := gT_2 103 rfl rfl
theorem lay_X9_7 : u_lay RX9 TX9 7 ∈ gT := gT_2 105 rfl rfl
theorem lay_X9_8 : u_lay RX9 TX9 8 ∈ gT := gT_2 107 rfl rfl
theorem lay_X9_9 : u_lay RX9 TX9 9 ∈ gT := gT_2 109 rfl rfl
theorem lay_X9_10 : u_lay RX9 TX9 10 ∈ gT := gT_2 111 rfl rfl
theorem lay_X9_11 : u_lay RX9 TX9 11 ∈ gT := gT_2 113 rfl rfl
theorem inX9 : ∀ w ∈ u_ws RX9 TX9 12, w ∈ gT := by
  intro w hw
  obtain ⟨k, hk, rfl⟩ := List.mem_map.mp hw
  have hk := List.mem_range.mp hk
  match k, hk with
  | 0, _ => exact lay_X9_0
  | 1, _ => exact lay_X9_1
  | 2, _ => exact lay_X9_2
  | 3, _ => exact lay_X9_3
  | 4, _ => exact lay_X9_4
  | 5, _ => exact lay_X9_5
  | 6, _ => exact lay_X9_6
  | 7, _ => exact lay_X9_7
  | 8, _ => exact lay_X9_8
  | 9, _ => exact lay_X9_9
  | 10, _ => exact lay_X9_10
  | 11, _ => exact lay_X9_11
  | k + 12, h => exact absurd h (by omega)
theorem lay_X10_0 : u_lay RX10 TX10 0 ∈ gT := gT_5 42 rfl rfl
theorem lay_X10_1 : u_lay RX10 TX10 1 ∈ gT := gT_5 44 rfl rfl
theorem lay_X10_2 : u_lay RX10 TX10 2 ∈ gT := gT_5 46 rfl rfl
theorem lay_X10_3 : u_lay RX10 TX10 3 ∈ gT := gT_5 48 rfl rfl
theorem lay_X10_4 : u_lay RX10 TX10 4 ∈ gT := gT_5 50 rfl rfl
theorem lay_X10_5 : u_lay RX10 TX10 5 ∈ gT := gT_5 52 rfl rfl
theorem lay_X10_6 : u_lay RX10 TX10 6 ∈ gT := gT_5 54 rfl rfl
theorem lay_X10_7 : u_lay RX10 TX10 7 ∈ gT := gT_5 56 rfl rfl
theorem lay_X10_8 : u_lay RX10 TX10 8 ∈ gT := gT_5 58 rfl rfl
theorem lay_X10_9 : u_lay RX10 TX10 9 ∈ gT := gT_5 60 rfl rfl
theorem lay_X10_10 : u_lay RX10 TX10 10 ∈ gT := gT_5 62 rfl rfl
theorem lay_X10_11 : u_lay RX10 TX10 11 ∈ gT := gT_5 64 rfl rfl
theorem lay_X10_12 : u_lay RX10 TX10 12 ∈ gT := gT_5 66 rfl rfl
theorem lay_X10_13 : u_lay RX10 TX10 13 ∈ gT := gT_5 68 rfl rfl
theorem lay_X10_14 : u_lay RX10 TX10 14 ∈ gT := gT_5 70 rfl rfl
theorem lay_X10_15 : u_lay RX10 TX10 15 ∈ gT := gT_5 72 rfl rfl
theorem lay_X10_16 : u_lay RX10 TX10 16 ∈ gT := gT_5 74 rfl rfl
theorem lay_X10_17 : u_lay RX10 TX10 17 ∈ gT := gT_5 76 rfl rfl
theorem lay_X10_18 : u_lay RX10 TX10 18 ∈ gT := gT_5 78 rfl rfl
theorem lay_X10_19 : u_lay RX10 TX10 19 ∈ gT := gT_5 80 rfl rfl
theorem lay_X10_20 : u_lay RX10 TX10 20 ∈ gT := gT_5 82 rfl rfl
theorem lay_X10_21 : u_lay RX10 TX10 21 ∈ gT := gT_5 84 rfl rfl
theorem lay_X10_22 : u_lay RX10 TX10 22 ∈ gT := gT_5 86 rfl rfl
theorem lay_X10_23 : u_lay RX10 TX10 23 ∈ gT := gT_5 88 rfl rfl
theorem lay_X10_24 : u_lay RX10 TX10 24 ∈ gT := gT_5 90 rfl rfl
theorem lay_X10_25 : u_lay RX10 TX10 25 ∈ gT := gT_5 92 rfl rfl
theorem lay_X10_26 : u_lay RX10 TX10 26 ∈ gT := gT_5 94 rfl rfl
theorem lay_X10_27 : u_lay RX10 TX10 27 ∈ gT := gT_5 96 rfl rfl
theorem lay_X10_28 : u_lay RX10 TX10 28 ∈ gT := gT_5 98 rfl rfl
theorem lay_X10_29 : u_lay RX10 TX10 29 ∈ gT := gT_5 100 rfl rfl
theorem lay_X10_30 : u_lay RX10 TX10 30 ∈ gT := gT_5 102 rfl rfl
theorem lay_X10_31 : u_lay RX10 TX10 31 ∈ gT := gT_5 104 rfl rfl
theorem lay_X10_32 : u_lay RX10 TX10 32 ∈ gT := gT_5 106 rfl rfl
theorem lay_X10_33 : u_lay RX10 TX10 33 ∈ gT := gT_5 108 rfl rfl
theorem lay_X10_34 : u_lay RX10 TX10 34 ∈ gT := gT_5 110 rfl rfl
theorem lay_X10_35 : u_lay RX10 TX10 35 ∈ gT := gT_5 112 rfl rfl
theorem lay_X10_36 : u_lay RX10 TX10 36 ∈ gT := gT_5 114 rfl rfl
theorem lay_X10_37 : u_lay RX10 TX10 37 ∈ gT := gT_5 116 rfl rfl
theorem lay_X10_38 : u_lay RX10 TX10 38 ∈ gT := gT_5 118 rfl rfl
theorem lay_X10_39 : u_lay RX10 TX10 39 ∈ gT := gT_5 120 rfl rfl
theorem lay_X10_40 : u_lay RX10 TX10 40 ∈ gT := gT_5 122 rfl rfl
theorem lay_X10_41 : u_lay RX10 TX10 41 ∈ gT := gT_5 124 rfl rfl
theorem lay_X10_42 : u_lay RX10 TX10 42 ∈ gT := gT_5 126 rfl rfl
theorem lay_X10_43 : u_lay RX10 TX10 43 ∈ gT := gT_5 128 rfl rfl
theorem lay_X10_44 : u_lay RX10 TX10 44 ∈ gT := gT_5 130 rfl rfl
theorem lay_X10_45 : u_lay RX10 TX10 45 ∈ gT := gT_5 132 rfl rfl
theorem lay_X10_46 : u_lay RX10 TX10 46 ∈ gT := gT_5 134 rfl rfl
theorem lay_X10_47 : u_lay RX10 TX10 47 ∈ gT := gT_5 136 rfl rfl
theorem lay_X10_48 : u_lay RX10 TX10 48 ∈ gT := gT_5 138 rfl rfl
theorem lay_X10_49 : u_lay RX10 TX10 49 ∈ gT := gT_5 140 rfl rfl
theorem lay_X10_50 : u_lay RX10 TX10 50 ∈ gT := gT_5 142 rfl rfl
theorem lay_X10_51 : u_lay RX10 TX10 51 ∈ gT := gT_5 144 rfl rfl
theorem lay_X10_52 : u_lay RX10 TX10 52 ∈ gT := gT_5 146 rfl rfl
theorem lay_X10_53 : u_lay RX10 TX10 53 ∈ gT := gT_5 148 rfl rfl
theorem lay_X10_54 : u_lay RX10 TX10 54 ∈ gT := gT_5 150 rfl rfl
theorem inX10 : ∀ w ∈ u_ws RX10 TX10 55, w ∈ gT := by
  intro w hw
  obtain ⟨k, hk, rfl⟩ := List.mem_map.mp hw
  have hk := List.mem_range.mp hk
  match k, hk with
  | 0, _ => exact lay_X10_0
  | 1, _ => exact lay_X10_1
  | 2, _ => exact lay_X10_2
  | 3, _ => exact lay_X10_3
  | 4, _ => exact lay_X10_4
  | 5, _ => exact lay_X10_5
  | 6, _ => exact lay_X10_6
  | 7, _ => exact lay_X10_7
  | 8, _ => exact lay_X10_8
  | 9, _ => exact lay_X10_9
  | 10, _ => exact lay_X10_10
  | 11, _ => exact lay_X10_11
  | 12, _ => exact lay_X10_12
  | 13, _ => exact lay_X10_13
  | 14, _ => exact lay_X10_14
  | 15, _ => exact lay_X10_15
  | 16, _ => exact lay_X10_16
  | 17, _ => exact lay_X10_17
  | 18, _ => exact lay_X10_18
  | 19, _ => exact lay_X10_19
  | 20, _ => exact lay_X10_20
  | 21, _ => exact lay_X10_21
  | 22, _ => exact lay_X10_22
  | 23, _ => exact lay_X10_23
  | 24, _ => exact lay_X10_24
  | 25, _ => exact lay_X10_25
  | 26, _ => exact lay_X10_26
  | 27, _ => exact lay_X10_27
  | 28, _ => exact lay_X10_28
  | 29, _ => exact lay_X10_29
  | 30, _ => exact lay_X10_30
  | 31, _ => exact lay_X10_31
  | 32, _ => exact lay_X10_32
  | 33, _ => exact lay_X10_33
  | 34, _ => exact lay_X10_34
  | 35, _ => exact lay_X10_35
  | 36, _ => exact lay_X10_36
  | 37, _ => exact lay_X10_37
  | 38, _ => exact lay_X10_38
  | 39, _ => exact lay_X10_39
  | 40, _ => exact lay_X10_40
  | 41, _ => exact lay_X10_41
  | 42, _ => exact lay_X10_42
  | 43, _ => exact lay_X10_43
  | 44, _ => exact lay_X10_44
  | 45, _ => exact lay_X10_45
  | 46, _ => exact lay_X10_46
  | 47, _ => exact lay_X10_47
  | 48, _ => exact lay_X10_48
  | 49, _ => exact lay_X10_49
  | 50, _ => exact lay_X10_50
  | 51, _ => exact lay_X10_51
  | 52, _ => exact lay_X10_52
  | 53, _ => exact lay_X10_53
  | 54, _ => exact lay_X10_54
  | k + 55, h => exact absurd h (by omega)
theorem wf_X9_10 : Cond.fieldLink RX9 10 (TX9 0).1 (TX9 0).2.1 (TX9 0).2.2.1 ∈ gT := gT_2 79 rfl rfl
theorem wf_X9_19 : Cond.fieldLink RX9 19 (TX9 1).1 (TX9 1).2.1 (TX9 1).2.2.1 ∈ gT := gT_2 80 rfl rfl
theorem wf_X9_26 : Cond.fieldLink RX9 26 (TX9 2).1 (TX9 2).2.1 (TX9 2).2.2.1 ∈ gT := gT_2 81 rfl rfl
theorem wf_X9_33 : Cond.fieldLink RX9 33 (TX9 3).1 (TX9 3).2.1 (TX9 3).2.2.1 ∈ gT := gT_2 82 rfl rfl
theorem wf_X9_40 : Cond.fieldLink RX9 40 (TX9 4).1 (TX9 4).2.1 (TX9 4).2.2.1 ∈ gT := gT_2 83 rfl rfl
theorem wf_X9_47 : Cond.fieldLink RX9 47 (TX9 5).1 (TX9 5).2.1 (TX9 5).2.2.1 ∈ gT := gT_2 84 rfl rfl
theorem wf_X9_54 : Cond.fieldLink RX9 54 (TX9 6).1 (TX9 6).2.1 (TX9 6).2.2.1 ∈ gT := gT_2 85 rfl rfl
theorem wf_X9_61 : Cond.fieldLink RX9 61 (TX9 7).1 (TX9 7).2.1 (TX9 7).2.2.1 ∈ gT := gT_2 86 rfl rfl
theorem wf_X9_65 : Cond.fieldLink RX9 65 (TX9 8).1 (TX9 8).2.1 (TX9 8).2.2.1 ∈ gT := gT_2 87 rfl rfl
theorem wf_X9_69 : Cond.fieldLink RX9 69 (TX9 9).1 (TX9 9).2.1 (TX9 9).2.2.1 ∈ gT := gT_2 88 rfl rfl
theorem wf_X9_72 : Cond.fieldLink RX9 72 (TX9 10).1 (TX9 10).2.1 (TX9 10).2.2.1 ∈ gT := gT_2 89 rfl rfl
theorem wf_X9_76 : Cond.fieldLink RX9 76 (TX9 11).1 (TX9 11).2.1 (TX9 11).2.2.1 ∈ gT := gT_2 90 rfl rfl
theorem wf_X9_88 : Cond.fieldLink RX9 88 (TX0 0).1 (TX0 0).2.1 (TX0 0).2.2.1 ∈ gT := gT_1 45 rfl rfl
theorem wf_X9_101 : Cond.fieldLink RX9 101 (TX0 4).1 (TX0 4).2.1 (TX0 4).2.2.1 ∈ gT := gT_1 52 rfl rfl
theorem wf_X9_107 : Cond.fieldLink RX9 107 (TX0 3).1 (TX0 3).2.1 (TX0 3).2.2.1 ∈ gT := gT_1 50 rfl rfl
theorem wf_X9_110 : Cond.fieldLink RX9 110 (TX4 0).1 (TX4 0).2.1 (TX4 0).2.2.1 ∈ gT := gT_1 85 rfl rfl
theorem wf_X9_113 : Cond.fieldLink RX9 113 (TX4 1).1 (TX4 1).2.1 (TX4 1).2.2.1 ∈ gT := gT_1 87 rfl rfl
theorem wf_X9_116 : Cond.fieldLink RX9 116 (TX4 2).1 (TX4 2).2.1 (TX4 2).2.2.1 ∈ gT := gT_1 89 rfl rfl
theorem wf_X9_119 : Cond.fieldLink RX9 119 (TX3 6).1 (TX3 6).2.1 (TX3 6).2.2.1 ∈ gT := gT_2 12 rfl rfl
theorem wf_X9_123 : Cond.fieldLink RX9 123 (TX2 1).1 (TX2 1).2.1 (TX2 1).2.2.1 ∈ gT := gT_1 108 rfl rfl
theorem wf_X9_126 : Cond.fieldLink RX9 126 (TX2 0).1 (TX2 0).2.1 (TX2 0).2.2.1 ∈ gT := gT_1 106 rfl rfl
theorem wf_X9_129 : Cond.fieldLink RX9 129 (TX3 7).1 (TX3 7).2.1 (TX3 7).2.2.1 ∈ gT := gT_2 14 rfl rfl
theorem wf_X9_132 : Cond.fieldLink RX9 132 (TX2 4).1 (TX2 4).2.1 (TX2 4).2.2.1 ∈ gT := gT_1 114 rfl rfl
theorem wf_X9_135 : Cond.fieldLink RX9 135 (TX1 13).1 (TX1 13).2.1 (TX1 13).2.2.1 ∈ gT := gT_1 159 rfl rfl
theorem wf_X9_167 : Cond.fieldLink RX9 167 (TX3 4).1 (TX3 4).2.1 (TX3 4).2.2.1 ∈ gT := gT_2 8 rfl rfl
theorem wf_X9_184 : Cond.fieldLink RX9 184 (TX6 7).1 (TX6 7).2.1 (TX6 7).2.2.1 ∈ gT := gT_1 210 rfl rfl
theorem wf_X9_191 : Cond.fieldLink RX9 191 (TX1 5).1 (TX1 5).2.1 (TX1 5).2.2.1 ∈ gT := gT_1 144 rfl rfl
theorem wf_X9_197 : Cond.fieldLink RX9 197 (TX3 0).1 (TX3 0).2.1 (TX3 0).2.2.1 ∈ gT := gT_2 0 rfl rfl
theorem wf_X9_206 : Cond.fieldLink RX9 206 (TX3 2).1 (TX3 2).2.1 (TX3 2).2.2.1 ∈ gT := gT_2 4 rfl rfl
theorem wf_X9_213 : Cond.fieldLink RX9 213 (TX3 3).1 (TX3 3).2.1 (TX3 3).2.2.1 ∈ gT := gT_2 6 rfl rfl
theorem wf_X9_216 : Cond.fieldLink RX9 216 (TX3 1).1 (TX3 1).2.1 (TX3 1).2.2.1 ∈ gT := gT_2 2 rfl rfl
theorem wf_X9_238 : Cond.fieldLink RX9 238 (TX5 4).1 (TX5 4).2.1 (TX5 4).2.2.1 ∈ gT := gT_2 67 rfl rfl
theorem wf_X9_241 : Cond.fieldLink RX9 241 (TX2 2).1 (TX2 2).2.1 (TX2 2).2.2.1 ∈ gT := gT_1 110 rfl rfl
theorem wf_X9_254 : Cond.fieldLink RX9 254 (TX1 6).1 (TX1 6).2.1 (TX1 6).2.2.1 ∈ gT := gT_1 146 rfl rfl
theorem wf_X9_257 : Cond.fieldLink RX9 257 (TX1 11).1 (TX1 11).2.1 (TX1 11).2.2.1 ∈ gT := gT_1 155 rfl rfl
theorem wf_X9_260 : Cond.fieldLink RX9 260 (TX1 8).1 (TX1 8).2.1 (TX1 8).2.2.1 ∈ gT := gT_1 150 rfl rfl
theorem wf_X9_266 : Cond.fieldLink RX9 266 (TX0 5).1 (TX0 5).2.1 (TX0 5).2.2.1 ∈ gT := gT_1 54 rfl rfl
theorem wf_X9_269 : Cond.fieldLink RX9 269 (TX1 0).1 (TX1 0).2.1 (TX1 0).2.2.1 ∈ gT := gT_1 135 rfl rfl
theorem wf_X9_278 : Cond.fieldLink RX9 278 (TX1 4).1 (TX1 4).2.1 (TX1 4).2.2.1 ∈ gT := gT_1 142 rfl rfl
theorem wf_X9_279 : Cond.fieldLink RX9 279 (TX1 1).1 (TX1 1).2.1 (TX1 1).2.2.1 ∈ gT := gT_1 137 rfl rfl
theorem wf_X9_285 : Cond.fieldLink RX9 285 (TX1 7).1 (TX1 7).2.1 (TX1 7).2.2.1 ∈ gT := gT_1 148 rfl rfl
theorem wf_X9_286 : Cond.fieldLink RX9 286 (TX6 0).1 (TX6 0).2.1 (TX6 0).2.2.1 ∈ gT := gT_1 198 rfl rfl
theorem wf_X9_287 : Cond.fieldLink RX9 287 (TX6 1).1 (TX6 1).2.1 (TX6 1).2.2.1 ∈ gT := gT_1 200 rfl rfl
theorem wf_X9_294 : Cond.fieldLink RX9 294 (TX6 2).1 (TX6 2).2.1 (TX6 2).2.2.1 ∈ gT := gT_1 202 rfl rfl
theorem wf_X9_295 : Cond.fieldLink RX9 295 (TX2 3).1 (TX2 3).2.1 (TX2 3).2.2.1 ∈ gT := gT_1 112 rfl rfl
theorem wf_X9_298 : Cond.fieldLink RX9 298 (TX0 2).1 (TX0 2).2.1 (TX0 2).2.2.1 ∈ gT := gT_1 48 rfl rfl
theorem wf_X9_301 : Cond.fieldLink RX9 301 (TX1 12).1 (TX1 12).2.1 (TX1 12).2.2.1 ∈ gT := gT_1 157 rfl rfl
theorem wf_X9_307 : Cond.fieldLink RX9 307 (TX1 2).1 (TX1 2).2.1 (TX1 2).2.2.1 ∈ gT := gT_1 139 rfl rfl
theorem wf_X9_310 : Cond.fieldLink RX9 310 (TX1 9).1 (TX1 9).2.1 (TX1 9).2.2.1 ∈ gT := gT_1 152 rfl rfl
theorem wf_X9_313 : Cond.fieldLink RX9 313 (TX5 3).1 (TX5 3).2.1 (TX5 3).2.2.1 ∈ gT := gT_2 65 rfl rfl
theorem wf_X9_337 : Cond.fieldLink RX9 337 (TX0 6).1 (TX0 6).2.1 (TX0 6).2.2.1 ∈ gT := gT_1 56 rfl rfl
theorem wf_X9_351 : Cond.fieldLink RX9 351 (TX6 6).1 (TX6 6).2.1 (TX6 6).2.2.1 ∈ gT := gT_1 208 rfl rfl
theorem wf_X9_374 : Cond.fieldLink RX9 374 (TX3 5).1 (TX3 5).2.1 (TX3 5).2.2.1 ∈ gT := gT_2 10 rfl rfl
theorem wf_X9_405 : Cond.fieldLink RX9 405 (TX6 3).1 (TX6 3).2.1 (TX6 3).2.2.1 ∈ gT := gT_1 204 rfl rfl
theorem wf_X9_417 : Cond.fieldLink RX9 417 (TX5 1).1 (TX5 1).2.1 (TX5 1).2.2.1 ∈ gT := gT_2 61 rfl rfl
theorem wf_X9_423 : Cond.fieldLink RX9 423 (TX5 2).1 (TX5 2).2.1 (TX5 2).2.2.1 ∈ gT := gT_2 63 rfl rfl
theorem wf_X9_426 : Cond.fieldLink RX9 426 (TX5 0).1 (TX5 0).2.1 (TX5 0).2.2.1 ∈ gT := gT_2 59 rfl rfl
theorem wf_X0_14 : Cond.fieldLink RX0 14 (TX0 0).1 (TX0 0).2.1 (TX0 0).2.2.1 ∈ gT := gT_1 44 rfl rfl
theorem wf_X0_20 : Cond.fieldLink RX0 20 (TX0 1).1 (TX0 1).2.1 (TX0 1).2.2.1 ∈ gT := gT_1 46 rfl rfl
theorem wf_X0_23 : Cond.fieldLink RX0 23 (TX0 2).1 (TX0 2).2.1 (TX0 2).2.2.1 ∈ gT := gT_1 47 rfl rfl
theorem wf_X0_26 : Cond.fieldLink RX0 26 (TX0 3).1 (TX0 3).2.1 (TX0 3).2.2.1 ∈ gT := gT_1 49 rfl rfl
theorem wf_X0_29 : Cond.fieldLink RX0 29 (TX0 4).1 (TX0 4).2.1 (TX0 4).2.2.1 ∈ gT := gT_1 51 rfl rfl
theorem wf_X0_32 : Cond.fieldLink RX0 32 (TX0 5).1 (TX0 5).2.1 (TX0 5).2.2.1 ∈ gT := gT_1 53 rfl rfl
theorem wf_X0_35 : Cond.fieldLink RX0 35 (TX0 6).1 (TX0 6).2.1 (TX0 6).2.2.1 ∈ gT := gT_1 55 rfl rfl
theorem wf_X1_14 : Cond.fieldLink RX1 14 (TX1 0).1 (TX1 0).2.1 (TX1 0).2.2.1 ∈ gT := gT_1 134 rfl rfl
theorem wf_X1_20 : Cond.fieldLink RX1 20 (TX1 1).1 (TX1 1).2.1 (TX1 1).2.2.1 ∈ gT := gT_1 136 rfl rfl
theorem wf_X1_23 : Cond.fieldLink RX1 23 (TX1 2).1 (TX1 2).2.1 (TX1 2).2.2.1 ∈ gT := gT_1 138 rfl rfl
theorem wf_X1_26 : Cond.fieldLink RX1 26 (TX1 3).1 (TX1 3).2.1 (TX1 3).2.2.1 ∈ gT := gT_1 140 rfl rfl
theorem wf_X1_29 : Cond.fieldLink RX1 29 (TX1 4).1 (TX1 4).2.1 (TX1 4).2.2.1 ∈ gT := gT_1 141 rfl rfl
theorem wf_X1_32 : Cond.fieldLink RX1 32 (TX1 5).1 (TX1 5).2.1 (TX1 5).2.2.1 ∈ gT := gT_1 143 rfl rfl
theorem wf_X1_35 : Cond.fieldLink RX1 35 (TX1 6).1 (TX1 6).2.1 (TX1 6).2.2.1 ∈ gT := gT_1 145 rfl rfl
theorem wf_X1_38 : Cond.fieldLink RX1 38 (TX1 7).1 (TX1 7).2.1 (TX1 7).2.2.1 ∈ gT := gT_1 147 rfl rfl
theorem wf_X1_41 : Cond.fieldLink RX1 41 (TX1 8).1 (TX1 8).2.1 (TX1 8).2.2.1 ∈ gT := gT_1 149 rfl rfl
theorem wf_X1_44 : Cond.fieldLink RX1 44 (TX1 9).1 (TX1 9).2.1 (TX1 9).2.2.1 ∈ gT := gT_1 151 rfl rfl
theorem wf_X1_47 : Cond.fieldLink RX1 47 (TX1 10).1 (TX1 10).2.1 (TX1 10).2.2.1 ∈ gT := gT_1 153 rfl rfl
theorem wf_X1_50 : Cond.fieldLink RX1 50 (TX1 11).1 (TX1 11).2.1 (TX1 11).2.2.1 ∈ gT := gT_1 154 rfl rfl
theorem wf_X1_53 : Cond.fieldLink RX1 53 (TX1 12).1 (TX1 12).2.1 (TX1 12).2.2.1 ∈ gT := gT_1 156 rfl rfl
theorem wf_X1_56 : Cond.fieldLink RX1 56 (TX1 13).1 (TX1 13).2.1 (TX1 13).2.2.1 ∈ gT := gT_1 158 rfl rfl
theorem wf_X2_14 : Cond.fieldLink RX2 14 (TX2 0).1 (TX2 0).2.1 (TX2 0).2.2.1 ∈ gT := gT_1 105 rfl rfl
theorem wf_X2_20 : Cond.fieldLink RX2 20 (TX2 1).1 (TX2 1).2.1 (TX2 1).2.2.1 ∈ gT := gT_1 107 rfl rfl
theorem wf_X2_23 : Cond.fieldLink RX2 23 (TX2 2).1 (TX2 2).2.1 (TX2 2).2.2.1 ∈ gT := gT_1 109 rfl rfl
theorem wf_X2_26 : Cond.fieldLink RX2 26 (TX2 3).1 (TX2 3).2.1 (TX2 3).2.2.1 ∈ gT := gT_1 111 rfl rfl
theorem wf_X2_29 : Cond.fieldLink RX2 29 (TX2 4).1 (TX2 4).2.1 (TX2 4).2.2.1 ∈ gT := gT_1 113 rfl rfl
theorem wf_X3_14 : Cond.fieldLink RX3 14 (TX3 0).1 (TX3 0).2.1 (TX3 0).2.2.1 ∈ gT := gT_1 239 rfl rfl
theorem wf_X3_20 : Cond.fieldLink RX3 20 (TX3 1).1 (TX3 1).2.1 (TX3 1).2.2.1 ∈ gT := gT_2 1 rfl rfl
theorem wf_X3_23 : Cond.fieldLink RX3 23 (TX3 2).1 (TX3 2).2.1 (TX3 2).2.2.1 ∈ gT := gT_2 3 rfl rfl
theorem wf_X3_26 : Cond.fieldLink RX3 26 (TX3 3).1 (TX3 3).2.1 (TX3 3).2.2.1 ∈ gT := gT_2 5 rfl rfl
theorem wf_X3_29 : Cond.fieldLink RX3 29 (TX3 4).1 (TX3 4).2.1 (TX3 4).2.2.1 ∈ gT := gT_2 7 rfl rfl
theorem wf_X3_32 : Cond.fieldLink RX3 32 (TX3 5).1 (TX3 5).2.1 (TX3 5).2.2.1 ∈ gT := gT_2 9 rfl rfl
theorem wf_X3_35 : Cond.fieldLink RX3 35 (TX3 6).1 (TX3 6).2.1 (TX3 6).2.2.1 ∈ gT := gT_2 11 rfl rfl
theorem wf_X3_38 : Cond.fieldLink RX3 38 (TX3 7).1 (TX3 7).2.1 (TX3 7).2.2.1 ∈ gT := gT_2 13 rfl rfl
theorem wf_X4_14 : Cond.fieldLink RX4 14 (TX4 0).1 (TX4 0).2.1 (TX4 0).2.2.1 ∈ gT := gT_1 84 rfl rfl
theorem wf_X4_20 : Cond.fieldLink RX4 20 (TX4 1).1 (TX4 1).2.1 (TX4 1).2.2.1 ∈ gT := gT_1 86 rfl rfl
theorem wf_X4_23 : Cond.fieldLink RX4 23 (TX4 2).1 (TX4 2).2.1 (TX4 2).2.2.1 ∈ gT := gT_1 88 rfl rfl
theorem wf_X5_14 : Cond.fieldLink RX5 14 (TX5 0).1 (TX5 0).2.1 (TX5 0).2.2.1 ∈ gT := gT_2 58 rfl rfl
theorem wf_X5_20 : Cond.fieldLink RX5 20 (TX5 1).1 (TX5 1).2.1 (TX5 1).2.2.1 ∈ gT := gT_2 60 rfl rfl
theorem wf_X5_23 : Cond.fieldLink RX5 23 (TX5 2).1 (TX5 2).2.1 (TX5 2).2.2.1 ∈ gT := gT_2 62 rfl rfl
theorem wf_X5_26 : Cond.fieldLink RX5 26 (TX5 3).1 (TX5 3).2.1 (TX5 3).2.2.1 ∈ gT := gT_2 64 rfl rfl
theorem wf_X5_29 : Cond.fieldLink RX5 29 (TX5 4).1 (TX5 4).2.1 (TX5 4).2.2.1 ∈ gT := gT_2 66 rfl rfl
theorem wf_X6_14 : Cond.fieldLink RX6 14 (TX6 0).1 (TX6 0).2.1 (TX6 0).2.2.1 ∈ gT := gT_1 197 rfl rfl
theorem wf_X6_20 : Cond.fieldLink RX6 20 (TX6 1).1 (TX6 1).2.1 (TX6 1).2.2.1 ∈ gT := gT_1 199 rfl rfl
theorem wf_X6_23 : Cond.fieldLink RX6 23 (TX6 2).1 (TX6 2).2.1 (TX6 2).2.2.1 ∈ gT := gT_1 201 rfl rfl
theorem wf_X6_26 : Cond.fieldLink RX6 26 (TX6 3).1 (TX6 3).2.1 (TX6 3).2.2.1 ∈ gT := gT_1 203 rfl rfl
theorem wf_X6_29 : Cond.fieldLink RX6 29 (TX6 4).1 (TX6 4).2.1 (TX6 4).2.2.1 ∈ gT := gT_1 205 rfl rfl
theorem wf_X6_32 : Cond.fieldLink RX6 32 (TX6 5).1 (TX6 5).2.1 (TX6 5).2.2.1 ∈ gT := gT_1 206 rfl rfl
theorem wf_X6_37 : Cond.fieldLink RX6 37 (TX6 6).1 (TX6 6).2.1 (TX6 6).2.2.1 ∈ gT := gT_1 207 rfl rfl
theorem wf_X6_40 : Cond.fieldLink RX6 40 (TX6 7).1 (TX6 7).2.1 (TX6 7).2.2.1 ∈ gT := gT_1 209 rfl rfl
theorem wf_X6_44 : Cond.fieldLink RX6 44 (TX6 8).1 (TX6 8).2.1 (TX6 8).2.2.1 ∈ gT := gT_1 211 rfl rfl
theorem wf_X7_14 : Cond.fieldLink RX7 14 (TX7 0).1 (TX7 0).2.1 (TX7 0).2.2.1 ∈ gT := gT_2 40 rfl rfl
theorem wf_X7_20 : Cond.fieldLink RX7 20 (TX7 1).1 (TX7 1).2.1 (TX7 1).2.2.1 ∈ gT := gT_2 41 rfl rfl
theorem wf_X7_23 : Cond.fieldLink RX7 23 (TX7 2).1 (TX7 2).2.1 (TX7 2).2.2.1 ∈ gT := gT_2 42 rfl rfl
theorem wf_X8_7 : Cond.fieldLink RX8 7 (TX8 0).1 (TX8 0).2.1 (TX8 0).2.2.1 ∈ gT := gT_1 39 rfl rfl
theorem wf_X10_7 : Cond.fieldLink RX10 7 (TX10 3).1 (TX10 3).2.1 (TX10 3).2.2.1 ∈ gT := gT_4 230 rfl rfl
theorem wf_X10_13 : Cond.fieldLink RX10 13 (TX10 4).1 (TX10 4).2.1 (TX10 4).2.2.1 ∈ gT := gT_4 231 rfl rfl
theorem wf_X10_17 : Cond.fieldLink RX10 17 (TX10 5).1 (TX10 5).2.1 (TX10 5).2.2.1 ∈ gT := gT_4 232 rfl rfl
theorem wf_X10_20 : Cond.fieldLink RX10 20 (TX10 6).1 (TX10 6).2.1 (TX10 6).2.2.1 ∈ gT := gT_4 233 rfl rfl
theorem wf_X10_23 : Cond.fieldLink RX10 23 (TX10 7).1 (TX10 7).2.1 (TX10 7).2.2.1 ∈ gT := gT_4 234 rfl rfl
theorem wf_X10_27 : Cond.fieldLink RX10 27 (TX10 8).1 (TX10 8).2.1 (TX10 8).2.2.1 ∈ gT := gT_4 235 rfl rfl
theorem wf_X10_30 : Cond.fieldLink RX10 30 (TX10 9).1 (TX10 9).2.1 (TX10 9).2.2.1 ∈ gT := gT_4 236 rfl rfl
theorem wf_X10_33 : Cond.fieldLink RX10 33 (TX10 10).1 (TX10 10).2.1 (TX10 10).2.2.1 ∈ gT := gT_4 237 rfl rfl
theorem wf_X10_36 : Cond.fieldLink RX10 36 (TX10 11).1 (TX10 11).2.1 (TX10 11).2.2.1 ∈ gT := gT_4 238 rfl rfl
theorem wf_X10_39 : Cond.fieldLink RX10 39 (TX10 12).1 (TX10 12).2.1 (TX10 12).2.2.1 ∈ gT := gT_4 239 rfl rfl
theorem wf_X10_42 : Cond.fieldLink RX10 42 (TX10 13).1 (TX10 13).2.1 (TX10 13).2.2.1 ∈ gT := gT_5 0 rfl rfl
theorem wf_X10_45 : Cond.fieldLink RX10 45 (TX10 14).1 (TX10 14).2.1 (TX10 14).2.2.1 ∈ gT := gT_5 1 rfl rfl
theorem wf_X10_48 : Cond.fieldLink RX10 48 (TX10 15).1 (TX10 15).2.1 (TX10 15).2.2.1 ∈ gT := gT_5 2 rfl rfl
theorem wf_X10_51 : Cond.fieldLink RX10 51 (TX10 17).1 (TX10 17).2.1 (TX10 17).2.2.1 ∈ gT := gT_5 4 rfl rfl
theorem wf_X10_54 : Cond.fieldLink RX10 54 (TX10 18).1 (TX10 18).2.1 (TX10 18).2.2.1 ∈ gT := gT_5 5 rfl rfl
theorem wf_X10_57 : Cond.fieldLink RX10 57 (TX10 19).1 (TX10 19).2.1 (TX10 19).2.2.1 ∈ gT := gT_5 6 rfl rfl
theorem wf_X10_60 : Cond.fieldLink RX10 60 (TX10 20).1 (TX10 20).2.1 (TX10 20).2.2.1 ∈ gT := gT_5 7 rfl rfl
theorem wf_X10_63 : Cond.fieldLink RX10 63 (TX10 21).1 (TX10 21).2.1 (TX10 21).2.2.1 ∈ gT := gT_5 8 rfl rfl
theorem wf_X10_66 : Cond.fieldLink RX10 66 (TX10 22).1 (TX10 22).2.1 (TX10 22).2.2.1 ∈ gT := gT_5 9 rfl rfl
theorem wf_X10_69 : Cond.fieldLink RX10 69 (TX10 23).1 (TX10 23).2.1 (TX10 23).2.2.1 ∈ gT := gT_5 10 rfl rfl
theorem wf_X10_72 : Cond.fieldLink RX10 72 (TX10 24).1 (TX10 24).2.1 (TX10 24).2.2.1 ∈ gT := gT_5 11 rfl rfl
theorem wf_X10_75 : Cond.fieldLink RX10 75 (TX10 25).1 (TX10 25).2.1 (TX10 25).2.2.1 ∈ gT := gT_5 12 rfl rfl
theorem wf_X10_78 : Cond.fieldLink RX10 78 (TX10 26).1 (TX10 26).2.1 (TX10 26).2.2.1 ∈ gT := gT_5 13 rfl rfl
theorem wf_X10_81 : Cond.fieldLink RX10 81 (TX10 27).1 (TX10 27).2.1 (TX10 27).2.2.1 ∈ gT := gT_5 14 rfl rfl
theorem wf_X10_84 : Cond.fieldLink RX10 84 (TX10 28).1 (TX10 28).2.1 (TX10 28).2.2.1 ∈ gT := gT_5 15 rfl rfl
theorem wf_X10_87 : Cond.fieldLink RX10 87 (TX10 29).1 (TX10 29).2.1 (TX10 29).2.2.1 ∈ gT := gT_5 16 rfl rfl
theorem wf_X10_90 : Cond.fieldLink RX10 90 (TX10 30).1 (TX10 30).2.1 (TX10 30).2.2.1 ∈ gT := gT_5 17 rfl rfl
theorem wf_X10_93 : Cond.fieldLink RX10 93 (TX10 32).1 (TX10 32).2.1 (TX10 32).2.2.1 ∈ gT := gT_5 19 rfl rfl
theorem wf_X10_96 : Cond.fieldLink RX10 96 (TX10 33).1 (TX10 33).2.1 (TX10 33).2.2.1 ∈ gT := gT_5 20 rfl rfl
theorem wf_X10_99 : Cond.fieldLink RX10 99 (TX10 34).1 (TX10 34).2.1 (TX10 34).2.2.1 ∈ gT := gT_5 21 rfl rfl
theorem wf_X10_102 : Cond.fieldLink RX10 102 (TX10 35).1 (TX10 35).2.1 (TX10 35).2.2.1 ∈ gT := gT_5 22 rfl rfl
theorem wf_X10_105 : Cond.fieldLink RX10 105 (TX10 36).1 (TX10 36).2.1 (TX10 36).2.2.1 ∈ gT := gT_5 23 rfl rfl
theorem wf_X10_108 : Cond.fieldLink RX10 108 (TX10 37).1 (TX10 37).2.1 (TX10 37).2.2.1 ∈ gT := gT_5 24 rfl rfl
theorem wf_X10_111 : Cond.fieldLink RX10 111 (TX10 38).1 (TX10 38).2.1 (TX10 38).2.2.1 ∈ gT := gT_5 25 rfl rfl
theorem wf_X10_114 : Cond.fieldLink RX10 114 (TX10 39).1 (TX10 39).2.1 (TX10 39).2.2.1 ∈ gT := gT_5 26 rfl rfl
theorem wf_X10_117 : Cond.fieldLink RX10 117 (TX10 40).1 (TX10 40).2.1 (TX10 40).2.2.1 ∈ gT := gT_5 27 rfl rfl
theorem wf_X10_120 : Cond.fieldLink RX10 120 (TX10 41).1 (TX10 41).2.1 (TX10 41).2.2.1 ∈ gT := gT_5 28 rfl rfl
theorem wf_X10_123 : Cond.fieldLink RX10 123 (TX10 42).1 (TX10 42).2.1 (TX10 42).2.2.1 ∈ gT := gT_5 29 rfl rfl
theorem wf_X10_126 : Cond.fieldLink RX10 126 (TX10 43).1 (TX10 43).2.1 (TX10 43).2.2.1 ∈ gT := gT_5 30 rfl rfl
theorem wf_X10_129 : Cond.fieldLink RX10 129 (TX10 44).1 (TX10 44).2.1 (TX10 44).2.2.1 ∈ gT := gT_5 31 rfl rfl
theorem wf_X10_132 : Cond.fieldLink RX10 132 (TX10 45).1 (TX10 45).2.1 (TX10 45).2.2.1 ∈ gT := gT_5 32 rfl rfl
theorem wf_X10_135 : Cond.fieldLink RX10 135 (TX10 46).1 (TX10 46).2.1 (TX10 46).2.2.1 ∈ gT := gT_5 33 rfl rfl
theorem wf_X10_138 : Cond.fieldLink RX10 138 (TX10 47).1 (TX10 47).2.1 (TX10 47).2.2.1 ∈ gT := gT_5 34 rfl rfl
theorem wf_X10_141 : Cond.fieldLink RX10 141 (TX10 48).1 (TX10 48).2.1 (TX10 48).2.2.1 ∈ gT := gT_5 35 rfl rfl
theorem wf_X10_144 : Cond.fieldLink RX10 144 (TX10 50).1 (TX10 50).2.1 (TX10 50).2.2.1 ∈ gT := gT_5 37 rfl rfl
theorem wf_X10_147 : Cond.fieldLink RX10 147 (TX10 51).1 (TX10 51).2.1 (TX10 51).2.2.1 ∈ gT := gT_5 38 rfl rfl
theorem wf_X10_150 : Cond.fieldLink RX10 150 (TX10 52).1 (TX10 52).2.1 (TX10 52).2.2.1 ∈ gT := gT_5 39 rfl rfl
theorem wf_X10_153 : Cond.fieldLink RX10 153 (TX10 53).1 (TX10 53).2.1 (TX10 53).2.2.1 ∈ gT := gT_5 40 rfl rfl
theorem wf_X10_160 : Cond.fieldLink RX10 160 (TX10 54).1 (TX10 54).2.1 (TX10 54).2.2.1 ∈ gT := gT_5 41 rfl rfl
theorem wf_X10_167 : Cond.fieldLink RX10 167 (TX10 16).1 (TX10 16).2.1 (TX10 16).2.2.1 ∈ gT := gT_5 3 rfl rfl
theorem wf_X10_192 : Cond.fieldLink RX10 192 (TX10 31).1 (TX10 31).2.1 (TX10 31).2.2.1 ∈ gT := gT_5 18 rfl rfl
theorem wf_X10_205 : Cond.fieldLink RX10 205 (TX10 2).1 (TX10 2).2.1 (TX10 2).2.2.1 ∈ gT := gT_4 229 rfl rfl
theorem wf_X10_221 : Cond.fieldLink RX10 221 (TX10 1).1 (TX10 1).2.1 (TX10 1).2.2.1 ∈ gT := gT_4 228 rfl rfl
theorem wf_X10_224 : Cond.fieldLink RX10 224 (TX10 0).1 (TX10 0).2.1 (TX10 0).2.2.1 ∈ gT := gT_4 227 rfl rfl
theorem wf_X10_267 : Cond.fieldLink RX10 267 (TX10 49).1 (TX10 49).2.1 (TX10 49).2.2.1 ∈ gT := gT_5 36 rfl rfl
theorem wm_X9_9 : Cond.methodLinkNest RX9 9 yX0_init RX9 ∈ lw_tbl := lw_1 29 rfl
theorem wm_X9_18 : Cond.methodLink RX9 18 yX4_init ∈ gT := gT_1 74 rfl rfl
theorem wm_X9_25 : Cond.methodLinkNest RX9 25 yX2_init RX9 ∈ lw_tbl := lw_1 99 rfl
theorem wm_X9_32 : Cond.methodLinkNest RX9 32 yX1_init RX9 ∈ lw_tbl := lw_1 128 rfl
theorem wm_X9_39 : Cond.methodLinkNest RX9 39 yX6_init RX9 ∈ lw_tbl := lw_1 191 rfl
theorem wm_X9_46 : Cond.methodLinkNest RX9 46 yX3_init RX9 ∈ lw_tbl := lw_1 233 rfl
theorem wm_X9_53 : Cond.methodLinkNest RX9 53 yX7_init RX9 ∈ lw_tbl := lw_2 34 rfl
theorem wm_X9_60 : Cond.methodLinkNest RX9 60 yX5_init RX9 ∈ lw_tbl := lw_2 52 rfl
theorem wm_X9_79 : Cond.methodLink RX9 79 yX9_mustExist ∈ gT := gT_2 141 rfl rfl
theorem wm_X9_84 : Cond.methodLink RX9 84 yX9_mustBeIn ∈ gT := gT_2 213 rfl rfl
theorem wm_X9_92 : Cond.methodLink RX9 92 yX0_placeOf ∈ gT := gT_2 232 rfl rfl
theorem wm_X9_96 : Cond.methodLink RX9 96 yX8_swap ∈ gT := gT_2 235 rfl rfl
theorem wm_X9_104 : Cond.methodLink RX9 104 yX8_put ∈ gT := gT_3 11 rfl rfl
theorem wm_X9_138 : Cond.methodLink RX9 138 yX9_mustHold ∈ gT := gT_3 56 rfl rfl
theorem wm_X9_142 : Cond.methodLink RX9 142 yX0_addLanded ∈ gT := gT_3 75 rfl rfl
theorem wm_X9_145 : Cond.methodLink RX9 145 yX0_isAboveQuota ∈ gT := gT_3 84 rfl rfl
theorem wm_X9_149 : Cond.methodLink RX9 149 yX1_rankOf ∈ gT := gT_3 89 rfl rfl
theorem wm_X9_153 : Cond.methodLink RX9 153 yX1_add ∈ gT := gT_3 92 rfl rfl
theorem wm_X9_157 : Cond.methodLink RX9 157 yX1_countWaiting ∈ gT := gT_3 108 rfl rfl
theorem wm_X9_161 : Cond.methodLink RX9 161 yX9_countWaitingBoxes ∈ gT := gT_3 117 rfl rfl
theorem wm_X9_164 : Cond.methodLink RX9 164 yX9_offerBoats ∈ gT := gT_3 124 rfl rfl
theorem wm_X9_170 : Cond.methodLink RX9 170 yX6_countIn ∈ gT := gT_3 168 rfl rfl
theorem wm_X9_174 : Cond.methodLink RX9 174 yX6_nextIn ∈ gT := gT_3 172 rfl rfl
theorem wm_X9_177 : Cond.methodLink RX9 177 yX9_bringToClock ∈ gT := gT_3 176 rfl rfl
theorem wm_X9_180 : Cond.methodLink RX9 180 yX9_beginRound ∈ gT := gT_3 180 rfl rfl
theorem wm_X9_185 : Cond.methodLink RX9 185 yX9_withdrawRest ∈ gT := gT_3 199 rfl rfl
theorem wm_X9_188 : Cond.methodLink RX9 188 yX6_clear ∈ gT := gT_3 227 rfl rfl
theorem wm_X9_194 : Cond.methodLink RX9 194 yX8_fill ∈ gT := gT_3 145 rfl rfl
theorem wm_X9_200 : Cond.methodLink RX9 200 yX8_at ∈ gT := gT_3 122 rfl rfl
theorem wm_X9_203 : Cond.methodLink RX9 203 yX7_isMade ∈ gT := gT_3 238 rfl rfl
theorem wm_X9_209 : Cond.methodLink RX9 209 yX7_make ∈ gT := gT_4 3 rfl rfl
theorem wm_X9_217 : Cond.methodLink RX9 217 yX6_left ∈ gT := gT_3 203 rfl rfl
theorem wm_X9_220 : Cond.methodLink RX9 220 yX9_costOfFirst ∈ gT := gT_4 14 rfl rfl
theorem wm_X9_223 : Cond.methodLink RX9 223 yX2_leftOf ∈ gT := gT_4 18 rfl rfl
theorem wm_X9_226 : Cond.methodLink RX9 226 yX9_sellFirst ∈ gT := gT_4 23 rfl rfl
theorem wm_X9_229 : Cond.methodLink RX9 229 yX9_goOn ∈ gT := gT_4 31 rfl rfl
theorem wm_X9_232 : Cond.methodLink RX9 232 yX9_tickHalls ∈ gT := gT_4 42 rfl rfl
theorem wm_X9_235 : Cond.methodLink RX9 235 yX9_sendLorries ∈ gT := gT_4 97 rfl rfl
theorem wm_X9_239 : Cond.methodLink RX9 239 yX5_add ∈ gT := gT_4 112 rfl rfl
theorem wm_X9_244 : Cond.methodLink RX9 244 Lib.Math.min.name ∈ gT := gT_4 124 rfl rfl
theorem wm_X9_249 : Cond.methodLink RX9 249 Lib.Math.max.name ∈ gT := gT_4 127 rfl rfl
theorem wm_X9_252 : Cond.methodLink RX9 252 yX8_add ∈ gT := gT_3 123 rfl rfl
theorem wm_X9_263 : Cond.methodLink RX9 263 yX1_centsLacking ∈ gT := gT_4 135 rfl rfl
theorem wm_X9_273 : Cond.methodLink RX9 273 Lib.MathLoose.max_long.x ∈ gT := gT_4 147 rfl rfl
theorem wm_X9_282 : Cond.methodLink RX9 282 yX1_freshOf ∈ gT := gT_4 158 rfl rfl
theorem wm_X9_288 : Cond.methodLink RX9 288 yX1_kindOf ∈ gT := gT_3 149 rfl rfl
theorem wm_X9_291 : Cond.methodLink RX9 291 yX1_sizeOf ∈ gT := gT_4 166 rfl rfl
theorem wm_X9_304 : Cond.methodLink RX9 304 yX1_sumOf ∈ gT := gT_4 202 rfl rfl
theorem wm_X9_333 : Cond.methodLink RX9 333 yX1_isWaiting ∈ gT := gT_3 121 rfl rfl
theorem wm_X9_340 : Cond.methodLink RX9 340 yX0_countWaiting ∈ gT := gT_3 128 rfl rfl
theorem wm_X9_344 : Cond.methodLink RX9 344 yX0_findWaiting ∈ gT := gT_3 137 rfl rfl
theorem wm_X9_348 : Cond.methodLink RX9 348 yX9_offerBoat ∈ gT := gT_3 141 rfl rfl
theorem wm_X9_354 : Cond.methodLink RX9 354 yX6_add ∈ gT := gT_3 152 rfl rfl
theorem wm_X9_356 : Cond.methodLink RX9 356 yX6_addBox ∈ gT := gT_3 158 rfl rfl
theorem wm_X9_359 : Cond.methodLink RX9 359 yX1_move ∈ gT := gT_3 164 rfl rfl
theorem wm_X9_362 : Cond.methodLink RX9 362 yX9_tickFalling ∈ gT := gT_4 46 rfl rfl
theorem wm_X9_365 : Cond.methodLink RX9 365 yX9_tickStanding ∈ gT := gT_4 75 rfl rfl
theorem wm_X9_368 : Cond.methodLink RX9 368 yX9_tickTaking ∈ gT := gT_4 93 rfl rfl
theorem wm_X9_371 : Cond.methodLink RX9 371 yX7_isAnyHeard ∈ gT := gT_4 50 rfl rfl
theorem wm_X9_377 : Cond.methodLink RX9 377 yX2_greatestDelay ∈ gT := gT_4 59 rfl rfl
theorem wm_X9_380 : Cond.methodLink RX9 380 yX4_minimumOf ∈ gT := gT_4 66 rfl rfl
theorem wm_X9_383 : Cond.methodLink RX9 383 yX9_findWinner ∈ gT := gT_4 79 rfl rfl
theorem wm_X9_386 : Cond.methodLink RX9 386 yX7_priceOf ∈ gT := gT_4 84 rfl rfl
theorem wm_X9_389 : Cond.methodLink RX9 389 yX6_boxAt ∈ gT := gT_3 207 rfl rfl
theorem wm_X9_392 : Cond.methodLink RX9 392 yX7_isHeard ∈ gT := gT_4 83 rfl rfl
theorem wm_X9_396 : Cond.methodLink RX9 396 yX7_isAhead ∈ gT := gT_4 88 rfl rfl
theorem wm_X9_399 : Cond.methodLink RX9 399 yX7_forget ∈ gT := gT_3 184 rfl rfl
theorem wm_X9_402 : Cond.methodLink RX9 402 yX1_sell ∈ gT := gT_4 27 rfl rfl
theorem wm_X9_408 : Cond.methodLink RX9 408 yX9_withdraw ∈ gT := gT_3 211 rfl rfl
theorem wm_X9_411 : Cond.methodLink RX9 411 yX1_canBeCarried ∈ gT := gT_3 215 rfl rfl
theorem wm_X9_414 : Cond.methodLink RX9 414 yX1_carry ∈ gT := gT_3 222 rfl rfl
theorem wm_X9_420 : Cond.methodLink RX9 420 yX9_fetch ∈ gT := gT_4 101 rfl rfl
theorem wm_X0_11 : Cond.methodLink RX0 11 yX8_init ∈ gT := gT_1 35 rfl rfl
theorem wm_X0_38 : Cond.methodLink RX0 38 yX8_add ∈ gT := gT_3 79 rfl rfl
theorem wm_X0_41 : Cond.methodLink RX0 41 yX0_placeOf ∈ gT := gT_3 83 rfl rfl
theorem wm_X0_45 : Cond.methodLink RX0 45 yX8_at ∈ gT := gT_3 88 rfl rfl
theorem wm_X0_49 : Cond.methodLink RX0 49 yX0_waits ∈ gT := gT_3 132 rfl rfl
theorem wm_X1_11 : Cond.methodLink RX1 11 yX8_init ∈ gT := gT_1 133 rfl rfl
theorem wm_X1_60 : Cond.methodLink RX1 60 yX8_put ∈ gT := gT_3 96 rfl rfl
theorem wm_X1_63 : Cond.methodLink RX1 63 yX8_add ∈ gT := gT_3 97 rfl rfl
theorem wm_X1_66 : Cond.methodLink RX1 66 yX1_sumOf ∈ gT := gT_3 98 rfl rfl
theorem wm_X1_70 : Cond.methodLink RX1 70 yX8_at ∈ gT := gT_3 116 rfl rfl
theorem wm_X1_73 : Cond.methodLink RX1 73 yX1_isWaiting ∈ gT := gT_3 112 rfl rfl
theorem wm_X1_77 : Cond.methodLink RX1 77 yX1_move ∈ gT := gT_3 226 rfl rfl
theorem wm_X1_80 : Cond.methodLink RX1 80 yX1_freshOf ∈ gT := gT_3 219 rfl rfl
theorem wm_X2_11 : Cond.methodLink RX2 11 yX8_init ∈ gT := gT_1 104 rfl rfl
theorem wm_X2_32 : Cond.methodLink RX2 32 yX8_at ∈ gT := gT_4 22 rfl rfl
theorem wm_X2_36 : Cond.methodLink RX2 36 Lib.Math.max.name ∈ gT := gT_4 63 rfl rfl
theorem wm_X3_11 : Cond.methodLink RX3 11 yX8_init ∈ gT := gT_1 238 rfl rfl
theorem wm_X4_11 : Cond.methodLink RX4 11 yX8_init ∈ gT := gT_1 79 rfl rfl
theorem wm_X4_26 : Cond.methodLink RX4 26 yX8_put ∈ gT := gT_1 80 rfl rfl
theorem wm_X4_29 : Cond.methodLink RX4 29 yX1_kindOf ∈ gT := gT_4 70 rfl rfl
theorem wm_X4_35 : Cond.methodLink RX4 35 yX8_at ∈ gT := gT_4 71 rfl rfl
theorem wm_X4_38 : Cond.methodLink RX4 38 yX1_sizeOf ∈ gT := gT_4 72 rfl rfl
theorem wm_X5_11 : Cond.methodLink RX5 11 yX8_init ∈ gT := gT_2 57 rfl rfl
theorem wm_X5_33 : Cond.methodLink RX5 33 yX8_put ∈ gT := gT_4 116 rfl rfl
theorem wm_X6_11 : Cond.methodLink RX6 11 yX8_init ∈ gT := gT_1 196 rfl rfl
theorem wm_X6_47 : Cond.methodLink RX6 47 yX8_put ∈ gT := gT_3 156 rfl rfl
theorem wm_X6_50 : Cond.methodLink RX6 50 yX8_swap ∈ gT := gT_3 157 rfl rfl
theorem wm_X6_54 : Cond.methodLink RX6 54 yX8_at ∈ gT := gT_3 162 rfl rfl
theorem wm_X6_58 : Cond.methodLink RX6 58 yX8_add ∈ gT := gT_3 163 rfl rfl
theorem wm_X7_11 : Cond.methodLink RX7 11 yX8_init ∈ gT := gT_2 39 rfl rfl
theorem wm_X7_26 : Cond.methodLink RX7 26 yX7_placeOf ∈ gT := gT_3 188 rfl rfl
theorem wm_X7_30 : Cond.methodLink RX7 30 yX8_put ∈ gT := gT_3 191 rfl rfl
theorem wm_X7_33 : Cond.methodLink RX7 33 yX8_at ∈ gT := gT_4 2 rfl rfl
theorem wm_X7_37 : Cond.methodLink RX7 37 yX7_isMade ∈ gT := gT_4 58 rfl rfl
theorem wm_X7_41 : Cond.methodLink RX7 41 yX7_isHeard ∈ gT := gT_4 54 rfl rfl
theorem wm_X7_45 : Cond.methodLink RX7 45 yX7_priceOf ∈ gT := gT_4 92 rfl rfl
theorem wm_X8_13 : Cond.methodLink RX8 13 yX8_at ∈ gT := gT_2 239 rfl rfl
theorem wm_X8_17 : Cond.methodLink RX8 17 yX8_put ∈ gT := gT_3 3 rfl rfl
theorem wm_L_7 : Cond.methodLink RL 7 yX9_quota ∈ gT := gT_2 137 rfl rfl
theorem wm_L_17 : Cond.methodLink RL 17 yX9_aid ∈ gT := gT_3 7 rfl rfl
theorem wm_L_21 : Cond.methodLink RL 21 yX9_kind ∈ gT := gT_3 15 rfl rfl
theorem wm_L_25 : Cond.methodLink RL 25 yX9_step ∈ gT := gT_3 22 rfl rfl
theorem wm_L_29 : Cond.methodLink RL 29 yX9_buyer ∈ gT := gT_3 29 rfl rfl
theorem wm_L_32 : Cond.methodLink RL 32 yX9_power ∈ gT := gT_3 37 rfl rfl
theorem wm_L_36 : Cond.methodLink RL 36 yX9_line ∈ gT := gT_3 44 rfl rfl
theorem wm_L_39 : Cond.methodLink RL 39 yX9_land ∈ gT := gT_3 52 rfl rfl
theorem wm_L_45 : Cond.methodLink RL 45 yX9_open ∈ gT := gT_3 104 rfl rfl
theorem wm_L_49 : Cond.methodLink RL 49 yX9_end ∈ gT := gT_3 195 rfl rfl
theorem wm_L_52 : Cond.methodLink RL 52 yX9_press ∈ gT := gT_3 234 rfl rfl
theorem wm_L_55 : Cond.methodLink RL 55 yX9_take ∈ gT := gT_4 10 rfl rfl
theorem wm_L_58 : Cond.methodLink RL 58 yX9_pass ∈ gT := gT_4 38 rfl rfl
theorem wm_L_62 : Cond.methodLink RL 62 yX9_lorry ∈ gT := gT_4 108 rfl rfl
theorem wm_L_65 : Cond.methodLink RL 65 yX9_pay ∈ gT := gT_4 120 rfl rfl
theorem wm_L_68 : Cond.methodLink RL 68 yX9_claim ∈ gT := gT_4 131 rfl rfl
theorem wm_L_71 : Cond.methodLink RL 71 yX9_settle ∈ gT := gT_4 142 rfl rfl
theorem wm_L_74 : Cond.methodLink RL 74 yX9_told ∈ gT := gT_4 154 rfl rfl
theorem wm_L_77 : Cond.methodLink RL 77 yX9_lot ∈ gT := gT_4 162 rfl rfl
theorem wm_L_80 : Cond.methodLink RL 80 yX9_hall ∈ gT := gT_4 170 rfl rfl
theorem wm_L_83 : Cond.methodLink RL 83 yX9_account ∈ gT := gT_4 177 rfl rfl
theorem wm_L_86 : Cond.methodLink RL 86 yX9_ship ∈ gT := gT_4 184 rfl rfl
theorem wm_L_89 : Cond.methodLink RL 89 yX9_kilos ∈ gT := gT_4 191 rfl rfl
theorem wm_L_92 : Cond.methodLink RL 92 yX9_kilosAnew ∈ gT := gT_4 198 rfl rfl
theorem wm_L_95 : Cond.methodLink RL 95 yX9_average ∈ gT := gT_4 206 rfl rfl
theorem wm_L_98 : Cond.methodLink RL 98 yX9_loaded ∈ gT := gT_4 213 rfl rfl
theorem wm_L_101 : Cond.methodLink RL 101 yX9_init ∈ gT := gT_1 21 rfl rfl
theorem wm_L_104 : Cond.methodLink RL 104 yX10_init ∈ gT := gT_4 219 rfl rfl
theorem wm_L_105 : Cond.methodLink RL 105 yL_quota ∈ gT := gT_2 132 rfl rfl
theorem wm_L_110 : Cond.methodLink RL 110 yX10_quota ∈ gT := gT_5 158 rfl rfl
theorem wm_L_111 : Cond.methodLink RL 111 yX10_thrown ∈ gT := gT_5 154 rfl rfl
theorem wm_L_114 : Cond.methodLink RL 114 yL_aid ∈ gT := gT_3 4 rfl rfl
theorem wm_L_117 : Cond.methodLink RL 117 yX10_aid ∈ gT := gT_5 176 rfl rfl
theorem wm_L_118 : Cond.methodLink RL 118 yL_kind ∈ gT := gT_3 12 rfl rfl
theorem wm_L_121 : Cond.methodLink RL 121 yX10_kind ∈ gT := gT_5 180 rfl rfl
theorem wm_L_122 : Cond.methodLink RL 122 yL_step ∈ gT := gT_3 19 rfl rfl
theorem wm_L_125 : Cond.methodLink RL 125 yX10_step ∈ gT := gT_5 187 rfl rfl
theorem wm_L_126 : Cond.methodLink RL 126 yL_buyer ∈ gT := gT_3 26 rfl rfl
theorem wm_L_128 : Cond.methodLink RL 128 yX10_buyer ∈ gT := gT_5 191 rfl rfl
theorem wm_L_129 : Cond.methodLink RL 129 yX9_draw ∈ gT := gT_2 116 rfl rfl
theorem wm_L_132 : Cond.methodLink RL 132 yX10_draw ∈ gT := gT_5 196 rfl rfl
theorem wm_L_133 : Cond.methodLink RL 133 yL_power ∈ gT := gT_3 34 rfl rfl
theorem wm_L_136 : Cond.methodLink RL 136 yX10_power ∈ gT := gT_5 200 rfl rfl
theorem wm_L_137 : Cond.methodLink RL 137 yL_line ∈ gT := gT_3 41 rfl rfl
theorem wm_L_139 : Cond.methodLink RL 139 yX10_line ∈ gT := gT_5 204 rfl rfl
theorem wm_L_140 : Cond.methodLink RL 140 yL_land ∈ gT := gT_3 48 rfl rfl
theorem wm_L_143 : Cond.methodLink RL 143 yX10_land ∈ gT := gT_5 208 rfl rfl
theorem wm_L_144 : Cond.methodLink RL 144 yL_open ∈ gT := gT_3 101 rfl rfl
theorem wm_L_147 : Cond.methodLink RL 147 yX10_open ∈ gT := gT_5 212 rfl rfl
theorem wm_L_148 : Cond.methodLink RL 148 yL_end ∈ gT := gT_3 192 rfl rfl
theorem wm_L_150 : Cond.methodLink RL 150 yX10_end ∈ gT := gT_6 4 rfl rfl
theorem wm_L_151 : Cond.methodLink RL 151 yL_press ∈ gT := gT_3 231 rfl rfl
theorem wm_L_153 : Cond.methodLink RL 153 yX10_press ∈ gT := gT_6 16 rfl rfl
theorem wm_L_154 : Cond.methodLink RL 154 yL_take ∈ gT := gT_4 7 rfl rfl
theorem wm_L_156 : Cond.methodLink RL 156 yX10_take ∈ gT := gT_6 20 rfl rfl
theorem wm_L_157 : Cond.methodLink RL 157 yL_pass ∈ gT := gT_4 35 rfl rfl
theorem wm_L_160 : Cond.methodLink RL 160 yX10_pass ∈ gT := gT_6 48 rfl rfl
theorem wm_L_161 : Cond.methodLink RL 161 yL_lorry ∈ gT := gT_4 105 rfl rfl
theorem wm_L_163 : Cond.methodLink RL 163 yX10_lorry ∈ gT := gT_6 84 rfl rfl
theorem wm_L_164 : Cond.methodLink RL 164 yL_pay ∈ gT := gT_4 117 rfl rfl
theorem wm_L_166 : Cond.methodLink RL 166 yX10_pay ∈ gT := gT_6 88 rfl rfl
theorem wm_L_167 : Cond.methodLink RL 167 yL_claim ∈ gT := gT_4 128 rfl rfl
theorem wm_L_169 : Cond.methodLink RL 169 yX10_claim ∈ gT := gT_6 95 rfl rfl
theorem wm_L_170 : Cond.methodLink RL 170 yL_settle ∈ gT := gT_4 139 rfl rfl
theorem wm_L_172 : Cond.methodLink RL 172 yX10_settle ∈ gT := gT_6 103 rfl rfl
theorem wm_L_173 : Cond.methodLink RL 173 yX9_now ∈ gT := gT_2 120 rfl rfl
theorem wm_L_176 : Cond.methodLink RL 176 yX10_now ∈ gT := gT_6 110 rfl rfl
theorem wm_L_177 : Cond.methodLink RL 177 yX9_day ∈ gT := gT_2 124 rfl rfl
theorem wm_L_180 : Cond.methodLink RL 180 yX10_day ∈ gT := gT_6 114 rfl rfl
theorem wm_L_181 : Cond.methodLink RL 181 yX9_isOpen ∈ gT := gT_2 128 rfl rfl
theorem wm_L_185 : Cond.methodLink RL 185 yX10_isOpen ∈ gT := gT_6 118 rfl rfl
theorem wm_L_186 : Cond.methodLink RL 186 yL_told ∈ gT := gT_4 151 rfl rfl
theorem wm_L_188 : Cond.methodLink RL 188 yX10_told ∈ gT := gT_6 122 rfl rfl
theorem wm_L_189 : Cond.methodLink RL 189 yL_lot ∈ gT := gT_4 159 rfl rfl
theorem wm_L_191 : Cond.methodLink RL 191 yX10_lot ∈ gT := gT_6 126 rfl rfl
theorem wm_L_192 : Cond.methodLink RL 192 yL_hall ∈ gT := gT_4 167 rfl rfl
theorem wm_L_194 : Cond.methodLink RL 194 yX10_hall ∈ gT := gT_6 130 rfl rfl
theorem wm_L_195 : Cond.methodLink RL 195 yL_account ∈ gT := gT_4 174 rfl rfl
theorem wm_L_197 : Cond.methodLink RL 197 yX10_account ∈ gT := gT_6 138 rfl rfl
theorem wm_L_198 : Cond.methodLink RL 198 yL_ship ∈ gT := gT_4 181 rfl rfl
theorem wm_L_200 : Cond.methodLink RL 200 yX10_ship ∈ gT := gT_6 142 rfl rfl
theorem wm_L_201 : Cond.methodLink RL 201 yL_kilos ∈ gT := gT_4 188 rfl rfl
theorem wm_L_203 : Cond.methodLink RL 203 yX10_kilos ∈ gT := gT_6 146 rfl rfl
theorem wm_L_204 : Cond.methodLink RL 204 yL_kilosAnew ∈ gT := gT_4 195 rfl rfl
theorem wm_L_206 : Cond.methodLink RL 206 yX10_kilosAnew ∈ gT := gT_6 153 rfl rfl
theorem wm_L_207 : Cond.methodLink RL 207 yL_average ∈ gT := gT_4 203 rfl rfl
theorem wm_L_209 : Cond.methodLink RL 209 yX10_average ∈ gT := gT_6 158 rfl rfl
theorem wm_L_210 : Cond.methodLink RL 210 yL_loaded ∈ gT := gT_4 210 rfl rfl
theorem wm_L_212 : Cond.methodLink RL 212 yX10_loaded ∈ gT := gT_6 162 rfl rfl
theorem wm_X10_156 : Cond.methodLink RX10 156 yX10_begins ∈ gT := gT_4 223 rfl rfl
theorem wm_X10_163 : Cond.methodLink RX10 163 yX10_isIn ∈ gT := gT_5 165 rfl rfl
theorem wm_X10_170 : Cond.methodLink RX10 170 yX10_isEight ∈ gT := gT_5 162 rfl rfl
theorem wm_X10_174 : Cond.methodLink RX10 174 yX10_isKind ∈ gT := gT_5 168 rfl rfl
theorem wm_X10_178 : Cond.methodLink RX10 178 yX10_fails ∈ gT := gT_5 172 rfl rfl
theorem wm_X10_181 : Cond.methodLink RX10 181 yX10_isHall ∈ gT := gT_5 184 rfl rfl
theorem wm_X10_185 : Cond.methodLink RX10 185 yX10_isToSell ∈ gT := gT_5 220 rfl rfl
theorem wm_X10_189 : Cond.methodLink RX10 189 yX10_size ∈ gT := gT_5 233 rfl rfl
theorem wm_X10_195 : Cond.methodLink RX10 195 yX10_ready ∈ gT := gT_5 216 rfl rfl
theorem wm_X10_199 : Cond.methodLink RX10 199 yX10_drawn ∈ gT := gT_5 228 rfl rfl
theorem wm_X10_202 : Cond.methodLink RX10 202 yX10_parts ∈ gT := gT_5 236 rfl rfl
theorem wm_X10_209 : Cond.methodLink RX10 209 yX10_drawsAll ∈ gT := gT_5 224 rfl rfl
theorem wm_X10_213 : Cond.methodLink RX10 213 yX10_comes ∈ gT := gT_6 0 rfl rfl
theorem wm_X10_215 : Cond.methodLink RX10 215 yX10_withdraws ∈ gT := gT_6 12 rfl rfl
theorem wm_X10_218 : Cond.methodLink RX10 218 yX10_withdrawsAll ∈ gT := gT_6 8 rfl rfl
theorem wm_X10_227 : Cond.methodLink RX10 227 yX10_firstOf ∈ gT := gT_6 40 rfl rfl
theorem wm_X10_230 : Cond.methodLink RX10 230 yX10_leftOf ∈ gT := gT_6 24 rfl rfl
theorem wm_X10_233 : Cond.methodLink RX10 233 yX10_ends ∈ gT := gT_6 44 rfl rfl
theorem wm_X10_236 : Cond.methodLink RX10 236 yX10_costOf ∈ gT := gT_6 28 rfl rfl
theorem wm_X10_240 : Cond.methodLink RX10 240 yX10_canPay ∈ gT := gT_6 32 rfl rfl
theorem wm_X10_244 : Cond.methodLink RX10 244 yX10_gets ∈ gT := gT_6 36 rfl rfl
theorem wm_X10_248 : Cond.methodLink RX10 248 yX10_hears ∈ gT := gT_6 60 rfl rfl
theorem wm_X10_251 : Cond.methodLink RX10 251 yX10_slowest ∈ gT := gT_6 64 rfl rfl
theorem wm_X10_255 : Cond.methodLink RX10 255 yX10_isBefore ∈ gT := gT_6 72 rfl rfl
theorem wm_X10_258 : Cond.methodLink RX10 258 yX10_falls ∈ gT := gT_6 56 rfl rfl
theorem wm_X10_261 : Cond.methodLink RX10 261 yX10_stands ∈ gT := gT_6 68 rfl rfl
theorem wm_X10_264 : Cond.methodLink RX10 264 yX10_waits ∈ gT := gT_6 76 rfl rfl
theorem wm_X10_270 : Cond.methodLink RX10 270 yX10_leaves ∈ gT := gT_6 80 rfl rfl
theorem wm_X10_273 : Cond.methodLink RX10 273 yX10_passes ∈ gT := gT_6 52 rfl rfl
theorem wm_X10_276 : Cond.methodLink RX10 276 yX10_areCents ∈ gT := gT_6 92 rfl rfl
theorem wm_X10_279 : Cond.methodLink RX10 279 yX10_isBox ∈ gT := gT_6 99 rfl rfl
theorem wm_X10_287 : Cond.methodLink RX10 287 yX10_lotsOf ∈ gT := gT_6 134 rfl rfl
theorem wm_X10_290 : Cond.methodLink RX10 290 yX10_isOf ∈ gT := gT_6 150 rfl rfl
theorem wm_X10_293 : Cond.methodLink RX10 293 yX10_kilos ∈ gT := gT_6 157 rfl rfl
theorem wk_X9_83 : Cond.constant RX9 83 100000 ∈ gT := gT_2 212 rfl rfl
theorem wk_X9_122 : Cond.constant RX9 122 100000000 ∈ gT := gT_3 33 rfl rfl
theorem wk_X9_343 : Cond.constant RX9 343 1103515245 ∈ gT := gT_3 136 rfl rfl
theorem wk_X9_272 : Cond.constant RX9 272 10000000 ∈ gT := gT_4 146 rfl rfl
theorem wk_X10_177 : Cond.constant RX10 177 100000 ∈ gT := gT_5 171 rfl rfl
theorem wk_X10_184 : Cond.constant RX10 184 100000000 ∈ gT := gT_5 195 rfl rfl
theorem wk_X10_188 : Cond.constant RX10 188 1103515245 ∈ gT := gT_5 232 rfl rfl
theorem wk_X10_282 : Cond.constant RX10 282 10000000 ∈ gT := gT_6 107 rfl rfl
theorem wk_X9_276 : Cond.constantLong RX9 276 100 ∈ gT := gT_4 150 rfl rfl
theorem wk_X10_283 : Cond.constantLong RX10 283 3 ∈ gT := gT_6 108 rfl rfl
theorem wk_X10_285 : Cond.constantLong RX10 285 100 ∈ gT := gT_6 109 rfl rfl
theorem wc_X9_init : Cond.code yX9_init cX9_init 1 none ∈ gT := gT_1 23 rfl rfl
theorem wi_X9_init : Cond.instanceMethod yX9_init ∈ gT := gT_1 22 rfl rfl
theorem wc_X0_init : Cond.code yX0_init cX0_init 1 none ∈ gT := gT_1 31 rfl rfl
theorem wi_X0_init : Cond.instanceMethod yX0_init ∈ gT := gT_1 30 rfl rfl
theorem wc_X8_init : Cond.code yX8_init cX8_init 4 none ∈ gT := gT_1 37 rfl rfl
theorem wi_X8_init : Cond.instanceMethod yX8_init ∈ gT := gT_1 36 rfl rfl
theorem wc_X4_init : Cond.code yX4_init cX4_init 2 none ∈ gT := gT_1 76 rfl rfl
theorem wi_X4_init : Cond.instanceMethod yX4_init ∈ gT := gT_1 75 rfl rfl
theorem wc_X8_put : Cond.code yX8_put cX8_put 3 none ∈ gT := gT_1 83 rfl rfl
theorem wi_X8_put : Cond.instanceMethod yX8_put ∈ gT := gT_1 81 rfl rfl
theorem ws_X8_put : Cond.selects RX8 yX8_put yX8_put ∈ gT := gT_1 82 rfl rfl
theorem wc_X2_init : Cond.code yX2_init cX2_init 1 none ∈ gT := gT_1 101 rfl rfl
theorem wi_X2_init : Cond.instanceMethod yX2_init ∈ gT := gT_1 100 rfl rfl
theorem wc_X1_init : Cond.code yX1_init cX1_init 1 none ∈ gT := gT_1 130 rfl rfl
theorem wi_X1_init : Cond.instanceMethod yX1_init ∈ gT := gT_1 129 rfl rfl
theorem wc_X6_init : Cond.code yX6_init cX6_init 1 none ∈ gT := gT_1 193 rfl rfl
theorem wi_X6_init : Cond.instanceMethod yX6_init ∈ gT := gT_1 192 rfl rfl
theorem wc_X3_init : Cond.code yX3_init cX3_init 1 none ∈ gT := gT_1 235 rfl rfl
theorem wi_X3_init : Cond.instanceMethod yX3_init ∈ gT := gT_1 234 rfl rfl
theorem wc_X7_init : Cond.code yX7_init cX7_init 1 none ∈ gT := gT_2 36 rfl rfl
theorem wi_X7_init : Cond.instanceMethod yX7_init ∈ gT := gT_2 35 rfl rfl
theorem wc_X5_init : Cond.code yX5_init cX5_init 1 none ∈ gT := gT_2 54 rfl rfl
theorem wi_X5_init : Cond.instanceMethod yX5_init ∈ gT := gT_2 53 rfl rfl
theorem wc_X9_draw : Cond.code yX9_draw cX9_draw 3 (some .int) ∈ gT := gT_2 119 rfl rfl
theorem wi_X9_draw : Cond.instanceMethod yX9_draw ∈ gT := gT_2 117 rfl rfl
theorem ws_X9_draw : Cond.selects RX9 yX9_draw yX9_draw ∈ gT := gT_2 118 rfl rfl
theorem wc_X9_now : Cond.code yX9_now cX9_now 1 (some .int) ∈ gT := gT_2 123 rfl rfl
theorem wi_X9_now : Cond.instanceMethod yX9_now ∈ gT := gT_2 121 rfl rfl
theorem ws_X9_now : Cond.selects RX9 yX9_now yX9_now ∈ gT := gT_2 122 rfl rfl
theorem wc_X9_day : Cond.code yX9_day cX9_day 1 (some .int) ∈ gT := gT_2 127 rfl rfl
theorem wi_X9_day : Cond.instanceMethod yX9_day ∈ gT := gT_2 125 rfl rfl
theorem ws_X9_day : Cond.selects RX9 yX9_day yX9_day ∈ gT := gT_2 126 rfl rfl
theorem wc_X9_isOpen : Cond.code yX9_isOpen cX9_isOpen 1 (some .boolean) ∈ gT := gT_2 131 rfl rfl
theorem wi_X9_isOpen : Cond.instanceMethod yX9_isOpen ∈ gT := gT_2 129 rfl rfl
theorem ws_X9_isOpen : Cond.selects RX9 yX9_isOpen yX9_isOpen ∈ gT := gT_2 130 rfl rfl
theorem wt_L_quota : Cond.static yL_quota ∈ gT := gT_2 133 rfl rfl
theorem wc_X9_quota : Cond.code yX9_quota cX9_quota 4 (some .int) ∈ gT := gT_2 140 rfl rfl
theorem wi_X9_quota : Cond.instanceMethod yX9_quota ∈ gT := gT_2 138 rfl rfl
theorem ws_X9_quota : Cond.selects RX9 yX9_quota yX9_quota ∈ gT := gT_2 139 rfl rfl
theorem wc_X9_mustExist : Cond.code yX9_mustExist cX9_mustExist 2 none ∈ gT := gT_2 143 rfl rfl
theorem wt_X9_mustExist : Cond.static yX9_mustExist ∈ gT := gT_2 142 rfl rfl
theorem wc_X9_mustBeIn : Cond.code yX9_mustBeIn cX9_mustBeIn 3 none ∈ gT := gT_2 215 rfl rfl
theorem wt_X9_mustBeIn : Cond.static yX9_mustBeIn ∈ gT := gT_2 214 rfl rfl
theorem wc_X0_placeOf : Cond.code yX0_placeOf cX0_placeOf 2 (some .int) ∈ gT := gT_2 234 rfl rfl
theorem wt_X0_placeOf : Cond.static yX0_placeOf ∈ gT := gT_2 233 rfl rfl
theorem wc_X8_swap : Cond.code yX8_swap cX8_swap 4 (some .int) ∈ gT := gT_2 238 rfl rfl
theorem wi_X8_swap : Cond.instanceMethod yX8_swap ∈ gT := gT_2 236 rfl rfl
theorem ws_X8_swap : Cond.selects RX8 yX8_swap yX8_swap ∈ gT := gT_2 237 rfl rfl
theorem wc_X8_at : Cond.code yX8_at cX8_at 2 (some .int) ∈ gT := gT_3 2 rfl rfl
theorem wi_X8_at : Cond.instanceMethod yX8_at ∈ gT := gT_3 0 rfl rfl
theorem ws_X8_at : Cond.selects RX8 yX8_at yX8_at ∈ gT := gT_3 1 rfl rfl
theorem wt_L_aid : Cond.static yL_aid ∈ gT := gT_3 5 rfl rfl
theorem wc_X9_aid : Cond.code yX9_aid cX9_aid 4 (some .int) ∈ gT := gT_3 10 rfl rfl
theorem wi_X9_aid : Cond.instanceMethod yX9_aid ∈ gT := gT_3 8 rfl rfl
theorem ws_X9_aid : Cond.selects RX9 yX9_aid yX9_aid ∈ gT := gT_3 9 rfl rfl
theorem wt_L_kind : Cond.static yL_kind ∈ gT := gT_3 13 rfl rfl
theorem wc_X9_kind : Cond.code yX9_kind cX9_kind 5 none ∈ gT := gT_3 18 rfl rfl
theorem wi_X9_kind : Cond.instanceMethod yX9_kind ∈ gT := gT_3 16 rfl rfl
theorem ws_X9_kind : Cond.selects RX9 yX9_kind yX9_kind ∈ gT := gT_3 17 rfl rfl
theorem wt_L_step : Cond.static yL_step ∈ gT := gT_3 20 rfl rfl
theorem wc_X9_step : Cond.code yX9_step cX9_step 3 (some .int) ∈ gT := gT_3 25 rfl rfl
theorem wi_X9_step : Cond.instanceMethod yX9_step ∈ gT := gT_3 23 rfl rfl
theorem ws_X9_step : Cond.selects RX9 yX9_step yX9_step ∈ gT := gT_3 24 rfl rfl
theorem wt_L_buyer : Cond.static yL_buyer ∈ gT := gT_3 27 rfl rfl
theorem wc_X9_buyer : Cond.code yX9_buyer cX9_buyer 4 (some .int) ∈ gT := gT_3 32 rfl rfl
theorem wi_X9_buyer : Cond.instanceMethod yX9_buyer ∈ gT := gT_3 30 rfl rfl
theorem ws_X9_buyer : Cond.selects RX9 yX9_buyer yX9_buyer ∈ gT := gT_3 31 rfl rfl
theorem wt_L_power : Cond.static yL_power ∈ gT := gT_3 35 rfl rfl
theorem wc_X9_power : Cond.code yX9_power cX9_power 3 (some .boolean) ∈ gT := gT_3 40 rfl rfl
theorem wi_X9_power : Cond.instanceMethod yX9_power ∈ gT := gT_3 38 rfl rfl
theorem ws_X9_power : Cond.selects RX9 yX9_power yX9_power ∈ gT := gT_3 39 rfl rfl
theorem wt_L_line : Cond.static yL_line ∈ gT := gT_3 42 rfl rfl
theorem wc_X9_line : Cond.code yX9_line cX9_line 3 (some .boolean) ∈ gT := gT_3 47 rfl rfl
theorem wi_X9_line : Cond.instanceMethod yX9_line ∈ gT := gT_3 45 rfl rfl
theorem ws_X9_line : Cond.selects RX9 yX9_line yX9_line ∈ gT := gT_3 46 rfl rfl
theorem wt_L_land : Cond.static yL_land ∈ gT := gT_3 49 rfl rfl
theorem wc_X9_land : Cond.code yX9_land cX9_land 8 (some .int) ∈ gT := gT_3 55 rfl rfl
theorem wi_X9_land : Cond.instanceMethod yX9_land ∈ gT := gT_3 53 rfl rfl
theorem ws_X9_land : Cond.selects RX9 yX9_land yX9_land ∈ gT := gT_3 54 rfl rfl
theorem wc_X9_mustHold : Cond.code yX9_mustHold cX9_mustHold 1 none ∈ gT := gT_3 58 rfl rfl
theorem wt_X9_mustHold : Cond.static yX9_mustHold ∈ gT := gT_3 57 rfl rfl
theorem wc_X0_addLanded : Cond.code yX0_addLanded cX0_addLanded 4 none ∈ gT := gT_3 78 rfl rfl
theorem wi_X0_addLanded : Cond.instanceMethod yX0_addLanded ∈ gT := gT_3 76 rfl rfl
theorem ws_X0_addLanded : Cond.selects RX0 yX0_addLanded yX0_addLanded ∈ gT := gT_3 77 rfl rfl
theorem wc_X8_add : Cond.code yX8_add cX8_add 3 none ∈ gT := gT_3 82 rfl rfl
theorem wi_X8_add : Cond.instanceMethod yX8_add ∈ gT := gT_3 80 rfl rfl
theorem ws_X8_add : Cond.selects RX8 yX8_add yX8_add ∈ gT := gT_3 81 rfl rfl
theorem wc_X0_isAboveQuota : Cond.code yX0_isAboveQuota cX0_isAboveQuota 4 (some .boolean) ∈ gT := gT_3 87 rfl rfl
theorem wi_X0_isAboveQuota : Cond.instanceMethod yX0_isAboveQuota ∈ gT := gT_3 85 rfl rfl
theorem ws_X0_isAboveQuota : Cond.selects RX0 yX0_isAboveQuota yX0_isAboveQuota ∈ gT := gT_3 86 rfl rfl
theorem wc_X1_rankOf : Cond.code yX1_rankOf cX1_rankOf 3 (some .int) ∈ gT := gT_3 91 rfl rfl
theorem wt_X1_rankOf : Cond.static yX1_rankOf ∈ gT := gT_3 90 rfl rfl
theorem wc_X1_add : Cond.code yX1_add cX1_add 7 (some .int) ∈ gT := gT_3 95 rfl rfl
theorem wi_X1_add : Cond.instanceMethod yX1_add ∈ gT := gT_3 93 rfl rfl
theorem ws_X1_add : Cond.selects RX1 yX1_add yX1_add ∈ gT := gT_3 94 rfl rfl
theorem wc_X1_sumOf : Cond.code yX1_sumOf cX1_sumOf 1 (some .int) ∈ gT := gT_3 100 rfl rfl
theorem wt_X1_sumOf : Cond.static yX1_sumOf ∈ gT := gT_3 99 rfl rfl
theorem wt_L_open : Cond.static yL_open ∈ gT := gT_3 102 rfl rfl
theorem wc_X9_open : Cond.code yX9_open cX9_open 2 (some .int) ∈ gT := gT_3 107 rfl rfl
theorem wi_X9_open : Cond.instanceMethod yX9_open ∈ gT := gT_3 105 rfl rfl
theorem ws_X9_open : Cond.selects RX9 yX9_open yX9_open ∈ gT := gT_3 106 rfl rfl
theorem wc_X1_countWaiting : Cond.code yX1_countWaiting cX1_countWaiting 3 (some .int) ∈ gT := gT_3 111 rfl rfl
theorem wi_X1_countWaiting : Cond.instanceMethod yX1_countWaiting ∈ gT := gT_3 109 rfl rfl
theorem ws_X1_countWaiting : Cond.selects RX1 yX1_countWaiting yX1_countWaiting ∈ gT := gT_3 110 rfl rfl
theorem wc_X1_isWaiting : Cond.code yX1_isWaiting cX1_isWaiting 2 (some .boolean) ∈ gT := gT_3 115 rfl rfl
theorem wi_X1_isWaiting : Cond.instanceMethod yX1_isWaiting ∈ gT := gT_3 113 rfl rfl
theorem ws_X1_isWaiting : Cond.selects RX1 yX1_isWaiting yX1_isWaiting ∈ gT := gT_3 114 rfl rfl
theorem wc_X9_countWaitingBoxes : Cond.code yX9_countWaitingBoxes cX9_countWaitingBoxes 2 none ∈ gT := gT_3 120 rfl rfl
theorem wi_X9_countWaitingBoxes : Cond.instanceMethod yX9_countWaitingBoxes ∈ gT := gT_3 119 rfl rfl
theorem ws_X9_countWaitingBoxes : Cond.selects RX9 yX9_countWaitingBoxes yX9_countWaitingBoxes ∈ gT := gT_0 1 rfl rfl
theorem wc_X9_offerBoats : Cond.code yX9_offerBoats cX9_offerBoats 3 none ∈ gT := gT_3 127 rfl rfl
theorem wi_X9_offerBoats : Cond.instanceMethod yX9_offerBoats ∈ gT := gT_3 126 rfl rfl
theorem ws_X9_offerBoats : Cond.selects RX9 yX9_offerBoats yX9_offerBoats ∈ gT := gT_0 2 rfl rfl
theorem wc_X0_countWaiting : Cond.code yX0_countWaiting cX0_countWaiting 4 (some .int) ∈ gT := gT_3 131 rfl rfl
theorem wi_X0_countWaiting : Cond.instanceMethod yX0_countWaiting ∈ gT := gT_3 129 rfl rfl
theorem ws_X0_countWaiting : Cond.selects RX0 yX0_countWaiting yX0_countWaiting ∈ gT := gT_3 130 rfl rfl
theorem wc_X0_waits : Cond.code yX0_waits cX0_waits 3 (some .boolean) ∈ gT := gT_3 135 rfl rfl
theorem wi_X0_waits : Cond.instanceMethod yX0_waits ∈ gT := gT_3 133 rfl rfl
theorem ws_X0_waits : Cond.selects RX0 yX0_waits yX0_waits ∈ gT := gT_3 134 rfl rfl
theorem wc_X0_findWaiting : Cond.code yX0_findWaiting cX0_findWaiting 5 (some .int) ∈ gT := gT_3 140 rfl rfl
theorem wi_X0_findWaiting : Cond.instanceMethod yX0_findWaiting ∈ gT := gT_3 138 rfl rfl
theorem ws_X0_findWaiting : Cond.selects RX0 yX0_findWaiting yX0_findWaiting ∈ gT := gT_3 139 rfl rfl
theorem wc_X9_offerBoat : Cond.code yX9_offerBoat cX9_offerBoat 3 none ∈ gT := gT_3 144 rfl rfl
theorem wi_X9_offerBoat : Cond.instanceMethod yX9_offerBoat ∈ gT := gT_3 143 rfl rfl
theorem ws_X9_offerBoat : Cond.selects RX9 yX9_offerBoat yX9_offerBoat ∈ gT := gT_0 3 rfl rfl
theorem wc_X8_fill : Cond.code yX8_fill cX8_fill 3 none ∈ gT := gT_3 148 rfl rfl
theorem wi_X8_fill : Cond.instanceMethod yX8_fill ∈ gT := gT_3 146 rfl rfl
theorem ws_X8_fill : Cond.selects RX8 yX8_fill yX8_fill ∈ gT := gT_3 147 rfl rfl
theorem wc_X1_kindOf : Cond.code yX1_kindOf cX1_kindOf 1 (some .int) ∈ gT := gT_3 151 rfl rfl
theorem wt_X1_kindOf : Cond.static yX1_kindOf ∈ gT := gT_3 150 rfl rfl
theorem wc_X6_add : Cond.code yX6_add cX6_add 4 none ∈ gT := gT_3 155 rfl rfl
theorem wi_X6_add : Cond.instanceMethod yX6_add ∈ gT := gT_3 153 rfl rfl
theorem ws_X6_add : Cond.selects RX6 yX6_add yX6_add ∈ gT := gT_3 154 rfl rfl
theorem wc_X6_addBox : Cond.code yX6_addBox cX6_addBox 4 (some .int) ∈ gT := gT_3 161 rfl rfl
theorem wi_X6_addBox : Cond.instanceMethod yX6_addBox ∈ gT := gT_3 159 rfl rfl
theorem ws_X6_addBox : Cond.selects RX6 yX6_addBox yX6_addBox ∈ gT := gT_3 160 rfl rfl
theorem wc_X1_move : Cond.code yX1_move cX1_move 3 none ∈ gT := gT_3 167 rfl rfl
theorem wi_X1_move : Cond.instanceMethod yX1_move ∈ gT := gT_3 165 rfl rfl
theorem ws_X1_move : Cond.selects RX1 yX1_move yX1_move ∈ gT := gT_3 166 rfl rfl
theorem wc_X6_countIn : Cond.code yX6_countIn cX6_countIn 4 (some .int) ∈ gT := gT_3 171 rfl rfl
theorem wi_X6_countIn : Cond.instanceMethod yX6_countIn ∈ gT := gT_3 169 rfl rfl
theorem ws_X6_countIn : Cond.selects RX6 yX6_countIn yX6_countIn ∈ gT := gT_3 170 rfl rfl
theorem wc_X6_nextIn : Cond.code yX6_nextIn cX6_nextIn 4 (some .int) ∈ gT := gT_3 175 rfl rfl
theorem wi_X6_nextIn : Cond.instanceMethod yX6_nextIn ∈ gT := gT_3 173 rfl rfl
theorem ws_X6_nextIn : Cond.selects RX6 yX6_nextIn yX6_nextIn ∈ gT := gT_3 174 rfl rfl
theorem wc_X9_bringToClock : Cond.code yX9_bringToClock cX9_bringToClock 3 none ∈ gT := gT_3 179 rfl rfl
theorem wi_X9_bringToClock : Cond.instanceMethod yX9_bringToClock ∈ gT := gT_3 178 rfl rfl
theorem ws_X9_bringToClock : Cond.selects RX9 yX9_bringToClock yX9_bringToClock ∈ gT := gT_0 4 rfl rfl
theorem wc_X9_beginRound : Cond.code yX9_beginRound cX9_beginRound 2 none ∈ gT := gT_3 183 rfl rfl
theorem wi_X9_beginRound : Cond.instanceMethod yX9_beginRound ∈ gT := gT_3 182 rfl rfl
theorem ws_X9_beginRound : Cond.selects RX9 yX9_beginRound yX9_beginRound ∈ gT := gT_0 5 rfl rfl
theorem wc_X7_forget : Cond.code yX7_forget cX7_forget 3 none ∈ gT := gT_3 187 rfl rfl
theorem wi_X7_forget : Cond.instanceMethod yX7_forget ∈ gT := gT_3 185 rfl rfl
theorem ws_X7_forget : Cond.selects RX7 yX7_forget yX7_forget ∈ gT := gT_3 186 rfl rfl
theorem wc_X7_placeOf : Cond.code yX7_placeOf cX7_placeOf 2 (some .int) ∈ gT := gT_3 190 rfl rfl
theorem wt_X7_placeOf : Cond.static yX7_placeOf ∈ gT := gT_3 189 rfl rfl
theorem wt_L_end : Cond.static yL_end ∈ gT := gT_3 193 rfl rfl
theorem wc_X9_end : Cond.code yX9_end cX9_end 3 (some .int) ∈ gT := gT_3 198 rfl rfl
theorem wi_X9_end : Cond.instanceMethod yX9_end ∈ gT := gT_3 196 rfl rfl
theorem ws_X9_end : Cond.selects RX9 yX9_end yX9_end ∈ gT := gT_3 197 rfl rfl
theorem wc_X9_withdrawRest : Cond.code yX9_withdrawRest cX9_withdrawRest 4 (some .int) ∈ gT := gT_3 202 rfl rfl
theorem wi_X9_withdrawRest : Cond.instanceMethod yX9_withdrawRest ∈ gT := gT_3 201 rfl rfl
theorem ws_X9_withdrawRest : Cond.selects RX9 yX9_withdrawRest yX9_withdrawRest ∈ gT := gT_0 6 rfl rfl
theorem wc_X6_left : Cond.code yX6_left cX6_left 2 (some .int) ∈ gT := gT_3 206 rfl rfl
theorem wi_X6_left : Cond.instanceMethod yX6_left ∈ gT := gT_3 204 rfl rfl
theorem ws_X6_left : Cond.selects RX6 yX6_left yX6_left ∈ gT := gT_3 205 rfl rfl
theorem wc_X6_boxAt : Cond.code yX6_boxAt cX6_boxAt 3 (some .int) ∈ gT := gT_3 210 rfl rfl
theorem wi_X6_boxAt : Cond.instanceMethod yX6_boxAt ∈ gT := gT_3 208 rfl rfl
theorem ws_X6_boxAt : Cond.selects RX6 yX6_boxAt yX6_boxAt ∈ gT := gT_3 209 rfl rfl
theorem wc_X9_withdraw : Cond.code yX9_withdraw cX9_withdraw 4 none ∈ gT := gT_3 214 rfl rfl
theorem wi_X9_withdraw : Cond.instanceMethod yX9_withdraw ∈ gT := gT_3 213 rfl rfl
theorem ws_X9_withdraw : Cond.selects RX9 yX9_withdraw yX9_withdraw ∈ gT := gT_0 7 rfl rfl
theorem wc_X1_canBeCarried : Cond.code yX1_canBeCarried cX1_canBeCarried 2 (some .boolean) ∈ gT := gT_3 218 rfl rfl
theorem wi_X1_canBeCarried : Cond.instanceMethod yX1_canBeCarried ∈ gT := gT_3 216 rfl rfl
theorem ws_X1_canBeCarried : Cond.selects RX1 yX1_canBeCarried yX1_canBeCarried ∈ gT := gT_3 217 rfl rfl
theorem wc_X1_freshOf : Cond.code yX1_freshOf cX1_freshOf 1 (some .int) ∈ gT := gT_3 221 rfl rfl
theorem wt_X1_freshOf : Cond.static yX1_freshOf ∈ gT := gT_3 220 rfl rfl
theorem wc_X1_carry : Cond.code yX1_carry cX1_carry 2 none ∈ gT := gT_3 225 rfl rfl
theorem wi_X1_carry : Cond.instanceMethod yX1_carry ∈ gT := gT_3 223 rfl rfl
theorem ws_X1_carry : Cond.selects RX1 yX1_carry yX1_carry ∈ gT := gT_3 224 rfl rfl
theorem wc_X6_clear : Cond.code yX6_clear cX6_clear 1 none ∈ gT := gT_3 230 rfl rfl
theorem wi_X6_clear : Cond.instanceMethod yX6_clear ∈ gT := gT_3 228 rfl rfl
theorem ws_X6_clear : Cond.selects RX6 yX6_clear yX6_clear ∈ gT := gT_3 229 rfl rfl
theorem wt_L_press : Cond.static yL_press ∈ gT := gT_3 232 rfl rfl
theorem wc_X9_press : Cond.code yX9_press cX9_press 4 (some .int) ∈ gT := gT_3 237 rfl rfl
theorem wi_X9_press : Cond.instanceMethod yX9_press ∈ gT := gT_3 235 rfl rfl
theorem ws_X9_press : Cond.selects RX9 yX9_press yX9_press ∈ gT := gT_3 236 rfl rfl
theorem wc_X7_isMade : Cond.code yX7_isMade cX7_isMade 3 (some .boolean) ∈ gT := gT_4 1 rfl rfl
theorem wi_X7_isMade : Cond.instanceMethod yX7_isMade ∈ gT := gT_3 239 rfl rfl
theorem ws_X7_isMade : Cond.selects RX7 yX7_isMade yX7_isMade ∈ gT := gT_4 0 rfl rfl
theorem wc_X7_make : Cond.code yX7_make cX7_make 7 none ∈ gT := gT_4 6 rfl rfl
theorem wi_X7_make : Cond.instanceMethod yX7_make ∈ gT := gT_4 4 rfl rfl
theorem ws_X7_make : Cond.selects RX7 yX7_make yX7_make ∈ gT := gT_4 5 rfl rfl
theorem wt_L_take : Cond.static yL_take ∈ gT := gT_4 8 rfl rfl
theorem wc_X9_take : Cond.code yX9_take cX9_take 5 (some .int) ∈ gT := gT_4 13 rfl rfl
theorem wi_X9_take : Cond.instanceMethod yX9_take ∈ gT := gT_4 11 rfl rfl
theorem ws_X9_take : Cond.selects RX9 yX9_take yX9_take ∈ gT := gT_4 12 rfl rfl
theorem wc_X9_costOfFirst : Cond.code yX9_costOfFirst cX9_costOfFirst 6 (some .int) ∈ gT := gT_4 17 rfl rfl
theorem wi_X9_costOfFirst : Cond.instanceMethod yX9_costOfFirst ∈ gT := gT_4 16 rfl rfl
theorem ws_X9_costOfFirst : Cond.selects RX9 yX9_costOfFirst yX9_costOfFirst ∈ gT := gT_0 8 rfl rfl
theorem wc_X2_leftOf : Cond.code yX2_leftOf cX2_leftOf 2 (some .int) ∈ gT := gT_4 21 rfl rfl
theorem wi_X2_leftOf : Cond.instanceMethod yX2_leftOf ∈ gT := gT_4 19 rfl rfl
theorem ws_X2_leftOf : Cond.selects RX2 yX2_leftOf yX2_leftOf ∈ gT := gT_4 20 rfl rfl
theorem wc_X9_sellFirst : Cond.code yX9_sellFirst cX9_sellFirst 9 none ∈ gT := gT_4 26 rfl rfl
theorem wi_X9_sellFirst : Cond.instanceMethod yX9_sellFirst ∈ gT := gT_4 25 rfl rfl
theorem ws_X9_sellFirst : Cond.selects RX9 yX9_sellFirst yX9_sellFirst ∈ gT := gT_0 9 rfl rfl
theorem wc_X1_sell : Cond.code yX1_sell cX1_sell 4 none ∈ gT := gT_4 30 rfl rfl
theorem wi_X1_sell : Cond.instanceMethod yX1_sell ∈ gT := gT_4 28 rfl rfl
theorem ws_X1_sell : Cond.selects RX1 yX1_sell yX1_sell ∈ gT := gT_4 29 rfl rfl
theorem wc_X9_goOn : Cond.code yX9_goOn cX9_goOn 3 none ∈ gT := gT_4 34 rfl rfl
theorem wi_X9_goOn : Cond.instanceMethod yX9_goOn ∈ gT := gT_4 33 rfl rfl
theorem ws_X9_goOn : Cond.selects RX9 yX9_goOn yX9_goOn ∈ gT := gT_0 10 rfl rfl
theorem wt_L_pass : Cond.static yL_pass ∈ gT := gT_4 36 rfl rfl
theorem wc_X9_pass : Cond.code yX9_pass cX9_pass 3 (some .int) ∈ gT := gT_4 41 rfl rfl
theorem wi_X9_pass : Cond.instanceMethod yX9_pass ∈ gT := gT_4 39 rfl rfl
theorem ws_X9_pass : Cond.selects RX9 yX9_pass yX9_pass ∈ gT := gT_4 40 rfl rfl
theorem wc_X9_tickHalls : Cond.code yX9_tickHalls cX9_tickHalls 2 none ∈ gT := gT_4 45 rfl rfl
theorem wi_X9_tickHalls : Cond.instanceMethod yX9_tickHalls ∈ gT := gT_4 44 rfl rfl
theorem ws_X9_tickHalls : Cond.selects RX9 yX9_tickHalls yX9_tickHalls ∈ gT := gT_0 11 rfl rfl
theorem wc_X9_tickFalling : Cond.code yX9_tickFalling cX9_tickFalling 3 none ∈ gT := gT_4 49 rfl rfl
theorem wi_X9_tickFalling : Cond.instanceMethod yX9_tickFalling ∈ gT := gT_4 48 rfl rfl
theorem ws_X9_tickFalling : Cond.selects RX9 yX9_tickFalling yX9_tickFalling ∈ gT := gT_0 12 rfl rfl
theorem wc_X7_isAnyHeard : Cond.code yX7_isAnyHeard cX7_isAnyHeard 4 (some .boolean) ∈ gT := gT_4 53 rfl rfl
theorem wi_X7_isAnyHeard : Cond.instanceMethod yX7_isAnyHeard ∈ gT := gT_4 51 rfl rfl
theorem ws_X7_isAnyHeard : Cond.selects RX7 yX7_isAnyHeard yX7_isAnyHeard ∈ gT := gT_4 52 rfl rfl
theorem wc_X7_isHeard : Cond.code yX7_isHeard cX7_isHeard 4 (some .boolean) ∈ gT := gT_4 57 rfl rfl
theorem wi_X7_isHeard : Cond.instanceMethod yX7_isHeard ∈ gT := gT_4 55 rfl rfl
theorem ws_X7_isHeard : Cond.selects RX7 yX7_isHeard yX7_isHeard ∈ gT := gT_4 56 rfl rfl
theorem wc_X2_greatestDelay : Cond.code yX2_greatestDelay cX2_greatestDelay 3 (some .int) ∈ gT := gT_4 62 rfl rfl
theorem wi_X2_greatestDelay : Cond.instanceMethod yX2_greatestDelay ∈ gT := gT_4 60 rfl rfl
theorem ws_X2_greatestDelay : Cond.selects RX2 yX2_greatestDelay yX2_greatestDelay ∈ gT := gT_4 61 rfl rfl
theorem wc_X4_minimumOf : Cond.code yX4_minimumOf cX4_minimumOf 2 (some .int) ∈ gT := gT_4 69 rfl rfl
theorem wi_X4_minimumOf : Cond.instanceMethod yX4_minimumOf ∈ gT := gT_4 67 rfl rfl
theorem ws_X4_minimumOf : Cond.selects RX4 yX4_minimumOf yX4_minimumOf ∈ gT := gT_4 68 rfl rfl
theorem wc_X1_sizeOf : Cond.code yX1_sizeOf cX1_sizeOf 1 (some .int) ∈ gT := gT_4 74 rfl rfl
theorem wt_X1_sizeOf : Cond.static yX1_sizeOf ∈ gT := gT_4 73 rfl rfl
theorem wc_X9_tickStanding : Cond.code yX9_tickStanding cX9_tickStanding 3 none ∈ gT := gT_4 78 rfl rfl
theorem wi_X9_tickStanding : Cond.instanceMethod yX9_tickStanding ∈ gT := gT_4 77 rfl rfl
theorem ws_X9_tickStanding : Cond.selects RX9 yX9_tickStanding yX9_tickStanding ∈ gT := gT_0 13 rfl rfl
theorem wc_X9_findWinner : Cond.code yX9_findWinner cX9_findWinner 5 (some .int) ∈ gT := gT_4 82 rfl rfl
theorem wi_X9_findWinner : Cond.instanceMethod yX9_findWinner ∈ gT := gT_4 81 rfl rfl
theorem ws_X9_findWinner : Cond.selects RX9 yX9_findWinner yX9_findWinner ∈ gT := gT_0 14 rfl rfl
theorem wc_X7_priceOf : Cond.code yX7_priceOf cX7_priceOf 3 (some .int) ∈ gT := gT_4 87 rfl rfl
theorem wi_X7_priceOf : Cond.instanceMethod yX7_priceOf ∈ gT := gT_4 85 rfl rfl
theorem ws_X7_priceOf : Cond.selects RX7 yX7_priceOf yX7_priceOf ∈ gT := gT_4 86 rfl rfl
theorem wc_X7_isAhead : Cond.code yX7_isAhead cX7_isAhead 6 (some .boolean) ∈ gT := gT_4 91 rfl rfl
theorem wi_X7_isAhead : Cond.instanceMethod yX7_isAhead ∈ gT := gT_4 89 rfl rfl
theorem ws_X7_isAhead : Cond.selects RX7 yX7_isAhead yX7_isAhead ∈ gT := gT_4 90 rfl rfl
theorem wc_X9_tickTaking : Cond.code yX9_tickTaking cX9_tickTaking 2 none ∈ gT := gT_4 96 rfl rfl
theorem wi_X9_tickTaking : Cond.instanceMethod yX9_tickTaking ∈ gT := gT_4 95 rfl rfl
theorem ws_X9_tickTaking : Cond.selects RX9 yX9_tickTaking yX9_tickTaking ∈ gT := gT_0 15 rfl rfl
theorem wc_X9_sendLorries : Cond.code yX9_sendLorries cX9_sendLorries 2 none ∈ gT := gT_4 100 rfl rfl
theorem wi_X9_sendLorries : Cond.instanceMethod yX9_sendLorries ∈ gT := gT_4 99 rfl rfl
theorem ws_X9_sendLorries : Cond.selects RX9 yX9_sendLorries yX9_sendLorries ∈ gT := gT_0 16 rfl rfl
theorem wc_X9_fetch : Cond.code yX9_fetch cX9_fetch 5 none ∈ gT := gT_4 104 rfl rfl
theorem wi_X9_fetch : Cond.instanceMethod yX9_fetch ∈ gT := gT_4 103 rfl rfl
theorem ws_X9_fetch : Cond.selects RX9 yX9_fetch yX9_fetch ∈ gT := gT_0 17 rfl rfl
theorem wt_L_lorry : Cond.static yL_lorry ∈ gT := gT_4 106 rfl rfl
theorem wc_X9_lorry : Cond.code yX9_lorry cX9_lorry 4 (some .int) ∈ gT := gT_4 111 rfl rfl
theorem wi_X9_lorry : Cond.instanceMethod yX9_lorry ∈ gT := gT_4 109 rfl rfl
theorem ws_X9_lorry : Cond.selects RX9 yX9_lorry yX9_lorry ∈ gT := gT_4 110 rfl rfl
theorem wc_X5_add : Cond.code yX5_add cX5_add 5 (some .int) ∈ gT := gT_4 115 rfl rfl
theorem wi_X5_add : Cond.instanceMethod yX5_add ∈ gT := gT_4 113 rfl rfl
theorem ws_X5_add : Cond.selects RX5 yX5_add yX5_add ∈ gT := gT_4 114 rfl rfl
theorem wt_L_pay : Cond.static yL_pay ∈ gT := gT_4 118 rfl rfl
theorem wc_X9_pay : Cond.code yX9_pay cX9_pay 4 (some .int) ∈ gT := gT_4 123 rfl rfl
theorem wi_X9_pay : Cond.instanceMethod yX9_pay ∈ gT := gT_4 121 rfl rfl
theorem ws_X9_pay : Cond.selects RX9 yX9_pay yX9_pay ∈ gT := gT_4 122 rfl rfl
theorem wt_L_claim : Cond.static yL_claim ∈ gT := gT_4 129 rfl rfl
theorem wc_X9_claim : Cond.code yX9_claim cX9_claim 4 (some .int) ∈ gT := gT_4 134 rfl rfl
theorem wi_X9_claim : Cond.instanceMethod yX9_claim ∈ gT := gT_4 132 rfl rfl
theorem ws_X9_claim : Cond.selects RX9 yX9_claim yX9_claim ∈ gT := gT_4 133 rfl rfl
theorem wc_X1_centsLacking : Cond.code yX1_centsLacking cX1_centsLacking 3 (some .int) ∈ gT := gT_4 138 rfl rfl
theorem wi_X1_centsLacking : Cond.instanceMethod yX1_centsLacking ∈ gT := gT_4 136 rfl rfl
theorem ws_X1_centsLacking : Cond.selects RX1 yX1_centsLacking yX1_centsLacking ∈ gT := gT_4 137 rfl rfl
theorem wt_L_settle : Cond.static yL_settle ∈ gT := gT_4 140 rfl rfl
theorem wc_X9_settle : Cond.code yX9_settle cX9_settle 8 (some .int) ∈ gT := gT_4 145 rfl rfl
theorem wi_X9_settle : Cond.instanceMethod yX9_settle ∈ gT := gT_4 143 rfl rfl
theorem ws_X9_settle : Cond.selects RX9 yX9_settle yX9_settle ∈ gT := gT_4 144 rfl rfl
theorem wt_L_told : Cond.static yL_told ∈ gT := gT_4 152 rfl rfl
theorem wc_X9_told : Cond.code yX9_told cX9_told 3 (some .int) ∈ gT := gT_4 157 rfl rfl
theorem wi_X9_told : Cond.instanceMethod yX9_told ∈ gT := gT_4 155 rfl rfl
theorem ws_X9_told : Cond.selects RX9 yX9_told yX9_told ∈ gT := gT_4 156 rfl rfl
theorem wt_L_lot : Cond.static yL_lot ∈ gT := gT_4 160 rfl rfl
theorem wc_X9_lot : Cond.code yX9_lot cX9_lot 3 (some .int) ∈ gT := gT_4 165 rfl rfl
theorem wi_X9_lot : Cond.instanceMethod yX9_lot ∈ gT := gT_4 163 rfl rfl
theorem ws_X9_lot : Cond.selects RX9 yX9_lot yX9_lot ∈ gT := gT_4 164 rfl rfl
theorem wt_L_hall : Cond.static yL_hall ∈ gT := gT_4 168 rfl rfl
theorem wc_X9_hall : Cond.code yX9_hall cX9_hall 3 (some .int) ∈ gT := gT_4 173 rfl rfl
theorem wi_X9_hall : Cond.instanceMethod yX9_hall ∈ gT := gT_4 171 rfl rfl
theorem ws_X9_hall : Cond.selects RX9 yX9_hall yX9_hall ∈ gT := gT_4 172 rfl rfl
theorem wt_L_account : Cond.static yL_account ∈ gT := gT_4 175 rfl rfl
theorem wc_X9_account : Cond.code yX9_account cX9_account 3 (some .int) ∈ gT := gT_4 180 rfl rfl
theorem wi_X9_account : Cond.instanceMethod yX9_account ∈ gT := gT_4 178 rfl rfl
theorem ws_X9_account : Cond.selects RX9 yX9_account yX9_account ∈ gT := gT_4 179 rfl rfl
theorem wt_L_ship : Cond.static yL_ship ∈ gT := gT_4 182 rfl rfl
theorem wc_X9_ship : Cond.code yX9_ship cX9_ship 3 (some .int) ∈ gT := gT_4 187 rfl rfl
theorem wi_X9_ship : Cond.instanceMethod yX9_ship ∈ gT := gT_4 185 rfl rfl
theorem ws_X9_ship : Cond.selects RX9 yX9_ship yX9_ship ∈ gT := gT_4 186 rfl rfl
theorem wt_L_kilos : Cond.static yL_kilos ∈ gT := gT_4 189 rfl rfl
theorem wc_X9_kilos : Cond.code yX9_kilos cX9_kilos 2 (some .int) ∈ gT := gT_4 194 rfl rfl
theorem wi_X9_kilos : Cond.instanceMethod yX9_kilos ∈ gT := gT_4 192 rfl rfl
theorem ws_X9_kilos : Cond.selects RX9 yX9_kilos yX9_kilos ∈ gT := gT_4 193 rfl rfl
theorem wt_L_kilosAnew : Cond.static yL_kilosAnew ∈ gT := gT_4 196 rfl rfl
theorem wc_X9_kilosAnew : Cond.code yX9_kilosAnew cX9_kilosAnew 4 (some .int) ∈ gT := gT_4 201 rfl rfl
theorem wi_X9_kilosAnew : Cond.instanceMethod yX9_kilosAnew ∈ gT := gT_4 199 rfl rfl
theorem ws_X9_kilosAnew : Cond.selects RX9 yX9_kilosAnew yX9_kilosAnew ∈ gT := gT_4 200 rfl rfl
theorem wt_L_average : Cond.static yL_average ∈ gT := gT_4 204 rfl rfl
theorem wc_X9_average : Cond.code yX9_average cX9_average 6 (some .int) ∈ gT := gT_4 209 rfl rfl
theorem wi_X9_average : Cond.instanceMethod yX9_average ∈ gT := gT_4 207 rfl rfl
theorem ws_X9_average : Cond.selects RX9 yX9_average yX9_average ∈ gT := gT_4 208 rfl rfl
theorem wt_L_loaded : Cond.static yL_loaded ∈ gT := gT_4 211 rfl rfl
theorem wc_X9_loaded : Cond.code yX9_loaded cX9_loaded 2 (some .int) ∈ gT := gT_4 216 rfl rfl
theorem wi_X9_loaded : Cond.instanceMethod yX9_loaded ∈ gT := gT_4 214 rfl rfl
theorem ws_X9_loaded : Cond.selects RX9 yX9_loaded yX9_loaded ∈ gT := gT_4 215 rfl rfl
theorem wc_X10_init : Cond.code yX10_init cX10_init 2 none ∈ gT := gT_4 221 rfl rfl
theorem wi_X10_init : Cond.instanceMethod yX10_init ∈ gT := gT_4 220 rfl rfl
theorem wc_X10_begins : Cond.code yX10_begins cX10_begins 3 none ∈ gT := gT_4 226 rfl rfl
theorem wi_X10_begins : Cond.instanceMethod yX10_begins ∈ gT := gT_4 225 rfl rfl
theorem ws_X10_begins : Cond.selects RX10 yX10_begins yX10_begins ∈ gT := gT_0 18 rfl rfl
theorem wc_X10_thrown : Cond.code yX10_thrown cX10_thrown 1 (some .int) ∈ gT := gT_5 157 rfl rfl
theorem wi_X10_thrown : Cond.instanceMethod yX10_thrown ∈ gT := gT_5 155 rfl rfl
theorem ws_X10_thrown : Cond.selects RX10 yX10_thrown yX10_thrown ∈ gT := gT_5 156 rfl rfl
theorem wc_X10_quota : Cond.code yX10_quota cX10_quota 6 (some .int) ∈ gT := gT_5 161 rfl rfl
theorem wi_X10_quota : Cond.instanceMethod yX10_quota ∈ gT := gT_5 159 rfl rfl
theorem ws_X10_quota : Cond.selects RX10 yX10_quota yX10_quota ∈ gT := gT_5 160 rfl rfl
theorem wc_X10_isEight : Cond.code yX10_isEight cX10_isEight 1 (some .boolean) ∈ gT := gT_5 164 rfl rfl
theorem wt_X10_isEight : Cond.static yX10_isEight ∈ gT := gT_5 163 rfl rfl
theorem wc_X10_isIn : Cond.code yX10_isIn cX10_isIn 3 (some .boolean) ∈ gT := gT_5 167 rfl rfl
theorem wt_X10_isIn : Cond.static yX10_isIn ∈ gT := gT_5 166 rfl rfl
theorem wc_X10_isKind : Cond.code yX10_isKind cX10_isKind 1 (some .boolean) ∈ gT := gT_5 170 rfl rfl
theorem wt_X10_isKind : Cond.static yX10_isKind ∈ gT := gT_5 169 rfl rfl
theorem wc_X10_fails : Cond.code yX10_fails cX10_fails 2 (some .boolean) ∈ gT := gT_5 175 rfl rfl
theorem wi_X10_fails : Cond.instanceMethod yX10_fails ∈ gT := gT_5 174 rfl rfl
theorem ws_X10_fails : Cond.selects RX10 yX10_fails yX10_fails ∈ gT := gT_0 19 rfl rfl
theorem wc_X10_aid : Cond.code yX10_aid cX10_aid 5 (some .int) ∈ gT := gT_5 179 rfl rfl
theorem wi_X10_aid : Cond.instanceMethod yX10_aid ∈ gT := gT_5 177 rfl rfl
theorem ws_X10_aid : Cond.selects RX10 yX10_aid yX10_aid ∈ gT := gT_5 178 rfl rfl
theorem wc_X10_kind : Cond.code yX10_kind cX10_kind 7 none ∈ gT := gT_5 183 rfl rfl
theorem wi_X10_kind : Cond.instanceMethod yX10_kind ∈ gT := gT_5 181 rfl rfl
theorem ws_X10_kind : Cond.selects RX10 yX10_kind yX10_kind ∈ gT := gT_5 182 rfl rfl
theorem wc_X10_isHall : Cond.code yX10_isHall cX10_isHall 1 (some .boolean) ∈ gT := gT_5 186 rfl rfl
theorem wt_X10_isHall : Cond.static yX10_isHall ∈ gT := gT_5 185 rfl rfl
theorem wc_X10_step : Cond.code yX10_step cX10_step 4 (some .int) ∈ gT := gT_5 190 rfl rfl
theorem wi_X10_step : Cond.instanceMethod yX10_step ∈ gT := gT_5 188 rfl rfl
theorem ws_X10_step : Cond.selects RX10 yX10_step yX10_step ∈ gT := gT_5 189 rfl rfl
theorem wc_X10_buyer : Cond.code yX10_buyer cX10_buyer 6 (some .int) ∈ gT := gT_5 194 rfl rfl
theorem wi_X10_buyer : Cond.instanceMethod yX10_buyer ∈ gT := gT_5 192 rfl rfl
theorem ws_X10_buyer : Cond.selects RX10 yX10_buyer yX10_buyer ∈ gT := gT_5 193 rfl rfl
theorem wc_X10_draw : Cond.code yX10_draw cX10_draw 3 (some .int) ∈ gT := gT_5 199 rfl rfl
theorem wi_X10_draw : Cond.instanceMethod yX10_draw ∈ gT := gT_5 197 rfl rfl
theorem ws_X10_draw : Cond.selects RX10 yX10_draw yX10_draw ∈ gT := gT_5 198 rfl rfl
theorem wc_X10_power : Cond.code yX10_power cX10_power 4 (some .boolean) ∈ gT := gT_5 203 rfl rfl
theorem wi_X10_power : Cond.instanceMethod yX10_power ∈ gT := gT_5 201 rfl rfl
theorem ws_X10_power : Cond.selects RX10 yX10_power yX10_power ∈ gT := gT_5 202 rfl rfl
theorem wc_X10_line : Cond.code yX10_line cX10_line 4 (some .boolean) ∈ gT := gT_5 207 rfl rfl
theorem wi_X10_line : Cond.instanceMethod yX10_line ∈ gT := gT_5 205 rfl rfl
theorem ws_X10_line : Cond.selects RX10 yX10_line yX10_line ∈ gT := gT_5 206 rfl rfl
theorem wc_X10_land : Cond.code yX10_land cX10_land 10 (some .int) ∈ gT := gT_5 211 rfl rfl
theorem wi_X10_land : Cond.instanceMethod yX10_land ∈ gT := gT_5 209 rfl rfl
theorem ws_X10_land : Cond.selects RX10 yX10_land yX10_land ∈ gT := gT_5 210 rfl rfl
theorem wc_X10_open : Cond.code yX10_open cX10_open 2 (some .int) ∈ gT := gT_5 215 rfl rfl
theorem wi_X10_open : Cond.instanceMethod yX10_open ∈ gT := gT_5 213 rfl rfl
theorem ws_X10_open : Cond.selects RX10 yX10_open yX10_open ∈ gT := gT_5 214 rfl rfl
theorem wc_X10_ready : Cond.code yX10_ready cX10_ready 4 (some .int) ∈ gT := gT_5 219 rfl rfl
theorem wi_X10_ready : Cond.instanceMethod yX10_ready ∈ gT := gT_5 218 rfl rfl
theorem ws_X10_ready : Cond.selects RX10 yX10_ready yX10_ready ∈ gT := gT_0 20 rfl rfl
theorem wc_X10_isToSell : Cond.code yX10_isToSell cX10_isToSell 2 (some .boolean) ∈ gT := gT_5 223 rfl rfl
theorem wi_X10_isToSell : Cond.instanceMethod yX10_isToSell ∈ gT := gT_5 222 rfl rfl
theorem ws_X10_isToSell : Cond.selects RX10 yX10_isToSell yX10_isToSell ∈ gT := gT_0 21 rfl rfl
theorem wc_X10_drawsAll : Cond.code yX10_drawsAll cX10_drawsAll 4 none ∈ gT := gT_5 227 rfl rfl
theorem wi_X10_drawsAll : Cond.instanceMethod yX10_drawsAll ∈ gT := gT_5 226 rfl rfl
theorem ws_X10_drawsAll : Cond.selects RX10 yX10_drawsAll yX10_drawsAll ∈ gT := gT_0 22 rfl rfl
theorem wc_X10_drawn : Cond.code yX10_drawn cX10_drawn 5 (some .int) ∈ gT := gT_5 231 rfl rfl
theorem wi_X10_drawn : Cond.instanceMethod yX10_drawn ∈ gT := gT_5 230 rfl rfl
theorem ws_X10_drawn : Cond.selects RX10 yX10_drawn yX10_drawn ∈ gT := gT_0 23 rfl rfl
theorem wc_X10_size : Cond.code yX10_size cX10_size 3 (some .int) ∈ gT := gT_5 235 rfl rfl
theorem wt_X10_size : Cond.static yX10_size ∈ gT := gT_5 234 rfl rfl
theorem wc_X10_parts : Cond.code yX10_parts cX10_parts 8 none ∈ gT := gT_5 239 rfl rfl
theorem wi_X10_parts : Cond.instanceMethod yX10_parts ∈ gT := gT_5 238 rfl rfl
theorem ws_X10_parts : Cond.selects RX10 yX10_parts yX10_parts ∈ gT := gT_0 24 rfl rfl
theorem wc_X10_comes : Cond.code yX10_comes cX10_comes 3 none ∈ gT := gT_6 3 rfl rfl
theorem wi_X10_comes : Cond.instanceMethod yX10_comes ∈ gT := gT_6 2 rfl rfl
theorem ws_X10_comes : Cond.selects RX10 yX10_comes yX10_comes ∈ gT := gT_0 25 rfl rfl
theorem wc_X10_end : Cond.code yX10_end cX10_end 3 (some .int) ∈ gT := gT_6 7 rfl rfl
theorem wi_X10_end : Cond.instanceMethod yX10_end ∈ gT := gT_6 5 rfl rfl
theorem ws_X10_end : Cond.selects RX10 yX10_end yX10_end ∈ gT := gT_6 6 rfl rfl
theorem wc_X10_withdrawsAll : Cond.code yX10_withdrawsAll cX10_withdrawsAll 4 (some .int) ∈ gT := gT_6 11 rfl rfl
theorem wi_X10_withdrawsAll : Cond.instanceMethod yX10_withdrawsAll ∈ gT := gT_6 10 rfl rfl
theorem ws_X10_withdrawsAll : Cond.selects RX10 yX10_withdrawsAll yX10_withdrawsAll ∈ gT := gT_0 26 rfl rfl
theorem wc_X10_withdraws : Cond.code yX10_withdraws cX10_withdraws 2 none ∈ gT := gT_6 15 rfl rfl
theorem wi_X10_withdraws : Cond.instanceMethod yX10_withdraws ∈ gT := gT_6 14 rfl rfl
theorem ws_X10_withdraws : Cond.selects RX10 yX10_withdraws yX10_withdraws ∈ gT := gT_0 27 rfl rfl
theorem wc_X10_press : Cond.code yX10_press cX10_press 6 (some .int) ∈ gT := gT_6 19 rfl rfl
theorem wi_X10_press : Cond.instanceMethod yX10_press ∈ gT := gT_6 17 rfl rfl
theorem ws_X10_press : Cond.selects RX10 yX10_press yX10_press ∈ gT := gT_6 18 rfl rfl
theorem wc_X10_take : Cond.code yX10_take cX10_take 8 (some .int) ∈ gT := gT_6 23 rfl rfl
theorem wi_X10_take : Cond.instanceMethod yX10_take ∈ gT := gT_6 21 rfl rfl
theorem ws_X10_take : Cond.selects RX10 yX10_take yX10_take ∈ gT := gT_6 22 rfl rfl
theorem wc_X10_leftOf : Cond.code yX10_leftOf cX10_leftOf 4 (some .int) ∈ gT := gT_6 27 rfl rfl
theorem wi_X10_leftOf : Cond.instanceMethod yX10_leftOf ∈ gT := gT_6 26 rfl rfl
theorem ws_X10_leftOf : Cond.selects RX10 yX10_leftOf yX10_leftOf ∈ gT := gT_0 28 rfl rfl
theorem wc_X10_costOf : Cond.code yX10_costOf cX10_costOf 8 (some .int) ∈ gT := gT_6 31 rfl rfl
theorem wi_X10_costOf : Cond.instanceMethod yX10_costOf ∈ gT := gT_6 30 rfl rfl
theorem ws_X10_costOf : Cond.selects RX10 yX10_costOf yX10_costOf ∈ gT := gT_0 29 rfl rfl
theorem wc_X10_canPay : Cond.code yX10_canPay cX10_canPay 3 (some .boolean) ∈ gT := gT_6 35 rfl rfl
theorem wi_X10_canPay : Cond.instanceMethod yX10_canPay ∈ gT := gT_6 34 rfl rfl
theorem ws_X10_canPay : Cond.selects RX10 yX10_canPay yX10_canPay ∈ gT := gT_0 30 rfl rfl
theorem wc_X10_gets : Cond.code yX10_gets cX10_gets 5 none ∈ gT := gT_6 39 rfl rfl
theorem wi_X10_gets : Cond.instanceMethod yX10_gets ∈ gT := gT_6 38 rfl rfl
theorem ws_X10_gets : Cond.selects RX10 yX10_gets yX10_gets ∈ gT := gT_0 31 rfl rfl
theorem wc_X10_firstOf : Cond.code yX10_firstOf cX10_firstOf 4 (some .int) ∈ gT := gT_6 43 rfl rfl
theorem wi_X10_firstOf : Cond.instanceMethod yX10_firstOf ∈ gT := gT_6 42 rfl rfl
theorem ws_X10_firstOf : Cond.selects RX10 yX10_firstOf yX10_firstOf ∈ gT := gT_0 32 rfl rfl
theorem wc_X10_ends : Cond.code yX10_ends cX10_ends 2 none ∈ gT := gT_6 47 rfl rfl
theorem wi_X10_ends : Cond.instanceMethod yX10_ends ∈ gT := gT_6 46 rfl rfl
theorem ws_X10_ends : Cond.selects RX10 yX10_ends yX10_ends ∈ gT := gT_0 33 rfl rfl
theorem wc_X10_pass : Cond.code yX10_pass cX10_pass 3 (some .int) ∈ gT := gT_6 51 rfl rfl
theorem wi_X10_pass : Cond.instanceMethod yX10_pass ∈ gT := gT_6 49 rfl rfl
theorem ws_X10_pass : Cond.selects RX10 yX10_pass yX10_pass ∈ gT := gT_6 50 rfl rfl
theorem wc_X10_passes : Cond.code yX10_passes cX10_passes 3 none ∈ gT := gT_6 55 rfl rfl
theorem wi_X10_passes : Cond.instanceMethod yX10_passes ∈ gT := gT_6 54 rfl rfl
theorem ws_X10_passes : Cond.selects RX10 yX10_passes yX10_passes ∈ gT := gT_0 34 rfl rfl
theorem wc_X10_falls : Cond.code yX10_falls cX10_falls 3 none ∈ gT := gT_6 59 rfl rfl
theorem wi_X10_falls : Cond.instanceMethod yX10_falls ∈ gT := gT_6 58 rfl rfl
theorem ws_X10_falls : Cond.selects RX10 yX10_falls yX10_falls ∈ gT := gT_0 35 rfl rfl
theorem wc_X10_hears : Cond.code yX10_hears cX10_hears 4 (some .boolean) ∈ gT := gT_6 63 rfl rfl
theorem wi_X10_hears : Cond.instanceMethod yX10_hears ∈ gT := gT_6 62 rfl rfl
theorem ws_X10_hears : Cond.selects RX10 yX10_hears yX10_hears ∈ gT := gT_0 36 rfl rfl
theorem wc_X10_slowest : Cond.code yX10_slowest cX10_slowest 3 (some .int) ∈ gT := gT_6 67 rfl rfl
theorem wi_X10_slowest : Cond.instanceMethod yX10_slowest ∈ gT := gT_6 66 rfl rfl
theorem ws_X10_slowest : Cond.selects RX10 yX10_slowest yX10_slowest ∈ gT := gT_0 37 rfl rfl
theorem wc_X10_stands : Cond.code yX10_stands cX10_stands 6 none ∈ gT := gT_6 71 rfl rfl
theorem wi_X10_stands : Cond.instanceMethod yX10_stands ∈ gT := gT_6 70 rfl rfl
theorem ws_X10_stands : Cond.selects RX10 yX10_stands yX10_stands ∈ gT := gT_0 38 rfl rfl
theorem wc_X10_isBefore : Cond.code yX10_isBefore cX10_isBefore 3 (some .boolean) ∈ gT := gT_6 75 rfl rfl
theorem wi_X10_isBefore : Cond.instanceMethod yX10_isBefore ∈ gT := gT_6 74 rfl rfl
theorem ws_X10_isBefore : Cond.selects RX10 yX10_isBefore yX10_isBefore ∈ gT := gT_0 39 rfl rfl
theorem wc_X10_waits : Cond.code yX10_waits cX10_waits 2 none ∈ gT := gT_6 79 rfl rfl
theorem wi_X10_waits : Cond.instanceMethod yX10_waits ∈ gT := gT_6 78 rfl rfl
theorem ws_X10_waits : Cond.selects RX10 yX10_waits yX10_waits ∈ gT := gT_0 40 rfl rfl
theorem wc_X10_leaves : Cond.code yX10_leaves cX10_leaves 4 none ∈ gT := gT_6 83 rfl rfl
theorem wi_X10_leaves : Cond.instanceMethod yX10_leaves ∈ gT := gT_6 82 rfl rfl
theorem ws_X10_leaves : Cond.selects RX10 yX10_leaves yX10_leaves ∈ gT := gT_0 41 rfl rfl
theorem wc_X10_lorry : Cond.code yX10_lorry cX10_lorry 5 (some .int) ∈ gT := gT_6 87 rfl rfl
theorem wi_X10_lorry : Cond.instanceMethod yX10_lorry ∈ gT := gT_6 85 rfl rfl
theorem ws_X10_lorry : Cond.selects RX10 yX10_lorry yX10_lorry ∈ gT := gT_6 86 rfl rfl
theorem wc_X10_pay : Cond.code yX10_pay cX10_pay 4 (some .int) ∈ gT := gT_6 91 rfl rfl
theorem wi_X10_pay : Cond.instanceMethod yX10_pay ∈ gT := gT_6 89 rfl rfl
theorem ws_X10_pay : Cond.selects RX10 yX10_pay yX10_pay ∈ gT := gT_6 90 rfl rfl
theorem wc_X10_areCents : Cond.code yX10_areCents cX10_areCents 1 (some .boolean) ∈ gT := gT_6 94 rfl rfl
theorem wt_X10_areCents : Cond.static yX10_areCents ∈ gT := gT_6 93 rfl rfl
theorem wc_X10_claim : Cond.code yX10_claim cX10_claim 6 (some .int) ∈ gT := gT_6 98 rfl rfl
theorem wi_X10_claim : Cond.instanceMethod yX10_claim ∈ gT := gT_6 96 rfl rfl
theorem ws_X10_claim : Cond.selects RX10 yX10_claim yX10_claim ∈ gT := gT_6 97 rfl rfl
theorem wc_X10_isBox : Cond.code yX10_isBox cX10_isBox 2 (some .boolean) ∈ gT := gT_6 102 rfl rfl
theorem wi_X10_isBox : Cond.instanceMethod yX10_isBox ∈ gT := gT_6 101 rfl rfl
theorem ws_X10_isBox : Cond.selects RX10 yX10_isBox yX10_isBox ∈ gT := gT_0 42 rfl rfl
theorem wc_X10_settle : Cond.code yX10_settle cX10_settle 9 (some .int) ∈ gT := gT_6 106 rfl rfl
theorem wi_X10_settle : Cond.instanceMethod yX10_settle ∈ gT := gT_6 104 rfl rfl
theorem ws_X10_settle : Cond.selects RX10 yX10_settle yX10_settle ∈ gT := gT_6 105 rfl rfl
theorem wc_X10_now : Cond.code yX10_now cX10_now 1 (some .int) ∈ gT := gT_6 113 rfl rfl
theorem wi_X10_now : Cond.instanceMethod yX10_now ∈ gT := gT_6 111 rfl rfl
theorem ws_X10_now : Cond.selects RX10 yX10_now yX10_now ∈ gT := gT_6 112 rfl rfl
theorem wc_X10_day : Cond.code yX10_day cX10_day 1 (some .int) ∈ gT := gT_6 117 rfl rfl
theorem wi_X10_day : Cond.instanceMethod yX10_day ∈ gT := gT_6 115 rfl rfl
theorem ws_X10_day : Cond.selects RX10 yX10_day yX10_day ∈ gT := gT_6 116 rfl rfl
theorem wc_X10_isOpen : Cond.code yX10_isOpen cX10_isOpen 1 (some .boolean) ∈ gT := gT_6 121 rfl rfl
theorem wi_X10_isOpen : Cond.instanceMethod yX10_isOpen ∈ gT := gT_6 119 rfl rfl
theorem ws_X10_isOpen : Cond.selects RX10 yX10_isOpen yX10_isOpen ∈ gT := gT_6 120 rfl rfl
theorem wc_X10_told : Cond.code yX10_told cX10_told 3 (some .int) ∈ gT := gT_6 125 rfl rfl
theorem wi_X10_told : Cond.instanceMethod yX10_told ∈ gT := gT_6 123 rfl rfl
theorem ws_X10_told : Cond.selects RX10 yX10_told yX10_told ∈ gT := gT_6 124 rfl rfl
theorem wc_X10_lot : Cond.code yX10_lot cX10_lot 3 (some .int) ∈ gT := gT_6 129 rfl rfl
theorem wi_X10_lot : Cond.instanceMethod yX10_lot ∈ gT := gT_6 127 rfl rfl
theorem ws_X10_lot : Cond.selects RX10 yX10_lot yX10_lot ∈ gT := gT_6 128 rfl rfl
theorem wc_X10_hall : Cond.code yX10_hall cX10_hall 3 (some .int) ∈ gT := gT_6 133 rfl rfl
theorem wi_X10_hall : Cond.instanceMethod yX10_hall ∈ gT := gT_6 131 rfl rfl
theorem ws_X10_hall : Cond.selects RX10 yX10_hall yX10_hall ∈ gT := gT_6 132 rfl rfl
theorem wc_X10_lotsOf : Cond.code yX10_lotsOf cX10_lotsOf 4 (some .int) ∈ gT := gT_6 137 rfl rfl
theorem wi_X10_lotsOf : Cond.instanceMethod yX10_lotsOf ∈ gT := gT_6 136 rfl rfl
theorem ws_X10_lotsOf : Cond.selects RX10 yX10_lotsOf yX10_lotsOf ∈ gT := gT_0 43 rfl rfl
theorem wc_X10_account : Cond.code yX10_account cX10_account 5 (some .int) ∈ gT := gT_6 141 rfl rfl
theorem wi_X10_account : Cond.instanceMethod yX10_account ∈ gT := gT_6 139 rfl rfl
theorem ws_X10_account : Cond.selects RX10 yX10_account yX10_account ∈ gT := gT_6 140 rfl rfl
theorem wc_X10_ship : Cond.code yX10_ship cX10_ship 5 (some .int) ∈ gT := gT_6 145 rfl rfl
theorem wi_X10_ship : Cond.instanceMethod yX10_ship ∈ gT := gT_6 143 rfl rfl
theorem ws_X10_ship : Cond.selects RX10 yX10_ship yX10_ship ∈ gT := gT_6 144 rfl rfl
theorem wc_X10_kilos : Cond.code yX10_kilos cX10_kilos 4 (some .int) ∈ gT := gT_6 149 rfl rfl
theorem wi_X10_kilos : Cond.instanceMethod yX10_kilos ∈ gT := gT_6 147 rfl rfl
theorem ws_X10_kilos : Cond.selects RX10 yX10_kilos yX10_kilos ∈ gT := gT_6 148 rfl rfl
theorem wc_X10_isOf : Cond.code yX10_isOf cX10_isOf 2 (some .boolean) ∈ gT := gT_6 152 rfl rfl
theorem wt_X10_isOf : Cond.static yX10_isOf ∈ gT := gT_6 151 rfl rfl
theorem wc_X10_kilosAnew : Cond.code yX10_kilosAnew cX10_kilosAnew 2 (some .int) ∈ gT := gT_6 156 rfl rfl
theorem wi_X10_kilosAnew : Cond.instanceMethod yX10_kilosAnew ∈ gT := gT_6 154 rfl rfl
theorem ws_X10_kilosAnew : Cond.selects RX10 yX10_kilosAnew yX10_kilosAnew ∈ gT := gT_6 155 rfl rfl
theorem wc_X10_average : Cond.code yX10_average cX10_average 7 (some .int) ∈ gT := gT_6 161 rfl rfl
theorem wi_X10_average : Cond.instanceMethod yX10_average ∈ gT := gT_6 159 rfl rfl
theorem ws_X10_average : Cond.selects RX10 yX10_average yX10_average ∈ gT := gT_6 160 rfl rfl
theorem wc_X10_loaded : Cond.code yX10_loaded cX10_loaded 2 (some .int) ∈ gT := gT_6 165 rfl rfl
theorem wi_X10_loaded : Cond.instanceMethod yX10_loaded ∈ gT := gT_6 163 rfl rfl
theorem ws_X10_loaded : Cond.selects RX10 yX10_loaded yX10_loaded ∈ gT := gT_6 164 rfl rfl
theorem wn_X0 : Cond.initialized RX0 ∈ gT := gT_1 2 rfl rfl
theorem wn_X1 : Cond.initialized RX1 ∈ gT := gT_1 6 rfl rfl
theorem wn_X2 : Cond.initialized RX2 ∈ gT := gT_1 5 rfl rfl
theorem wn_X3 : Cond.initialized RX3 ∈ gT := gT_1 8 rfl rfl
theorem wn_X4 : Cond.initialized RX4 ∈ gT := gT_1 4 rfl rfl
theorem wn_X5 : Cond.initialized RX5 ∈ gT := gT_1 10 rfl rfl
theorem wn_X6 : Cond.initialized RX6 ∈ gT := gT_1 7 rfl rfl
theorem wn_X7 : Cond.initialized RX7 ∈ gT := gT_1 9 rfl rfl
theorem wn_X8 : Cond.initialized RX8 ∈ gT := gT_1 3 rfl rfl
theorem wn_X9 : Cond.initialized RX9 ∈ gT := gT_1 1 rfl rfl
theorem wn_X10 : Cond.initialized RX10 ∈ gT := gT_1 11 rfl rfl
theorem wn_J9 : Cond.initialized RJ9 ∈ gT := gT_1 18 rfl rfl
theorem wn_L : Cond.initialized RL ∈ gT := gT_1 0 rfl rfl
theorem wt_max : Cond.static Lib.Math.max.name ∈ gT := gT_4 64 rfl rfl
theorem wc_max : Cond.code Lib.Math.max.name Lib.Math.max.code 2 (some .int) ∈ gT := gT_4 65 (by decide +kernel) rfl
theorem wt_min : Cond.static Lib.Math.min.name ∈ gT := gT_4 125 rfl rfl
theorem wc_min : Cond.code Lib.Math.min.name Lib.Math.min.code 2 (some .int) ∈ gT := gT_4 126 (by decide +kernel) rfl
theorem wt_maxl : Cond.static Lib.MathLoose.max_long.x ∈ gT := gT_4 148 rfl rfl
theorem wc_maxl : Cond.code Lib.MathLoose.max_long.x Lib.MathLoose.max_long.code 4 (some .long) ∈ gT := gT_4 149 (by decide +kernel) rfl
end
section
/-! the machine seen from one system of cells whose shape stays: the cells' shapes mt, their contents M, their addresses ad -/
abbrev gq_T : Type := (Nat × List (Option Nat)) ⊕ (Bool × Nat)
abbrev gq_M : Type := Nat → Nat → Int32
def gq_up (M : gq_M) (k j : Nat) (v : Int32) : gq_M := fun a => if a = k then upd (M a) j v else M a
def gq_fd (ad : Nat → Nat) (f : Nat → Int32) : Nat → List (Option Nat) → List Value
  | _, [] => []
  | j, some q :: r => .ref (ad q) :: gq_fd ad f (j + 1) r
  | j, none :: r => .int (f j) :: gq_fd ad f (j + 1) r
def gq_e (cI cZ : ClassId) (ad : Nat → Nat) (f : Nat → Int32) : gq_T → va_E
  | .inl o => .inr (o.1, gq_fd ad f 0 o.2)
  | .inr a => .inl (if a.1 then cZ else cI, a.2, .inl f)
def gq_ws (cI cZ : ClassId) (ad : Nat → Nat) (M : gq_M) : Nat → List gq_T → va_W
  | _, [] => []
  | k, t :: r => (ad k, gq_e cI cZ ad (M k) t) :: gq_ws cI cZ ad M (k + 1) r
theorem gq_ws_at (cI cZ : ClassId) (ad : Nat → Nat) (M : gq_M) : ∀ (mt : List gq_T) (k0 i : Nat), (gq_ws cI cZ ad M k0 mt)[i]? = (mt[i]?).map (fun t => (ad (k0 + i), gq_e cI cZ ad (M (k0 + i)) t))
  | [], _, _ => rfl
  | t :: r, k0, 0 => rfl
  | t :: r, k0, i + 1 => by
    have h := gq_ws_at cI cZ ad M r (k0 + 1) i
    rw [show k0 + 1 + i = k0 + (i + 1) by omega] at h
    show (gq_ws cI cZ ad M (k0 + 1) r)[i]? = (r[i]?).map _
    exact h
theorem gq_ws_get {cI cZ : ClassId} {ad : Nat → Nat} {M : gq_M} {mt : List gq_T} {q : Nat} {t : gq_T} (h : mt[q]? = some t) : (gq_ws cI cZ ad M 0 mt)[q]? = some (ad q, gq_e cI cZ ad (M q) t) := by
  rw [gq_ws_at, h, Nat.zero_add]; rfl
theorem gq_ws_set {cI cZ : ClassId} {ad : Nat → Nat} {M : gq_M} {mt : List gq_T} {q j : Nat} {v : Int32} {t : gq_T} {e : va_E} (h : mt[q]? = some t) (he : e = gq_e cI cZ ad (upd (M q) j v) t) : (gq_ws cI cZ ad M 0 mt).set q (ad q, e) = gq_ws cI cZ ad (gq_up M q j v) 0 mt := by
  apply List.ext_getElem?
  intro i
  rw [List.getElem?_set, gq_ws_at, gq_ws_at]
  by_cases hi : q = i
  · subst hi
    have hl : q < (gq_ws cI cZ ad M 0 mt).length := (List.getElem?_eq_some_iff.mp (gq_ws_get (cI := cI) (cZ := cZ) (ad := ad) (M := M) h)).1
    rw [if_pos rfl, if_pos hl, h, Nat.zero_add, he]
    show _ = some (ad q, gq_e cI cZ ad (gq_up M q j v q) t)
    rw [show gq_up M q j v q = upd (M q) j v from if_pos rfl]
  · rw [if_neg hi]
    cases hm : mt[i]? with
    | none => rfl
    | some t' =>
      show some (ad (0 + i), gq_e cI cZ ad (M (0 + i)) t') = some (ad (0 + i), gq_e cI cZ ad (gq_up M q j v (0 + i)) t')
      rw [show gq_up M q j v (0 + i) = M (0 + i) from if_neg (by omega)]
theorem gq_fd_at (ad : Nat → Nat) (f : Nat → Int32) : ∀ (fd : List (Option Nat)) (j0 i : Nat), (gq_fd ad f j0 fd)[i]? = (fd[i]?).map (fun r => match r with | some q => .ref (ad q) | none => .int (f (j0 + i)))
  | [], _, _ => rfl
  | some q :: r, j0, 0 => rfl
  | none :: r, j0, 0 => rfl
  | some q :: r, j0, i + 1 => by
    have h := gq_fd_at ad f r (j0 + 1) i
    rw [show j0 + 1 + i = j0 + (i + 1) by omega] at h
    exact h
  | none :: r, j0, i + 1 => by
    have h := gq_fd_at ad f r (j0 + 1) i
    rw [show j0 + 1 + i = j0 + (i + 1) by omega] at h
    exact h
theorem gq_fd_int {ad : Nat → Nat} {f : Nat → Int32} {fd : List (Option Nat)} {k : Nat} (h : fd[k]? = some none) : (gq_fd ad f 0 fd)[k]? = some (.int (f k)) := by
  rw [gq_fd_at, h, Nat.zero_add]; rfl
theorem gq_fd_ref {ad : Nat → Nat} {f : Nat → Int32} {fd : List (Option Nat)} {k q : Nat} (h : fd[k]? = some (some q)) : (gq_fd ad f 0 fd)[k]? = some (.ref (ad q)) := by
  rw [gq_fd_at, h]; rfl
theorem gq_fd_set {ad : Nat → Nat} {f : Nat → Int32} {fd : List (Option Nat)} {k : Nat} {v : Int32} (h : fd[k]? = some none) : (gq_fd ad f 0 fd).set k (.int v) = gq_fd ad (upd f k v) 0 fd := by
  apply List.ext_getElem?
  intro i
  rw [List.getElem?_set, gq_fd_at, gq_fd_at]
  by_cases hi : k = i
  · subst hi
    have hl : k < (gq_fd ad f 0 fd).length := (List.getElem?_eq_some_iff.mp (gq_fd_int (ad := ad) (f := f) h)).1
    rw [if_pos rfl, if_pos hl, h, Nat.zero_add]
    show _ = some (Value.int (upd f k v k))
    rw [show upd f k v k = v from if_pos rfl]
  · rw [if_neg hi]
    cases hm : fd[i]? with
    | none => rfl
    | some r =>
      cases r with
      | some q => rfl
      | none =>
        show some (Value.int (f (0 + i))) = some (.int (upd f k v (0 + i)))
        rw [show upd f k v (0 + i) = f (0 + i) from if_neg (by omega)]
def gq_K (D : va_G) (cI cZ : ClassId) (U : State) : Prop := va_K D vwCl [(cI, .int), (cZ, .boolean)] U
/-- the addresses are apart, and free to be written -/
def gq_DD (A : Nat → Prop) (ad : Nat → Nat) (n : Nat) : Prop := (∀ i j : Nat, i < n → j < n → ad i = ad j → i = j) ∧ ∀ k, k < n → A (ad k)
theorem gq_D {A : Nat → Prop} {ad : Nat → Nat} {mt : List gq_T} {cI cZ : ClassId} {M : gq_M} (h : gq_DD A ad mt.length) : va_D A (gq_ws cI cZ ad M 0 mt) := by
  have key : ∀ (i : Nat) (p : Nat × va_E), (gq_ws cI cZ ad M 0 mt)[i]? = some p → i < mt.length ∧ p.1 = ad i := by
    intro i p hp
    rw [gq_ws_at] at hp
    cases hm : mt[i]? with
    | none => rw [hm] at hp; cases hp
    | some t =>
      rw [hm] at hp
      cases hp
      exact ⟨(List.getElem?_eq_some_iff.mp hm).1, by rw [Nat.zero_add]⟩
  refine ⟨fun i j x y hx hy hxy => ?_, fun k x hx => ?_⟩
  · obtain ⟨h1, h2⟩ := key i x hx
    obtain ⟨h3, h4⟩ := key j y hy
    exact h.1 i j h1 h3 (by rw [← h2, ← h4]; exact hxy)
  · obtain ⟨h1, h2⟩ := key k x hx
    rw [h2]; exact h.2 k h1
/-- a field that a method's own pool names: class ci's field k -/
def gq_F (own : String) (index ci k : Nat) : Prop := ∃ (C : String) (T : u_T) (N : Nat), vwCl[ci]? = some (C, T, N) ∧ k < N ∧ (∀ w ∈ u_ws C T N, w ∈ gT) ∧ Cond.fieldLink own index (T k).1 (T k).2.1 (T k).2.2.1 ∈ gT
/-- .. that may be written: its type -/
def gq_G (own : String) (index ci k : Nat) (ty : FieldType) : Prop := ∃ (C : String) (T : u_T) (N : Nat) (ty0 : Nat → FieldType), vwCl[ci]? = some (C, T, N) ∧ k < N ∧ (∀ w ∈ u_ws C T N, w ∈ gT) ∧ Cond.fieldLink own index (T k).1 (T k).2.1 (T k).2.2.1 ∈ gT ∧
  (∀ k, k < N → parseFieldDescriptor (T k).2.2.1 = some (ty0 k)) ∧ (∀ a, a < N → ∀ b, b < N → a ≠ b → (T a).2.1 ≠ (T b).2.1) ∧ (T k).2.2.2 = false ∧ parseFieldDescriptor (T k).2.2.1 = some ty
def gq_bit (v : Int32) : Prop := v = 0 ∨ v = 1
theorem gq_bit0 : gq_bit 0 := Or.inl rfl
theorem gq_bit1 : gq_bit 1 := Or.inr rfl
theorem gq_bitN {v : Int32} (h : gq_bit v) : narrow .boolean (.int v) = .int v ∧ fits .boolean (.int v) = true ∧ vp_nar .boolean v = v := by
  rcases h with rfl | rfl <;> exact ⟨rfl, by decide, rfl⟩
def gq_lk (mt : List gq_T) (q ci k : Nat) (r : Option Nat) : Prop := ∃ fd : List (Option Nat), mt[q]? = some (.inl (ci, fd)) ∧ fd[k]? = some r
section GQ
variable {p : Program} {l : Launch} {e : Env} {R : Room} {s : State} {m : MethodId} {args : Array Value} {below : List Frame} {meth : Method} {c : Code} {Q : State → Prop}
variable {D : va_G} {A : Nat → Prop} {cI cZ : ClassId} {ad : Nat → Nat} {mt : List gq_T} {own : String} {cc : ByteArray} {nL : Nat}
variable {pc : Nat} {L : List (Nat × Value)} {st : List Value} {M : gq_M} {kc ks : Nat}
def gq_W (p : Program) (l : Launch) (e : Env) (R : Room) (s : State) (m : MethodId) (args : Array Value) (below : List Frame) (meth : Method) (c : Code) (D : va_G) (A : Nat → Prop) (cI cZ : ClassId) (ad : Nat → Nat) (mt : List gq_T) (nL : Nat) (Q : State → Prop) (pc : Nat) (L : List (Nat × Value)) (st : List Value) (M : gq_M) (kc ks : Nat) : Prop :=
  ∀ (H : Heap) (locs : List Loc) (ls : Array Slot), va_P D vwCl (gq_ws cI cZ ad M 0 mt) H → va_S A s.heap H locs → lv_has ls nL L → W p l e R s m args below meth c H locs kc ks Q (F0 m pc ls st)
def gq_C (p : Program) (s : State) (m : MethodId) (args : Array Value) (meth : Method) (c : Code) (D : va_G) (A : Nat → Prop) (cI cZ : ClassId) (ad : Nat → Nat) (mt : List gq_T) (own : String) (cc : ByteArray) (nL : Nat) : Prop :=
  p.tables.exec = Jvm.exec ∧ c.code = cc ∧ c.maxLocals = nL ∧ s.vm.findClass own = some m.cls ∧ (∀ w ∈ gT, w.before args s = true) ∧ gq_K D cI cZ s ∧ meth.locks = false ∧ (∀ q, s.heap.size ≤ q → A q) ∧ gq_DD A ad mt.length

theorem g_iload_n (hC : gq_C p s m args meth c D A cI cZ ad mt own cc nL) {k : Fin 4} {i : Nat} {x : Int32} (j : Nat) (hi : (k : Nat) = i) (hk : L[j]? = some (i, .int x)) (d : decode cc pc = .ok (.iload_n k, 1)) (kk : gq_W p l e R s m args below meth c D A cI cZ ad mt nL Q (pc + 1) L (.int x :: st) M kc ks) : gq_W p l e R s m args below meth c D A cI cZ ad mt nL Q pc L st M kc ks := fun H locs ls hP hS hl => lv_iload_n hC.1 hC.2.1 d hi (lv_at hl j hk) (kk H locs ls hP hS hl)
theorem g_iload (hC : gq_C p s m args meth c D A cI cZ ad mt own cc nL) {i : Nat} {x : Int32} (j : Nat) (hk : L[j]? = some (i, .int x)) (d : decode cc pc = .ok (.iload i, 2)) (kk : gq_W p l e R s m args below meth c D A cI cZ ad mt nL Q (pc + 2) L (.int x :: st) M kc ks) : gq_W p l e R s m args below meth c D A cI cZ ad mt nL Q pc L st M kc ks := fun H locs ls hP hS hl => lv_iload hC.1 hC.2.1 d  (lv_at hl j hk) (kk H locs ls hP hS hl)
theorem g_lload_n (hC : gq_C p s m args meth c D A cI cZ ad mt own cc nL) {k : Fin 4} {i : Nat} {x : Int64} (j : Nat) (hi : (k : Nat) = i) (hk : L[j]? = some (i, .long x)) (d : decode cc pc = .ok (.lload_n k, 1)) (kk : gq_W p l e R s m args below meth c D A cI cZ ad mt nL Q (pc + 1) L (.long x :: st) M kc ks) : gq_W p l e R s m args below meth c D A cI cZ ad mt nL Q pc L st M kc ks := fun H locs ls hP hS hl => lv_lload_n hC.1 hC.2.1 d hi (lv_at hl j hk) (kk H locs ls hP hS hl)
theorem g_lload (hC : gq_C p s m args meth c D A cI cZ ad mt own cc nL) {i : Nat} {x : Int64} (j : Nat) (hk : L[j]? = some (i, .long x)) (d : decode cc pc = .ok (.lload i, 2)) (kk : gq_W p l e R s m args below meth c D A cI cZ ad mt nL Q (pc + 2) L (.long x :: st) M kc ks) : gq_W p l e R s m args below meth c D A cI cZ ad mt nL Q pc L st M kc ks := fun H locs ls hP hS hl => lv_lload hC.1 hC.2.1 d  (lv_at hl j hk) (kk H locs ls hP hS hl)
theorem g_aload_n (hC : gq_C p s m args meth c D A cI cZ ad mt own cc nL) {k : Fin 4} {i x : Nat} (j : Nat) (hi : (k : Nat) = i) (hk : L[j]? = some (i, .ref x)) (d : decode cc pc = .ok (.aload_n k, 1)) (kk : gq_W p l e R s m args below meth c D A cI cZ ad mt nL Q (pc + 1) L (.ref x :: st) M kc ks) : gq_W p l e R s m args below meth c D A cI cZ ad mt nL Q pc L st M kc ks := fun H locs ls hP hS hl => lv_aload_n hC.1 hC.2.1 d hi (lv_at hl j hk) (kk H locs ls hP hS hl)
theorem g_aload (hC : gq_C p s m args meth c D A cI cZ ad mt own cc nL) {i x : Nat} (j : Nat) (hk : L[j]? = some (i, .ref x)) (d : decode cc pc = .ok (.aload i, 2)) (kk : gq_W p l e R s m args below meth c D A cI cZ ad mt nL Q (pc + 2) L (.ref x :: st) M kc ks) : gq_W p l e R s m args below meth c D A cI cZ ad mt nL Q pc L st M kc ks := fun H locs ls hP hS hl => lv_aload hC.1 hC.2.1 d (lv_at hl j hk) (kk H locs ls hP hS hl)
theorem g_istore_n (hC : gq_C p s m args meth c D A cI cZ ad mt own cc nL) {k : Fin 4} {i : Nat} {x : Int32} {L2 : List (Nat × Value)} (hi : (k : Nat) = i) (hn : i < nL) (hl2 : (i, Value.int x) :: L.filter (fun q => !(q.1 == i) && !(q.1 + 1 == i && q.2.category == 2)) = L2) (d : decode cc pc = .ok (.istore_n k, 1)) (kk : gq_W p l e R s m args below meth c D A cI cZ ad mt nL Q (pc + 1) L2 st M kc ks) : gq_W p l e R s m args below meth c D A cI cZ ad mt nL Q pc L (.int x :: st) M kc ks := fun H locs ls hP hS hl => lv_istore_n hC.1 hC.2.1 d hi hl hn hl2 (fun ls hl => (kk H locs ls hP hS hl))
theorem g_istore (hC : gq_C p s m args meth c D A cI cZ ad mt own cc nL) {i : Nat} {x : Int32} {L2 : List (Nat × Value)} (hn : i < nL) (hl2 : (i, Value.int x) :: L.filter (fun q => !(q.1 == i) && !(q.1 + 1 == i && q.2.category == 2)) = L2) (d : decode cc pc = .ok (.istore i, 2)) (kk : gq_W p l e R s m args below meth c D A cI cZ ad mt nL Q (pc + 2) L2 st M kc ks) : gq_W p l e R s m args below meth c D A cI cZ ad mt nL Q pc L (.int x :: st) M kc ks := fun H locs ls hP hS hl => lv_istore hC.1 hC.2.1 d hl hn hl2 (fun ls hl => (kk H locs ls hP hS hl))
theorem g_astore_n (hC : gq_C p s m args meth c D A cI cZ ad mt own cc nL) {k : Fin 4} {i : Nat} {x : Nat} {L2 : List (Nat × Value)} (hi : (k : Nat) = i) (hn : i < nL) (hl2 : (i, Value.ref x) :: L.filter (fun q => !(q.1 == i) && !(q.1 + 1 == i && q.2.category == 2)) = L2) (d : decode cc pc = .ok (.astore_n k, 1)) (kk : gq_W p l e R s m args below meth c D A cI cZ ad mt nL Q (pc + 1) L2 st M kc ks) : gq_W p l e R s m args below meth c D A cI cZ ad mt nL Q pc L (.ref x :: st) M kc ks := fun H locs ls hP hS hl => lv_astore_n hC.1 hC.2.1 d hi hl hn hl2 (fun ls hl => (kk H locs ls hP hS hl))
theorem g_astore (hC : gq_C p s m args meth c D A cI cZ ad mt own cc nL) {i : Nat} {x : Nat} {L2 : List (Nat × Value)} (hn : i < nL) (hl2 : (i, Value.ref x) :: L.filter (fun q => !(q.1 == i) && !(q.1 + 1 == i && q.2.category == 2)) = L2) (d : decode cc pc = .ok (.astore i, 2)) (kk : gq_W p l e R s m args below meth c D A cI cZ ad mt nL Q (pc + 2) L2 st M kc ks) : gq_W p l e R s m args below meth c D A cI cZ ad mt nL Q pc L (.ref x :: st) M kc ks := fun H locs ls hP hS hl => lv_astore hC.1 hC.2.1 d hl hn hl2 (fun ls hl => (kk H locs ls hP hS hl))
theorem g_lstore (hC : gq_C p s m args meth c D A cI cZ ad mt own cc nL) {i : Nat} {x : Int64} {L2 : List (Nat × Value)} (hn : i + 1 < nL) (hl2 : (i, Value.long x) :: L.filter (fun q => !(q.1 == i) && (!(q.1 == i + 1) && !(q.1 + 1 == i && q.2.category == 2))) = L2) (d : decode cc pc = .ok (.lstore i, 2)) (kk : gq_W p l e R s m args below meth c D A cI cZ ad mt nL Q (pc + 2) L2 st M kc ks) : gq_W p l e R s m args below meth c D A cI cZ ad mt nL Q pc L (.long x :: st) M kc ks := fun H locs ls hP hS hl => lv_lstore hC.1 hC.2.1 d hl hn hl2 (fun ls hl => (kk H locs ls hP hS hl))
theorem g_iinc (hC : gq_C p s m args meth c D A cI cZ ad mt own cc nL) {i : Nat} {n : Int} {x v : Int32} {L2 : List (Nat × Value)} (j : Nat) (hk : L[j]? = some (i, .int x)) (hv : x + Int32.ofInt n = v) (hn : i < nL) (hl2 : (i, Value.int v) :: L.filter (fun q => !(q.1 == i) && !(q.1 + 1 == i && q.2.category == 2)) = L2) (d : decode cc pc = .ok (.iinc i n, 3)) (kk : gq_W p l e R s m args below meth c D A cI cZ ad mt nL Q (pc + 3) L2 st M kc ks) : gq_W p l e R s m args below meth c D A cI cZ ad mt nL Q pc L st M kc ks := fun H locs ls hP hS hl => lv_iinc hC.1 hC.2.1 d hl hk hv hn hl2 (fun ls hl => (kk H locs ls hP hS hl))
theorem g_iconst (hC : gq_C p s m args meth c D A cI cZ ad mt own cc nL) {n : Int} {v : Int32} (hv : Int32.ofInt n = v) (d : decode cc pc = .ok (.iconst n, 1)) (kk : gq_W p l e R s m args below meth c D A cI cZ ad mt nL Q (pc + 1) L (.int v :: st) M kc ks) : gq_W p l e R s m args below meth c D A cI cZ ad mt nL Q pc L st M kc ks := fun H locs ls hP hS hl => lv_iconst hC.1 hC.2.1 d hv (kk H locs ls hP hS hl)
theorem g_bipush (hC : gq_C p s m args meth c D A cI cZ ad mt own cc nL) {n : Int} {v : Int32} (hv : (Int8.ofInt n).toInt32 = v) (d : decode cc pc = .ok (.bipush n, 2)) (kk : gq_W p l e R s m args below meth c D A cI cZ ad mt nL Q (pc + 2) L (.int v :: st) M kc ks) : gq_W p l e R s m args below meth c D A cI cZ ad mt nL Q pc L st M kc ks := fun H locs ls hP hS hl => lv_bipush hC.1 hC.2.1 d hv (kk H locs ls hP hS hl)
theorem g_sipush (hC : gq_C p s m args meth c D A cI cZ ad mt own cc nL) {n : Int} {v : Int32} (hv : (Int16.ofInt n).toInt32 = v) (d : decode cc pc = .ok (.sipush n, 3)) (kk : gq_W p l e R s m args below meth c D A cI cZ ad mt nL Q (pc + 3) L (.int v :: st) M kc ks) : gq_W p l e R s m args below meth c D A cI cZ ad mt nL Q pc L st M kc ks := fun H locs ls hP hS hl => lv_sipush hC.1 hC.2.1 d hv (kk H locs ls hP hS hl)
theorem g_lconst (hC : gq_C p s m args meth c D A cI cZ ad mt own cc nL) {n : Fin 2} {v : Int64} (hv : Int64.ofNat (n : Nat) = v) (d : decode cc pc = .ok (.lconst n, 1)) (kk : gq_W p l e R s m args below meth c D A cI cZ ad mt nL Q (pc + 1) L (.long v :: st) M kc ks) : gq_W p l e R s m args below meth c D A cI cZ ad mt nL Q pc L st M kc ks := fun H locs ls hP hS hl => lv_lconst hC.1 hC.2.1 d hv (kk H locs ls hP hS hl)
theorem g_ldc (hC : gq_C p s m args meth c D A cI cZ ad mt own cc nL) {i : Nat} {v : Int32} (hw : Cond.constant own i v ∈ gT) (d : decode cc pc = .ok (.ldc i, 2)) (kk : gq_W p l e R s m args below meth c D A cI cZ ad mt nL Q (pc + 2) L (.int v :: st) M kc ks) : gq_W p l e R s m args below meth c D A cI cZ ad mt nL Q pc L st M kc ks := fun H locs ls hP hS hl => lv_ldc hC.1 hC.2.1 hC.2.2.2.1 (hC.2.2.2.2.1 _ hw) d (kk H locs ls hP hS hl)
theorem g_ldcw (hC : gq_C p s m args meth c D A cI cZ ad mt own cc nL) {i : Nat} {v : Int32} (hw : Cond.constant own i v ∈ gT) (d : decode cc pc = .ok (.ldc_w i, 3)) (kk : gq_W p l e R s m args below meth c D A cI cZ ad mt nL Q (pc + 3) L (.int v :: st) M kc ks) : gq_W p l e R s m args below meth c D A cI cZ ad mt nL Q pc L st M kc ks := fun H locs ls hP hS hl => lv_ldcw hC.1 hC.2.1 hC.2.2.2.1 (hC.2.2.2.2.1 _ hw) d (kk H locs ls hP hS hl)
theorem g_ldc2 (hC : gq_C p s m args meth c D A cI cZ ad mt own cc nL) {i : Nat} {v : Int64} (hw : Cond.constantLong own i v ∈ gT) (d : decode cc pc = .ok (.ldc2_w i, 3)) (kk : gq_W p l e R s m args below meth c D A cI cZ ad mt nL Q (pc + 3) L (.long v :: st) M kc ks) : gq_W p l e R s m args below meth c D A cI cZ ad mt nL Q pc L st M kc ks := fun H locs ls hP hS hl => lv_ldc2 hC.1 hC.2.1 hC.2.2.2.1 (hC.2.2.2.2.1 _ hw) d (kk H locs ls hP hS hl)
theorem g_iadd (hC : gq_C p s m args meth c D A cI cZ ad mt own cc nL) {x y : Int32}  (d : decode cc pc = .ok (.iadd, 1)) (kk : gq_W p l e R s m args below meth c D A cI cZ ad mt nL Q (pc + 1) L (.int (x + y) :: st) M kc ks) : gq_W p l e R s m args below meth c D A cI cZ ad mt nL Q pc L (.int y :: .int x :: st) M kc ks := fun H locs ls hP hS hl => lv_iadd hC.1 hC.2.1 d (kk H locs ls hP hS hl)
theorem g_isub (hC : gq_C p s m args meth c D A cI cZ ad mt own cc nL) {x y : Int32}  (d : decode cc pc = .ok (.isub, 1)) (kk : gq_W p l e R s m args below meth c D A cI cZ ad mt nL Q (pc + 1) L (.int (x - y) :: st) M kc ks) : gq_W p l e R s m args below meth c D A cI cZ ad mt nL Q pc L (.int y :: .int x :: st) M kc ks := fun H locs ls hP hS hl => lv_isub hC.1 hC.2.1 d (kk H locs ls hP hS hl)
theorem g_imul (hC : gq_C p s m args meth c D A cI cZ ad mt own cc nL) {x y : Int32}  (d : decode cc pc = .ok (.imul, 1)) (kk : gq_W p l e R s m args below meth c D A cI cZ ad mt nL Q (pc + 1) L (.int (x * y) :: st) M kc ks) : gq_W p l e R s m args below meth c D A cI cZ ad mt nL Q pc L (.int y :: .int x :: st) M kc ks := fun H locs ls hP hS hl => lv_imul hC.1 hC.2.1 d (kk H locs ls hP hS hl)
theorem g_iand (hC : gq_C p s m args meth c D A cI cZ ad mt own cc nL) {x y : Int32}  (d : decode cc pc = .ok (.iand, 1)) (kk : gq_W p l e R s m args below meth c D A cI cZ ad mt nL Q (pc + 1) L (.int (x &&& y) :: st) M kc ks) : gq_W p l e R s m args below meth c D A cI cZ ad mt nL Q pc L (.int y :: .int x :: st) M kc ks := fun H locs ls hP hS hl => lv_iand hC.1 hC.2.1 d (kk H locs ls hP hS hl)
theorem g_ior (hC : gq_C p s m args meth c D A cI cZ ad mt own cc nL) {x y : Int32}  (d : decode cc pc = .ok (.ior, 1)) (kk : gq_W p l e R s m args below meth c D A cI cZ ad mt nL Q (pc + 1) L (.int (x ||| y) :: st) M kc ks) : gq_W p l e R s m args below meth c D A cI cZ ad mt nL Q pc L (.int y :: .int x :: st) M kc ks := fun H locs ls hP hS hl => lv_ior hC.1 hC.2.1 d (kk H locs ls hP hS hl)
theorem g_ixor (hC : gq_C p s m args meth c D A cI cZ ad mt own cc nL) {x y : Int32}  (d : decode cc pc = .ok (.ixor, 1)) (kk : gq_W p l e R s m args below meth c D A cI cZ ad mt nL Q (pc + 1) L (.int (x ^^^ y) :: st) M kc ks) : gq_W p l e R s m args below meth c D A cI cZ ad mt nL Q pc L (.int y :: .int x :: st) M kc ks := fun H locs ls hP hS hl => lv_ixor hC.1 hC.2.1 d (kk H locs ls hP hS hl)
theorem g_ishl (hC : gq_C p s m args meth c D A cI cZ ad mt own cc nL) {x y : Int32}  (d : decode cc pc = .ok (.ishl, 1)) (kk : gq_W p l e R s m args below meth c D A cI cZ ad mt nL Q (pc + 1) L (.int (x <<< (y &&& 31)) :: st) M kc ks) : gq_W p l e R s m args below meth c D A cI cZ ad mt nL Q pc L (.int y :: .int x :: st) M kc ks := fun H locs ls hP hS hl => lv_ishl hC.1 hC.2.1 d (kk H locs ls hP hS hl)
theorem g_ishr (hC : gq_C p s m args meth c D A cI cZ ad mt own cc nL) {x y : Int32}  (d : decode cc pc = .ok (.ishr, 1)) (kk : gq_W p l e R s m args below meth c D A cI cZ ad mt nL Q (pc + 1) L (.int (x >>> (y &&& 31)) :: st) M kc ks) : gq_W p l e R s m args below meth c D A cI cZ ad mt nL Q pc L (.int y :: .int x :: st) M kc ks := fun H locs ls hP hS hl => lv_ishr hC.1 hC.2.1 d (kk H locs ls hP hS hl)
theorem g_iushr (hC : gq_C p s m args meth c D A cI cZ ad mt own cc nL) {x y : Int32}  (d : decode cc pc = .ok (.iushr, 1)) (kk : gq_W p l e R s m args below meth c D A cI cZ ad mt nL Q (pc + 1) L (.int ((x.toUInt32 >>> (y.toUInt32 &&& Int32.toUInt32 31)).toInt32) :: st) M kc ks) : gq_W p l e R s m args below meth c D A cI cZ ad mt nL Q pc L (.int y :: .int x :: st) M kc ks := fun H locs ls hP hS hl => lv_iushr hC.1 hC.2.1 d rfl (kk H locs ls hP hS hl)
theorem g_idiv (hC : gq_C p s m args meth c D A cI cZ ad mt own cc nL) {x y : Int32} (hne : ¬ y = 0) (d : decode cc pc = .ok (.idiv, 1)) (kk : gq_W p l e R s m args below meth c D A cI cZ ad mt nL Q (pc + 1) L (.int (x / y) :: st) M kc ks) : gq_W p l e R s m args below meth c D A cI cZ ad mt nL Q pc L (.int y :: .int x :: st) M kc ks := fun H locs ls hP hS hl => lv_idiv hC.1 hC.2.1 d hne (kk H locs ls hP hS hl)
theorem g_irem (hC : gq_C p s m args meth c D A cI cZ ad mt own cc nL) {x y : Int32} (hne : ¬ y = 0) (d : decode cc pc = .ok (.irem, 1)) (kk : gq_W p l e R s m args below meth c D A cI cZ ad mt nL Q (pc + 1) L (.int (x - x / y * y) :: st) M kc ks) : gq_W p l e R s m args below meth c D A cI cZ ad mt nL Q pc L (.int y :: .int x :: st) M kc ks := fun H locs ls hP hS hl => lv_irem hC.1 hC.2.1 d hne (kk H locs ls hP hS hl)
theorem g_ineg (hC : gq_C p s m args meth c D A cI cZ ad mt own cc nL) {x : Int32}  (d : decode cc pc = .ok (.ineg, 1)) (kk : gq_W p l e R s m args below meth c D A cI cZ ad mt nL Q (pc + 1) L (.int (-x) :: st) M kc ks) : gq_W p l e R s m args below meth c D A cI cZ ad mt nL Q pc L (.int x :: st) M kc ks := fun H locs ls hP hS hl => lv_ineg hC.1 hC.2.1 d (kk H locs ls hP hS hl)
theorem g_i2l (hC : gq_C p s m args meth c D A cI cZ ad mt own cc nL) {x : Int32}  (d : decode cc pc = .ok (.i2l, 1)) (kk : gq_W p l e R s m args below meth c D A cI cZ ad mt nL Q (pc + 1) L (.long x.toInt64 :: st) M kc ks) : gq_W p l e R s m args below meth c D A cI cZ ad mt nL Q pc L (.int x :: st) M kc ks := fun H locs ls hP hS hl => lv_i2l hC.1 hC.2.1 d rfl (kk H locs ls hP hS hl)
theorem g_l2i (hC : gq_C p s m args meth c D A cI cZ ad mt own cc nL) {x : Int64}  (d : decode cc pc = .ok (.l2i, 1)) (kk : gq_W p l e R s m args below meth c D A cI cZ ad mt nL Q (pc + 1) L (.int x.toInt32 :: st) M kc ks) : gq_W p l e R s m args below meth c D A cI cZ ad mt nL Q pc L (.long x :: st) M kc ks := fun H locs ls hP hS hl => lv_l2i hC.1 hC.2.1 d rfl (kk H locs ls hP hS hl)
theorem g_lmul (hC : gq_C p s m args meth c D A cI cZ ad mt own cc nL) {x y : Int64}  (d : decode cc pc = .ok (.lmul, 1)) (kk : gq_W p l e R s m args below meth c D A cI cZ ad mt nL Q (pc + 1) L (.long (x * y) :: st) M kc ks) : gq_W p l e R s m args below meth c D A cI cZ ad mt nL Q pc L (.long y :: .long x :: st) M kc ks := fun H locs ls hP hS hl => lv_lmul hC.1 hC.2.1 d (kk H locs ls hP hS hl)
theorem g_lsub (hC : gq_C p s m args meth c D A cI cZ ad mt own cc nL) {x y : Int64}  (d : decode cc pc = .ok (.lsub, 1)) (kk : gq_W p l e R s m args below meth c D A cI cZ ad mt nL Q (pc + 1) L (.long (x - y) :: st) M kc ks) : gq_W p l e R s m args below meth c D A cI cZ ad mt nL Q pc L (.long y :: .long x :: st) M kc ks := fun H locs ls hP hS hl => lv_lsub hC.1 hC.2.1 d (kk H locs ls hP hS hl)
theorem g_ldiv (hC : gq_C p s m args meth c D A cI cZ ad mt own cc nL) {x y : Int64} (hne : ¬ y = 0) (d : decode cc pc = .ok (.ldiv, 1)) (kk : gq_W p l e R s m args below meth c D A cI cZ ad mt nL Q (pc + 1) L (.long (x / y) :: st) M kc ks) : gq_W p l e R s m args below meth c D A cI cZ ad mt nL Q pc L (.long y :: .long x :: st) M kc ks := fun H locs ls hP hS hl => lv_ldiv hC.1 hC.2.1 d hne (kk H locs ls hP hS hl)
theorem g_lcmp (hC : gq_C p s m args meth c D A cI cZ ad mt own cc nL) {x y : Int64}  (d : decode cc pc = .ok (.lcmp, 1)) (kk : gq_W p l e R s m args below meth c D A cI cZ ad mt nL Q (pc + 1) L (.int (lg_cmp x y) :: st) M kc ks) : gq_W p l e R s m args below meth c D A cI cZ ad mt nL Q pc L (.long y :: .long x :: st) M kc ks := fun H locs ls hP hS hl => W.lcmp hC.1 hC.2.1 d (kk H locs ls hP hS hl)
theorem g_dup (hC : gq_C p s m args meth c D A cI cZ ad mt own cc nL) {v : Value} (hv : v.category = 1) (d : decode cc pc = .ok (.dup, 1)) (kk : gq_W p l e R s m args below meth c D A cI cZ ad mt nL Q (pc + 1) L (v :: v :: st) M kc ks) : gq_W p l e R s m args below meth c D A cI cZ ad mt nL Q pc L (v :: st) M kc ks := fun H locs ls hP hS hl => lv_dup hC.1 hC.2.1 d hv (kk H locs ls hP hS hl)
theorem g_pop (hC : gq_C p s m args meth c D A cI cZ ad mt own cc nL) {v : Value} (hv : v.category = 1) (d : decode cc pc = .ok (.pop, 1)) (kk : gq_W p l e R s m args below meth c D A cI cZ ad mt nL Q (pc + 1) L st M kc ks) : gq_W p l e R s m args below meth c D A cI cZ ad mt nL Q pc L (v :: st) M kc ks := fun H locs ls hP hS hl => lv_pop hC.1 hC.2.1 d hv (kk H locs ls hP hS hl)
theorem g_dup2 (hC : gq_C p s m args meth c D A cI cZ ad mt own cc nL) {v w : Value} (hv : v.category = 1) (hw : w.category = 1) (d : decode cc pc = .ok (.dup2, 1)) (kk : gq_W p l e R s m args below meth c D A cI cZ ad mt nL Q (pc + 1) L (v :: w :: v :: w :: st) M kc ks) : gq_W p l e R s m args below meth c D A cI cZ ad mt nL Q pc L (v :: w :: st) M kc ks := fun H locs ls hP hS hl => lv_dup2_11 hC.1 hC.2.1 d hv hw (kk H locs ls hP hS hl)
theorem g_goto (hC : gq_C p s m args meth c D A cI cZ ad mt own cc nL) {off : Int} {tgt : Nat} (ht : (pc : Int) + off = (tgt : Int)) (d : decode cc pc = .ok (.goto off, 3)) (kk : gq_W p l e R s m args below meth c D A cI cZ ad mt nL Q tgt L st M kc ks) : gq_W p l e R s m args below meth c D A cI cZ ad mt nL Q pc L st M kc ks := fun H locs ls hP hS hl => lv_goto hC.1 hC.2.1 d ht (kk H locs ls hP hS hl)
theorem g_icmp_eq (hC : gq_C p s m args meth c D A cI cZ ad mt own cc nL) {x y : Int32} {off : Int} {tgt : Nat} (ht : (pc : Int) + off = (tgt : Int)) (d : decode cc pc = .ok (.if_icmp .eq off, 3)) (kt : x = y → gq_W p l e R s m args below meth c D A cI cZ ad mt nL Q tgt L st M kc ks) (kf : ¬ x = y → gq_W p l e R s m args below meth c D A cI cZ ad mt nL Q (pc + 3) L st M kc ks) : gq_W p l e R s m args below meth c D A cI cZ ad mt nL Q pc L (.int y :: .int x :: st) M kc ks := fun H locs ls hP hS hl => lv_icmp_eq hC.1 hC.2.1 d ht (fun q => kt q H locs ls hP hS hl) (fun q => kf q H locs ls hP hS hl)
theorem g_if_eq (hC : gq_C p s m args meth c D A cI cZ ad mt own cc nL) {x : Int32} {off : Int} {tgt : Nat} (ht : (pc : Int) + off = (tgt : Int)) (d : decode cc pc = .ok (.ifCond .eq off, 3)) (kt : x = 0 → gq_W p l e R s m args below meth c D A cI cZ ad mt nL Q tgt L st M kc ks) (kf : ¬ x = 0 → gq_W p l e R s m args below meth c D A cI cZ ad mt nL Q (pc + 3) L st M kc ks) : gq_W p l e R s m args below meth c D A cI cZ ad mt nL Q pc L (.int x :: st) M kc ks := fun H locs ls hP hS hl => lv_if_eq hC.1 hC.2.1 d ht (fun q => kt q H locs ls hP hS hl) (fun q => kf q H locs ls hP hS hl)
theorem g_icmp_ne (hC : gq_C p s m args meth c D A cI cZ ad mt own cc nL) {x y : Int32} {off : Int} {tgt : Nat} (ht : (pc : Int) + off = (tgt : Int)) (d : decode cc pc = .ok (.if_icmp .ne off, 3)) (kt : ¬ x = y → gq_W p l e R s m args below meth c D A cI cZ ad mt nL Q tgt L st M kc ks) (kf : x = y → gq_W p l e R s m args below meth c D A cI cZ ad mt nL Q (pc + 3) L st M kc ks) : gq_W p l e R s m args below meth c D A cI cZ ad mt nL Q pc L (.int y :: .int x :: st) M kc ks := fun H locs ls hP hS hl => lv_icmp_ne hC.1 hC.2.1 d ht (fun q => kt q H locs ls hP hS hl) (fun q => kf q H locs ls hP hS hl)
theorem g_if_ne (hC : gq_C p s m args meth c D A cI cZ ad mt own cc nL) {x : Int32} {off : Int} {tgt : Nat} (ht : (pc : Int) + off = (tgt : Int)) (d : decode cc pc = .ok (.ifCond .ne off, 3)) (kt : ¬ x = 0 → gq_W p l e R s m args below meth c D A cI cZ ad mt nL Q tgt L st M kc ks) (kf : x = 0 → gq_W p l e R s m args below meth c D A cI cZ ad mt nL Q (pc + 3) L st M kc ks) : gq_W p l e R s m args below meth c D A cI cZ ad mt nL Q pc L (.int x :: st) M kc ks := fun H locs ls hP hS hl => lv_if_ne hC.1 hC.2.1 d ht (fun q => kt q H locs ls hP hS hl) (fun q => kf q H locs ls hP hS hl)
theorem g_icmp_lt (hC : gq_C p s m args meth c D A cI cZ ad mt own cc nL) {x y : Int32} {off : Int} {tgt : Nat} (ht : (pc : Int) + off = (tgt : Int)) (d : decode cc pc = .ok (.if_icmp .lt off, 3)) (kt : x < y → gq_W p l e R s m args below meth c D A cI cZ ad mt nL Q tgt L st M kc ks) (kf : ¬ x < y → gq_W p l e R s m args below meth c D A cI cZ ad mt nL Q (pc + 3) L st M kc ks) : gq_W p l e R s m args below meth c D A cI cZ ad mt nL Q pc L (.int y :: .int x :: st) M kc ks := fun H locs ls hP hS hl => lv_icmp_lt hC.1 hC.2.1 d ht (fun q => kt q H locs ls hP hS hl) (fun q => kf q H locs ls hP hS hl)
theorem g_if_lt (hC : gq_C p s m args meth c D A cI cZ ad mt own cc nL) {x : Int32} {off : Int} {tgt : Nat} (ht : (pc : Int) + off = (tgt : Int)) (d : decode cc pc = .ok (.ifCond .lt off, 3)) (kt : x < 0 → gq_W p l e R s m args below meth c D A cI cZ ad mt nL Q tgt L st M kc ks) (kf : ¬ x < 0 → gq_W p l e R s m args below meth c D A cI cZ ad mt nL Q (pc + 3) L st M kc ks) : gq_W p l e R s m args below meth c D A cI cZ ad mt nL Q pc L (.int x :: st) M kc ks := fun H locs ls hP hS hl => lv_if_lt hC.1 hC.2.1 d ht (fun q => kt q H locs ls hP hS hl) (fun q => kf q H locs ls hP hS hl)
theorem g_icmp_ge (hC : gq_C p s m args meth c D A cI cZ ad mt own cc nL) {x y : Int32} {off : Int} {tgt : Nat} (ht : (pc : Int) + off = (tgt : Int)) (d : decode cc pc = .ok (.if_icmp .ge off, 3)) (kt : y ≤ x → gq_W p l e R s m args below meth c D A cI cZ ad mt nL Q tgt L st M kc ks) (kf : ¬ y ≤ x → gq_W p l e R s m args below meth c D A cI cZ ad mt nL Q (pc + 3) L st M kc ks) : gq_W p l e R s m args below meth c D A cI cZ ad mt nL Q pc L (.int y :: .int x :: st) M kc ks := fun H locs ls hP hS hl => lv_icmp_ge hC.1 hC.2.1 d ht (fun q => kt q H locs ls hP hS hl) (fun q => kf q H locs ls hP hS hl)
theorem g_if_ge (hC : gq_C p s m args meth c D A cI cZ ad mt own cc nL) {x : Int32} {off : Int} {tgt : Nat} (ht : (pc : Int) + off = (tgt : Int)) (d : decode cc pc = .ok (.ifCond .ge off, 3)) (kt : 0 ≤ x → gq_W p l e R s m args below meth c D A cI cZ ad mt nL Q tgt L st M kc ks) (kf : ¬ 0 ≤ x → gq_W p l e R s m args below meth c D A cI cZ ad mt nL Q (pc + 3) L st M kc ks) : gq_W p l e R s m args below meth c D A cI cZ ad mt nL Q pc L (.int x :: st) M kc ks := fun H locs ls hP hS hl => lv_if_ge hC.1 hC.2.1 d ht (fun q => kt q H locs ls hP hS hl) (fun q => kf q H locs ls hP hS hl)
theorem g_icmp_gt (hC : gq_C p s m args meth c D A cI cZ ad mt own cc nL) {x y : Int32} {off : Int} {tgt : Nat} (ht : (pc : Int) + off = (tgt : Int)) (d : decode cc pc = .ok (.if_icmp .gt off, 3)) (kt : y < x → gq_W p l e R s m args below meth c D A cI cZ ad mt nL Q tgt L st M kc ks) (kf : ¬ y < x → gq_W p l e R s m args below meth c D A cI cZ ad mt nL Q (pc + 3) L st M kc ks) : gq_W p l e R s m args below meth c D A cI cZ ad mt nL Q pc L (.int y :: .int x :: st) M kc ks := fun H locs ls hP hS hl => lv_icmp_gt hC.1 hC.2.1 d ht (fun q => kt q H locs ls hP hS hl) (fun q => kf q H locs ls hP hS hl)
theorem g_if_gt (hC : gq_C p s m args meth c D A cI cZ ad mt own cc nL) {x : Int32} {off : Int} {tgt : Nat} (ht : (pc : Int) + off = (tgt : Int)) (d : decode cc pc = .ok (.ifCond .gt off, 3)) (kt : 0 < x → gq_W p l e R s m args below meth c D A cI cZ ad mt nL Q tgt L st M kc ks) (kf : ¬ 0 < x → gq_W p l e R s m args below meth c D A cI cZ ad mt nL Q (pc + 3) L st M kc ks) : gq_W p l e R s m args below meth c D A cI cZ ad mt nL Q pc L (.int x :: st) M kc ks := fun H locs ls hP hS hl => lv_if_gt hC.1 hC.2.1 d ht (fun q => kt q H locs ls hP hS hl) (fun q => kf q H locs ls hP hS hl)
theorem g_icmp_le (hC : gq_C p s m args meth c D A cI cZ ad mt own cc nL) {x y : Int32} {off : Int} {tgt : Nat} (ht : (pc : Int) + off = (tgt : Int)) (d : decode cc pc = .ok (.if_icmp .le off, 3)) (kt : x ≤ y → gq_W p l e R s m args below meth c D A cI cZ ad mt nL Q tgt L st M kc ks) (kf : ¬ x ≤ y → gq_W p l e R s m args below meth c D A cI cZ ad mt nL Q (pc + 3) L st M kc ks) : gq_W p l e R s m args below meth c D A cI cZ ad mt nL Q pc L (.int y :: .int x :: st) M kc ks := fun H locs ls hP hS hl => lv_icmp_le hC.1 hC.2.1 d ht (fun q => kt q H locs ls hP hS hl) (fun q => kf q H locs ls hP hS hl)
theorem g_if_le (hC : gq_C p s m args meth c D A cI cZ ad mt own cc nL) {x : Int32} {off : Int} {tgt : Nat} (ht : (pc : Int) + off = (tgt : Int)) (d : decode cc pc = .ok (.ifCond .le off, 3)) (kt : x ≤ 0 → gq_W p l e R s m args below meth c D A cI cZ ad mt nL Q tgt L st M kc ks) (kf : ¬ x ≤ 0 → gq_W p l e R s m args below meth c D A cI cZ ad mt nL Q (pc + 3) L st M kc ks) : gq_W p l e R s m args below meth c D A cI cZ ad mt nL Q pc L (.int x :: st) M kc ks := fun H locs ls hP hS hl => lv_if_le hC.1 hC.2.1 d ht (fun q => kt q H locs ls hP hS hl) (fun q => kf q H locs ls hP hS hl)
theorem g_tsIn (hC : gq_C p s m args meth c D A cI cZ ad mt own cc nL) {dflt lo hi : Int} {offs : Array Int} {len : Nat} {x : Int32} {off : Int} {tgt : Nat} (h1 : ¬ x.toInt < lo) (h2 : ¬ hi < x.toInt) (ho : offs[(x.toInt - lo).toNat]? = some off) (ht : (pc : Int) + off = (tgt : Int)) (d : decode cc pc = .ok (.tableswitch dflt lo hi offs, len)) (kk : gq_W p l e R s m args below meth c D A cI cZ ad mt nL Q tgt L st M kc ks) : gq_W p l e R s m args below meth c D A cI cZ ad mt nL Q pc L (.int x :: st) M kc ks := fun H locs ls hP hS hl => lv_tableIn hC.1 hC.2.1 d h1 h2 ho ht (kk H locs ls hP hS hl)
theorem g_tsOut (hC : gq_C p s m args meth c D A cI cZ ad mt own cc nL) {dflt lo hi : Int} {offs : Array Int} {len : Nat} {x : Int32} {tgt : Nat} (h : x.toInt < lo ∨ hi < x.toInt) (ht : (pc : Int) + dflt = (tgt : Int)) (d : decode cc pc = .ok (.tableswitch dflt lo hi offs, len)) (kk : gq_W p l e R s m args below meth c D A cI cZ ad mt nL Q tgt L st M kc ks) : gq_W p l e R s m args below meth c D A cI cZ ad mt nL Q pc L (.int x :: st) M kc ks := fun H locs ls hP hS hl => lv_tableOut hC.1 hC.2.1 d h ht (kk H locs ls hP hS hl)
theorem g_ls (hC : gq_C p s m args meth c D A cI cZ ad mt own cc nL) {dflt : Int} {ps : Array (Int × Int)} {len : Nat} {x : Int32} {off : Int} {tgt : Nat} (hp : (ps.toList.zip (ps.toList.drop 1)).all (fun (a, next) => a.1 < next.1) = true) (ho : Op.lookupswitch.offset ps.toList dflt x.toInt = off) (ht : (pc : Int) + off = (tgt : Int)) (d : decode cc pc = .ok (.lookupswitch dflt ps, len)) (kk : gq_W p l e R s m args below meth c D A cI cZ ad mt nL Q tgt L st M kc ks) : gq_W p l e R s m args below meth c D A cI cZ ad mt nL Q pc L (.int x :: st) M kc ks := fun H locs ls hP hS hl => lv_lookup hC.1 hC.2.1 d hp ho ht (kk H locs ls hP hS hl)
theorem g_weak (ks2 : List Nat) {L2 : List (Nat × Value)} (h : lv_pick L ks2 = L2) (kk : gq_W p l e R s m args below meth c D A cI cZ ad mt nL Q pc L2 st M kc ks) : gq_W p l e R s m args below meth c D A cI cZ ad mt nL Q pc L st M kc ks := fun H locs ls hP hS hl => kk H locs ls hP hS (lv_sub hl ks2 h)
theorem g_cast {pc2 : Nat} {L2 : List (Nat × Value)} {st2 : List Value} {M2 : gq_M} (kk : gq_W p l e R s m args below meth c D A cI cZ ad mt nL Q pc2 L2 st2 M2 kc ks) (h1 : pc = pc2) (h2 : L = L2) (h3 : st = st2) (h4 : M = M2) : gq_W p l e R s m args below meth c D A cI cZ ad mt nL Q pc L st M kc ks := by subst h1 h2 h3 h4; exact kk
theorem g_widen {kc2 ks2 : Nat} (h1 : kc ≤ kc2) (h2 : ks ≤ ks2) (kk : gq_W p l e R s m args below meth c D A cI cZ ad mt nL Q pc L st M kc2 ks2) : gq_W p l e R s m args below meth c D A cI cZ ad mt nL Q pc L st M kc ks := fun H locs ls hP hS hl => W.widen h1 h2 (kk H locs ls hP hS hl)
theorem g_getI (hC : gq_C p s m args meth c D A cI cZ ad mt own cc nL) {index ci k q : Nat} (hF : gq_F own index ci k) (hq : gq_lk mt q ci k none) (d : decode cc pc = .ok (.getfield index, 3)) (kk : gq_W p l e R s m args below meth c D A cI cZ ad mt nL Q (pc + 3) L (.int (M q k) :: st) M kc ks) : gq_W p l e R s m args below meth c D A cI cZ ad mt nL Q pc L (.ref (ad q) :: st) M kc ks := by
  intro H locs ls hP hS hl
  obtain ⟨C, T, N, h1, h2, h3, h4⟩ := hF
  obtain ⟨fd, g1, g2⟩ := hq
  exact va_get hC.1 hC.2.1 hC.2.2.2.2.1 h3 hC.2.2.2.1 hC.2.2.2.2.2.1 hP q (gq_ws_get g1) h1 k h2 (hC.2.2.2.2.1 _ h4) (fun _ h => h) (gq_fd_int g2) d (kk H locs ls hP hS hl)
theorem g_getR (hC : gq_C p s m args meth c D A cI cZ ad mt own cc nL) {index ci k q r : Nat} (hF : gq_F own index ci k) (hq : gq_lk mt q ci k (some r)) (d : decode cc pc = .ok (.getfield index, 3)) (kk : gq_W p l e R s m args below meth c D A cI cZ ad mt nL Q (pc + 3) L (.ref (ad r) :: st) M kc ks) : gq_W p l e R s m args below meth c D A cI cZ ad mt nL Q pc L (.ref (ad q) :: st) M kc ks := by
  intro H locs ls hP hS hl
  obtain ⟨C, T, N, h1, h2, h3, h4⟩ := hF
  obtain ⟨fd, g1, g2⟩ := hq
  exact va_get hC.1 hC.2.1 hC.2.2.2.2.1 h3 hC.2.2.2.1 hC.2.2.2.2.2.1 hP q (gq_ws_get g1) h1 k h2 (hC.2.2.2.2.1 _ h4) (fun _ h => h) (gq_fd_ref g2) d (kk H locs ls hP hS hl)
theorem g_put (hC : gq_C p s m args meth c D A cI cZ ad mt own cc nL) {index ci k q : Nat} {ty : FieldType} {v : Int32} (hF : gq_G own index ci k ty) (hq : gq_lk mt q ci k none) (hn : narrow ty (.int v) = .int v) (hfit : fits ty (.int v) = true) (d : decode cc pc = .ok (.putfield index, 3)) (kk : gq_W p l e R s m args below meth c D A cI cZ ad mt nL Q (pc + 3) L st (gq_up M q k v) kc ks) : gq_W p l e R s m args below meth c D A cI cZ ad mt nL Q pc L (.int v :: .ref (ad q) :: st) M kc ks := by
  intro H locs ls hP hS hl
  obtain ⟨C, T, N, ty0, h1, h2, h3, h4, h5, h6, h7, h8⟩ := hF
  obtain ⟨fd, g1, g2⟩ := hq
  have hlen : k < (gq_fd ad (M q) 0 fd).length := (List.getElem?_eq_some_iff.mp (gq_fd_int (ad := ad) (f := M q) g2)).1
  refine va_put hC.1 hC.2.1 hC.2.2.2.2.1 h3 ty0 h5 h6 hC.2.2.2.1 hC.2.2.2.2.2.1 hP (gq_D hC.2.2.2.2.2.2.2.2) hS q (gq_ws_get g1) h1 k h2 (hC.2.2.2.2.1 _ h4) (fun _ h => h) h7 h8 hn hfit hlen d (fun H1 locs1 hP1 _ hS1 => ?_)
  rw [gq_ws_set (j := k) (v := v) g1 (by show Sum.inr (ci, (gq_fd ad (M q) 0 fd).set k (.int v)) = _; rw [gq_fd_set g2]; rfl)] at hP1
  exact kk H1 locs1 ls hP1 hS1 hl
theorem g_putI (hC : gq_C p s m args meth c D A cI cZ ad mt own cc nL) {index ci k q : Nat} {v : Int32} (hF : gq_G own index ci k .int) (hq : gq_lk mt q ci k none) (d : decode cc pc = .ok (.putfield index, 3)) (kk : gq_W p l e R s m args below meth c D A cI cZ ad mt nL Q (pc + 3) L st (gq_up M q k v) kc ks) : gq_W p l e R s m args below meth c D A cI cZ ad mt nL Q pc L (.int v :: .ref (ad q) :: st) M kc ks := g_put hC hF hq rfl rfl d kk
theorem g_putZ (hC : gq_C p s m args meth c D A cI cZ ad mt own cc nL) {index ci k q : Nat} {v : Int32} (hF : gq_G own index ci k .boolean) (hq : gq_lk mt q ci k none) (hv : gq_bit v) (d : decode cc pc = .ok (.putfield index, 3)) (kk : gq_W p l e R s m args below meth c D A cI cZ ad mt nL Q (pc + 3) L st (gq_up M q k v) kc ks) : gq_W p l e R s m args below meth c D A cI cZ ad mt nL Q pc L (.int v :: .ref (ad q) :: st) M kc ks := g_put hC hF hq (gq_bitN hv).1 (gq_bitN hv).2.1 d kk
theorem g_iald (hC : gq_C p s m args meth c D A cI cZ ad mt own cc nL) {q n : Nat} {i : Int32} (hq : mt[q]? = some (.inr (false, n))) (hi : vp_in i n) (d : decode cc pc = .ok (.iaload, 1)) (kk : gq_W p l e R s m args below meth c D A cI cZ ad mt nL Q (pc + 1) L (.int (M q i.toNatClampNeg) :: st) M kc ks) : gq_W p l e R s m args below meth c D A cI cZ ad mt nL Q pc L (.int i :: .ref (ad q) :: st) M kc ks := fun H locs ls hP hS hl => va_iald hC.1 hC.2.1 hC.2.2.2.2.2.1 hP q 0 (gq_ws_get hq) rfl hi d (kk H locs ls hP hS hl)
theorem g_zald (hC : gq_C p s m args meth c D A cI cZ ad mt own cc nL) {q n : Nat} {i : Int32} (hq : mt[q]? = some (.inr (true, n))) (hi : vp_in i n) (d : decode cc pc = .ok (.baload, 1)) (kk : gq_W p l e R s m args below meth c D A cI cZ ad mt nL Q (pc + 1) L (.int (M q i.toNatClampNeg) :: st) M kc ks) : gq_W p l e R s m args below meth c D A cI cZ ad mt nL Q pc L (.int i :: .ref (ad q) :: st) M kc ks := fun H locs ls hP hS hl => va_zald hC.1 hC.2.1 hC.2.2.2.2.2.1 hP q 1 (gq_ws_get hq) rfl hi d (kk H locs ls hP hS hl)
theorem g_iast (hC : gq_C p s m args meth c D A cI cZ ad mt own cc nL) {q n : Nat} {i v : Int32} (hq : mt[q]? = some (.inr (false, n))) (hi : vp_in i n) (d : decode cc pc = .ok (.iastore, 1)) (kk : gq_W p l e R s m args below meth c D A cI cZ ad mt nL Q (pc + 1) L st (gq_up M q i.toNatClampNeg v) kc ks) : gq_W p l e R s m args below meth c D A cI cZ ad mt nL Q pc L (.int v :: .int i :: .ref (ad q) :: st) M kc ks := by
  intro H locs ls hP hS hl
  refine va_iast hC.1 hC.2.1 hC.2.2.2.2.2.1 hP (gq_D hC.2.2.2.2.2.2.2.2) hS q 0 (gq_ws_get hq) rfl hi d (fun H1 locs1 hP1 _ hS1 => ?_)
  exact kk H1 locs1 ls ((gq_ws_set (cI := cI) (cZ := cZ) (ad := ad) (M := M) (j := i.toNatClampNeg) (v := v) hq rfl) ▸ hP1) hS1 hl
theorem g_zast (hC : gq_C p s m args meth c D A cI cZ ad mt own cc nL) {q n : Nat} {i v : Int32} (hq : mt[q]? = some (.inr (true, n))) (hi : vp_in i n) (hv : gq_bit v) (d : decode cc pc = .ok (.bastore, 1)) (kk : gq_W p l e R s m args below meth c D A cI cZ ad mt nL Q (pc + 1) L st (gq_up M q i.toNatClampNeg v) kc ks) : gq_W p l e R s m args below meth c D A cI cZ ad mt nL Q pc L (.int v :: .int i :: .ref (ad q) :: st) M kc ks := by
  intro H locs ls hP hS hl
  refine va_zast hC.1 hC.2.1 hC.2.2.2.2.2.1 hP (gq_D hC.2.2.2.2.2.2.2.2) hS q 1 (gq_ws_get hq) rfl hi d (fun H1 locs1 hP1 _ hS1 => ?_)
  rw [(gq_bitN hv).2.2] at hP1
  exact kk H1 locs1 ls ((gq_ws_set (cI := cI) (cZ := cZ) (ad := ad) (M := M) (j := i.toNatClampNeg) (v := v) hq rfl) ▸ hP1) hS1 hl
theorem g_alen (hC : gq_C p s m args meth c D A cI cZ ad mt own cc nL) {q n : Nat} {z : Bool} (hq : mt[q]? = some (.inr (z, n))) (d : decode cc pc = .ok (.arraylength, 1)) (kk : gq_W p l e R s m args below meth c D A cI cZ ad mt nL Q (pc + 1) L (.int (nI n) :: st) M kc ks) : gq_W p l e R s m args below meth c D A cI cZ ad mt nL Q pc L (.ref (ad q) :: st) M kc ks := by
  intro H locs ls hP hS hl
  cases z with
  | false => exact va_alen hC.1 hC.2.1 hC.2.2.2.2.2.1 hP q 0 (gq_ws_get hq) rfl rfl d (kk H locs ls hP hS hl)
  | true => exact va_alen hC.1 hC.2.1 hC.2.2.2.2.2.1 hP q 1 (gq_ws_get hq) rfl rfl d (kk H locs ls hP hS hl)
end GQ
end
section
/-! contracts over the system's cells; calls -/
theorem gq_goodC {w : Cond} (h : w ∈ gT) : GoodIn gT (w :: gT) := fun x hx => by
  rcases List.mem_cons.mp hx with rfl | hx
  · exact gT_self _ h
  · exact gT_self _ hx
def gq_A (ad : Nat → Nat) (n sz : Nat) : Nat → Prop := fun q => (∃ k, k < n ∧ q = ad k) ∨ sz ≤ q
def gq_B (D : va_G) (cI cZ : ClassId) (ad : Nat → Nat) (mt : List gq_T) (M : gq_M) (U : State) : Prop := va_P D vwCl (gq_ws cI cZ ad M 0 mt) U.heap ∧ gq_K D cI cZ U
def gq_Pc (D : va_G) (cI cZ : ClassId) (ad : Nat → Nat) (mt : List gq_T) (as : List Value) (M : gq_M) (sz : Nat) : Array Value → State → Prop := va_Pc as (fun U => U.heap.size = sz ∧ gq_B D cI cZ ad mt M U)
theorem gq_blind {D : va_G} {cI cZ : ClassId} {ad : Nat → Nat} {mt : List gq_T} {as : List Value} {M : gq_M} {sz : Nat} : FrameBlind (gq_Pc D cI cZ ad mt as M sz) := fun a U g mk q => ⟨q.1, q.2.1, q.2.2.1, va_K.moved (u := U) (U := U.calling g mk a) (Vm.Alike.refl U.vm) q.2.2.2⟩
def gq_inj (ad : Nat → Nat) (n : Nat) : Prop := ∀ i j : Nat, i < n → j < n → ad i = ad j → i = j
def gq_rm (d : Nat) : Room := { frames := d, cells := 0, slots := 0, locals := 37 * d }
def gq_Qi (D : va_G) (cI cZ : ClassId) (ad : Nat → Nat) (mt : List gq_T) (v : Int32) (M' : gq_M) (A : Nat → Prop) : Array Value → State → Outcome → State → Prop := va_Qi (fun r (_ : Unit) => r = v) (fun _ t => gq_B D cI cZ ad mt M' t) A
def gq_Qv (D : va_G) (cI cZ : ClassId) (ad : Nat → Nat) (mt : List gq_T) (M' : gq_M) (A : Nat → Prop) : Array Value → State → Outcome → State → Prop := va_Qv (fun (_ : Unit) => True) (fun _ t => gq_B D cI cZ ad mt M' t) A
/-- a method that answers v and leaves M' -/
def gq_Ci (l : Launch) (D : va_G) (cI cZ : ClassId) (ad : Nat → Nat) (mt : List gq_T) (y : MethodName) (cc : ByteArray) (nL : Nat) (ret : Option FieldType) (d : Nat) (as : List Value) (M : gq_M) (v : Int32) (M' : gq_M) : Prop :=
  gq_inj ad mt.length → ∀ sz, Met l y (.code y cc nL ret :: gT) (gq_rm d) (gq_Pc D cI cZ ad mt as M sz) (gq_Qi D cI cZ ad mt v M' (gq_A ad mt.length sz)) 0 0 (gq_A ad mt.length sz)
def gq_Cv (l : Launch) (D : va_G) (cI cZ : ClassId) (ad : Nat → Nat) (mt : List gq_T) (y : MethodName) (cc : ByteArray) (nL : Nat) (d : Nat) (as : List Value) (M M' : gq_M) : Prop :=
  gq_inj ad mt.length → ∀ sz, Met l y (.code y cc nL none :: gT) (gq_rm d) (gq_Pc D cI cZ ad mt as M sz) (gq_Qv D cI cZ ad mt M' (gq_A ad mt.length sz)) 0 0 (gq_A ad mt.length sz)
/-- a method's words: a virtual one, a static one -/
def gq_MV (y : MethodName) (cc : ByteArray) (nL : Nat) (ret : Option FieldType) (n : Nat) : Prop := Cond.code y cc nL ret ∈ gT ∧ Cond.initialized y.cls ∈ gT ∧ Cond.instanceMethod y ∈ gT ∧ Cond.selects y.cls y y ∈ gT ∧ (y.cls ≠ "java/lang/invoke/MethodHandle" ∧ y.cls ≠ "java/lang/invoke/VarHandle" ∧ (parseMethodDescriptor y.desc).map (fun d => d.parameters.length) = some n)
def gq_MS (y : MethodName) (cc : ByteArray) (nL : Nat) (ret : Option FieldType) (n : Nat) : Prop := Cond.code y cc nL ret ∈ gT ∧ Cond.initialized y.cls ∈ gT ∧ Cond.static y ∈ gT ∧ (y.cls ≠ "java/lang/invoke/MethodHandle" ∧ y.cls ≠ "java/lang/invoke/VarHandle" ∧ (parseMethodDescriptor y.desc).map (fun d => d.parameters.length) = some n)
/-- the cell is an object of that class -/
def gq_ob (mt : List gq_T) (q : Nat) (C : String) : Prop := ∃ (ci : Nat) (fd : List (Option Nat)) (r : vw_C), mt[q]? = some (.inl (ci, fd)) ∧ vwCl[ci]? = some r ∧ r.1 = C
section GQC
variable {p : Program} {l : Launch} {e : Env} {R : Room} {s : State} {m : MethodId} {args : Array Value} {below : List Frame} {meth : Method} {c : Code} {Q : State → Prop}
variable {D : va_G} {A : Nat → Prop} {cI cZ : ClassId} {ad : Nat → Nat} {mt : List gq_T} {own : String} {cc : ByteArray} {nL : Nat}
variable {pc : Nat} {L : List (Nat × Value)} {st : List Value} {M : gq_M} {kc ks : Nat}
theorem gq_Ale {sz : Nat} (hC : gq_C p s m args meth c D A cI cZ ad mt own cc nL) (hz : s.heap.size ≤ sz) : ∀ q, gq_A ad mt.length sz q → A q := by
  intro q h
  rcases h with ⟨k, hk, rfl⟩ | h
  · exact hC.2.2.2.2.2.2.2.2.2 k hk
  · exact hC.2.2.2.2.2.2.2.1 q (Nat.le_trans hz h)
theorem gq_context {y : MethodName} {as : List Value} {ret : Option FieldType} {rm : Room} {s₁ : State} (hinj : gq_inj ad mt.length) (B : BodyLoose p l y (headSpec (.code y cc nL ret :: gT) rm) cc nL ret e s m as.toArray below meth c s₁) (hml : c.maxLocals = nL) (hK : gq_K D cI cZ s) (hown : y.cls = own) :
    gq_C p s m as.toArray meth c D (gq_A ad mt.length s.heap.size) cI cZ ad mt own cc nL := by
  subst hown
  have hts := atoms_spec (ws := .code y cc nL ret :: gT) B.pre
  exact ⟨B.exec, B.bytes, hml, findClass_of_methodNamed B.named, fun w h => hts w (List.mem_cons_of_mem _ h), hK, B.notSynchronized, fun q h => Or.inr h, hinj, fun k h => Or.inl ⟨k, h, rfl⟩⟩
theorem gq_introI {y : MethodName} {ret : Option FieldType} {dm : Nat} {as : List Value} {v : Int32} {M' : gq_M} (hy : plainName y.cls = true) (hown : y.cls = own) (hle : (lg_sl as).length ≤ nL)
    (body : ∀ (p : Program) (e : Env) (s : State) (m : MethodId) (below : List Frame) (meth : Method) (c : Code), gq_C p s m as.toArray meth c D (gq_A ad mt.length s.heap.size) cI cZ ad mt own cc nL → meth.sig.returnType = ret →
      gq_W p l e (gq_rm dm) s m as.toArray below meth c D (gq_A ad mt.length s.heap.size) cI cZ ad mt nL (MQ below (gq_Qi D cI cZ ad mt v M' (gq_A ad mt.length s.heap.size)) as.toArray s 0 0 (gq_A ad mt.length s.heap.size)) 0 (lv_args 0 as) [] M 0 0) : gq_Ci l D cI cZ ad mt y cc nL ret dm as M v M' := by
  intro hinj sz
  refine Met.ofW (cc := cc) (maxL := nL) (ret := ret) hy rfl ?_
  intro p e s m args below meth c s₁ B hml hv
  obtain ⟨rfl, hsz, hP, hK⟩ := hv
  subst hsz
  have h0 := body p e s m below meth c (gq_context hinj B hml hK hown) B.returns s.heap [] _ hP va_S.rf (lv_entry as hle)
  rw [lg_entry_eq]
  exact h0
theorem gq_introV {y : MethodName} {dm : Nat} {as : List Value} {M' : gq_M} (hy : plainName y.cls = true) (hown : y.cls = own) (hle : (lg_sl as).length ≤ nL)
    (body : ∀ (p : Program) (e : Env) (s : State) (m : MethodId) (below : List Frame) (meth : Method) (c : Code), gq_C p s m as.toArray meth c D (gq_A ad mt.length s.heap.size) cI cZ ad mt own cc nL → meth.sig.returnType = none →
      gq_W p l e (gq_rm dm) s m as.toArray below meth c D (gq_A ad mt.length s.heap.size) cI cZ ad mt nL (MQ below (gq_Qv D cI cZ ad mt M' (gq_A ad mt.length s.heap.size)) as.toArray s 0 0 (gq_A ad mt.length s.heap.size)) 0 (lv_args 0 as) [] M 0 0) : gq_Cv l D cI cZ ad mt y cc nL dm as M M' := by
  intro hinj sz
  refine Met.ofW (cc := cc) (maxL := nL) (ret := none) hy rfl ?_
  intro p e s m args below meth c s₁ B hml hv
  obtain ⟨rfl, hsz, hP, hK⟩ := hv
  subst hsz
  have h0 := body p e s m below meth c (gq_context hinj B hml hK hown) B.returns s.heap [] _ hP va_S.rf (lv_entry as hle)
  rw [lg_entry_eq]
  exact h0
theorem g_iret (hC : gq_C p s m args meth c D A cI cZ ad mt own cc nL) {v : Int32} (hr : meth.sig.returnType = some .int) (d : decode cc pc = .ok (.ireturn, 1)) : gq_W p l e R s m args below meth c D A cI cZ ad mt nL (MQ below (gq_Qi D cI cZ ad mt v M A) args s kc ks A) pc L [.int v] M kc ks := fun H locs ls hP hS hl =>
  W.iret hC.1 hC.2.1 hr (fun t ht hW => ⟨⟨v, (), rfl, rfl, by show va_P _ _ _ t.heap; rw [ht]; exact hP, va_K.moved hW.alike hC.2.2.2.2.2.1⟩, hS.F ht⟩) hS.2.2 d hC.2.2.2.2.2.2.1
theorem g_zret (hC : gq_C p s m args meth c D A cI cZ ad mt own cc nL) {v : Int32} (hv : gq_bit v) (hr : meth.sig.returnType = some .boolean) (d : decode cc pc = .ok (.ireturn, 1)) : gq_W p l e R s m args below meth c D A cI cZ ad mt nL (MQ below (gq_Qi D cI cZ ad mt v M A) args s kc ks A) pc L [.int v] M kc ks := fun H locs ls hP hS hl =>
  W.zret hC.1 hC.2.1 hr (gq_bitN hv).1 (fun t ht hW => ⟨⟨v, (), rfl, rfl, by show va_P _ _ _ t.heap; rw [ht]; exact hP, va_K.moved hW.alike hC.2.2.2.2.2.1⟩, hS.F ht⟩) hS.2.2 d hC.2.2.2.2.2.2.1
theorem g_vret (hC : gq_C p s m args meth c D A cI cZ ad mt own cc nL) (hr : meth.sig.returnType = none) (d : decode cc pc = .ok (.return_, 1)) : gq_W p l e R s m args below meth c D A cI cZ ad mt nL (MQ below (gq_Qv D cI cZ ad mt M A) args s kc ks A) pc L [] M kc ks := fun H locs ls hP hS hl =>
  W.vret hC.1 hC.2.1 hr (fun t ht hW => ⟨⟨(), rfl, trivial, by show va_P _ _ _ t.heap; rw [ht]; exact hP, va_K.moved hW.alike hC.2.2.2.2.2.1⟩, hS.F ht⟩) hS.2.2 d hC.2.2.2.2.2.2.1
variable {y : MethodName} {bytes : ByteArray} {maxL : Nat} {ret : Option FieldType} {dm : Nat} {index q n : Nat} {as stk : List Value} {v : Int32} {M' : gq_M}
theorem gq_call (hC : gq_C p s m args meth c D A cI cZ ad mt own cc nL) (hw1 : Cond.code y bytes maxL ret ∈ gT) (hw2 : Cond.initialized y.cls ∈ gT) (hl : Cond.methodLink own index y ∈ gT) (hd : y.cls ≠ "java/lang/invoke/MethodHandle" ∧ y.cls ≠ "java/lang/invoke/VarHandle" ∧ (parseMethodDescriptor y.desc).map (fun d => d.parameters.length) = some n) (hR : dm + 1 ≤ R.frames ∧ 8 + (maxL + 11) + 37 * dm ≤ R.locals) :
    CallB R s args own index y bytes maxL ret (.code y bytes maxL ret :: gT) (gq_rm dm) 0 0 n :=
  callB_of n hC.2.2.2.2.1 (gq_goodC hw1) rfl rfl rfl (hC.2.2.2.2.1 _ hw2) (hC.2.2.2.2.1 _ hl) hd hR

theorem g_Vi (hC : gq_C p s m args meth c D A cI cZ ad mt own cc nL) (hc : gq_Ci l D cI cZ ad mt y bytes maxL ret dm (.ref (ad q) :: as) M v M') (hm : gq_MV y bytes maxL ret n) (hl2 : Cond.methodLink own index y ∈ gT) (hq : gq_ob mt q y.cls) (hn : as.length = n) (hst : stk = as.reverse ++ .ref (ad q) :: st) (hW : (st.map fun v => v.category).sum ≤ 8) (hR : dm + 1 ≤ R.frames ∧ 8 + (maxL + 11) + 37 * dm ≤ R.locals) (hk : kc ≤ R.cells ∧ ks ≤ R.slots) (d : decode cc pc = .ok (.invokevirtual index, 3)) (kk : gq_W p l e R s m args below meth c D A cI cZ ad mt nL Q (pc + 3) L (.int v :: st) M' kc ks) : gq_W p l e R s m args below meth c D A cI cZ ad mt nL Q pc L stk M kc ks := by
  intro H locs ls hP hS hl
  subst hst
  obtain ⟨ci, fd, r, g1, g2, g3⟩ := hq
  have hrec := va_recv hC.2.2.2.2.2.1 hP g2 (gq_ws_get g1)
  rw [g3] at hrec
  refine va_calli (va_runV (As := as) (rest := st) ⟨hC.1, hC.2.1, hC.2.2.1, hC.2.2.2.1, hC.2.2.2.2.1⟩ (hc hC.2.2.2.2.2.2.2.2.1 H.size) ⟨gq_call hC hm.1 hm.2.1 hl2 hm.2.2.2.2 hR, hC.2.2.2.2.1 _ hm.2.2.1, hC.2.2.2.2.1 _ hm.2.2.2.1⟩ ⟨gq_blind, hrec, fun U hU hW => ⟨rfl, by rw [hU], by rw [hU]; exact hP, va_K.moved hW.alike hC.2.2.2.2.2.1⟩⟩ rfl hn hl.1 rfl (lv_room (pc := pc) (ls := ls) (rest := st) (m := m) hW) d ⟨by omega, by omega⟩) hS (fun q _ h => gq_Ale hC hS.1 q h) (gq_Ale hC hS.1) (fun r u t H1 locs1 ht hvm hw hB hz hk hS1 => ?_)
  subst hw; exact kk H1 locs1 ls (by rw [← ht]; exact hB.1) hS1 hl
theorem g_Si (hC : gq_C p s m args meth c D A cI cZ ad mt own cc nL) (hc : gq_Ci l D cI cZ ad mt y bytes maxL ret dm as M v M') (hm : gq_MS y bytes maxL ret n) (hl2 : Cond.methodLink own index y ∈ gT) (hn : as.length = n) (hst : stk = as.reverse ++ st) (hW : (st.map fun v => v.category).sum ≤ 8) (hR : dm + 1 ≤ R.frames ∧ 8 + (maxL + 11) + 37 * dm ≤ R.locals) (hk : kc ≤ R.cells ∧ ks ≤ R.slots) (d : decode cc pc = .ok (.invokestatic index, 3)) (kk : gq_W p l e R s m args below meth c D A cI cZ ad mt nL Q (pc + 3) L (.int v :: st) M' kc ks) : gq_W p l e R s m args below meth c D A cI cZ ad mt nL Q pc L stk M kc ks := by
  intro H locs ls hP hS hl
  subst hst
  refine va_calli (va_runS (As := as) (rest := st) ⟨hC.1, hC.2.1, hC.2.2.1, hC.2.2.2.1, hC.2.2.2.2.1⟩ (hc hC.2.2.2.2.2.2.2.2.1 H.size) ⟨gq_call hC hm.1 hm.2.1 hl2 hm.2.2.2 hR, hC.2.2.2.2.1 _ hm.2.2.1⟩ ⟨gq_blind, fun U hU hW => ⟨rfl, by rw [hU], by rw [hU]; exact hP, va_K.moved hW.alike hC.2.2.2.2.2.1⟩⟩ rfl hn hl.1 rfl (lv_room (pc := pc) (ls := ls) (rest := st) (m := m) hW) d ⟨by omega, by omega⟩) hS (fun q _ h => gq_Ale hC hS.1 q h) (gq_Ale hC hS.1) (fun r u t H1 locs1 ht hvm hw hB hz hk hS1 => ?_)
  subst hw; exact kk H1 locs1 ls (by rw [← ht]; exact hB.1) hS1 hl
theorem g_Vv (hC : gq_C p s m args meth c D A cI cZ ad mt own cc nL) (hc : gq_Cv l D cI cZ ad mt y bytes maxL dm (.ref (ad q) :: as) M M') (hm : gq_MV y bytes maxL none n) (hl2 : Cond.methodLink own index y ∈ gT) (hq : gq_ob mt q y.cls) (hn : as.length = n) (hst : stk = as.reverse ++ .ref (ad q) :: st) (hW : (st.map fun v => v.category).sum ≤ 8) (hR : dm + 1 ≤ R.frames ∧ 8 + (maxL + 11) + 37 * dm ≤ R.locals) (hk : kc ≤ R.cells ∧ ks ≤ R.slots) (d : decode cc pc = .ok (.invokevirtual index, 3)) (kk : gq_W p l e R s m args below meth c D A cI cZ ad mt nL Q (pc + 3) L st M' kc ks) : gq_W p l e R s m args below meth c D A cI cZ ad mt nL Q pc L stk M kc ks := by
  intro H locs ls hP hS hl
  subst hst
  obtain ⟨ci, fd, r, g1, g2, g3⟩ := hq
  have hrec := va_recv hC.2.2.2.2.2.1 hP g2 (gq_ws_get g1)
  rw [g3] at hrec
  refine va_callv (va_runV (As := as) (rest := st) ⟨hC.1, hC.2.1, hC.2.2.1, hC.2.2.2.1, hC.2.2.2.2.1⟩ (hc hC.2.2.2.2.2.2.2.2.1 H.size) ⟨gq_call hC hm.1 hm.2.1 hl2 hm.2.2.2.2 hR, hC.2.2.2.2.1 _ hm.2.2.1, hC.2.2.2.2.1 _ hm.2.2.2.1⟩ ⟨gq_blind, hrec, fun U hU hW => ⟨rfl, by rw [hU], by rw [hU]; exact hP, va_K.moved hW.alike hC.2.2.2.2.2.1⟩⟩ rfl hn hl.1 rfl (lv_room (pc := pc) (ls := ls) (rest := st) (m := m) hW) d ⟨by omega, by omega⟩) hS (fun q _ h => gq_Ale hC hS.1 q h) (gq_Ale hC hS.1) (fun u t H1 locs1 ht hvm hw hB hz hk hS1 => ?_)
  exact kk H1 locs1 ls (by rw [← ht]; exact hB.1) hS1 hl
theorem g_Sv (hC : gq_C p s m args meth c D A cI cZ ad mt own cc nL) (hc : gq_Cv l D cI cZ ad mt y bytes maxL dm as M M') (hm : gq_MS y bytes maxL none n) (hl2 : Cond.methodLink own index y ∈ gT) (hn : as.length = n) (hst : stk = as.reverse ++ st) (hW : (st.map fun v => v.category).sum ≤ 8) (hR : dm + 1 ≤ R.frames ∧ 8 + (maxL + 11) + 37 * dm ≤ R.locals) (hk : kc ≤ R.cells ∧ ks ≤ R.slots) (d : decode cc pc = .ok (.invokestatic index, 3)) (kk : gq_W p l e R s m args below meth c D A cI cZ ad mt nL Q (pc + 3) L st M' kc ks) : gq_W p l e R s m args below meth c D A cI cZ ad mt nL Q pc L stk M kc ks := by
  intro H locs ls hP hS hl
  subst hst
  refine va_callv (va_runS (As := as) (rest := st) ⟨hC.1, hC.2.1, hC.2.2.1, hC.2.2.2.1, hC.2.2.2.2.1⟩ (hc hC.2.2.2.2.2.2.2.2.1 H.size) ⟨gq_call hC hm.1 hm.2.1 hl2 hm.2.2.2 hR, hC.2.2.2.2.1 _ hm.2.2.1⟩ ⟨gq_blind, fun U hU hW => ⟨rfl, by rw [hU], by rw [hU]; exact hP, va_K.moved hW.alike hC.2.2.2.2.2.1⟩⟩ rfl hn hl.1 rfl (lv_room (pc := pc) (ls := ls) (rest := st) (m := m) hW) d ⟨by omega, by omega⟩) hS (fun q _ h => gq_Ale hC hS.1 q h) (gq_Ale hC hS.1) (fun u t H1 locs1 ht hvm hw hB hz hk hS1 => ?_)
  exact kk H1 locs1 ls (by rw [← ht]; exact hB.1) hS1 hl
theorem g_mmax (hC : gq_C p s m args meth c D A cI cZ ad mt own cc nL) {x y : Int32} (hw1 : Cond.methodLink own index Lib.Math.max.name ∈ gT) (hw2 : Cond.static Lib.Math.max.name ∈ gT) (hw3 : Cond.initialized "java/lang/Math" ∈ gT) (hw4 : Cond.code Lib.Math.max.name Lib.Math.max.code 2 (some .int) ∈ gT) (hR : 1 ≤ R.frames ∧ (st.map fun v => v.category).sum + 13 ≤ R.locals) (hk : kc ≤ R.cells ∧ ks ≤ R.slots) (d : decode cc pc = .ok (.invokestatic index, 3)) (kk : gq_W p l e R s m args below meth c D A cI cZ ad mt nL Q (pc + 3) L (.int (if x < y then y else x) :: st) M kc ks) : gq_W p l e R s m args below meth c D A cI cZ ad mt nL Q pc L (.int y :: .int x :: st) M kc ks := fun H locs ls hP hS hl =>
  va_mmax hC.1 hC.2.1 (hC.2.2.1.trans hl.1.symm) hC.2.2.2.1 (hC.2.2.2.2.1 _ hw1) (hC.2.2.2.2.1 _ hw2) (hC.2.2.2.2.1 _ hw3) (hC.2.2.2.2.1 _ hw4) hR.1 hR.2 hk.1 hk.2 d (kk H locs ls hP hS hl)
theorem g_mmin (hC : gq_C p s m args meth c D A cI cZ ad mt own cc nL) {x y : Int32} (hw1 : Cond.methodLink own index Lib.Math.min.name ∈ gT) (hw2 : Cond.static Lib.Math.min.name ∈ gT) (hw3 : Cond.initialized "java/lang/Math" ∈ gT) (hw4 : Cond.code Lib.Math.min.name Lib.Math.min.code 2 (some .int) ∈ gT) (hR : 1 ≤ R.frames ∧ (st.map fun v => v.category).sum + 13 ≤ R.locals) (hk : kc ≤ R.cells ∧ ks ≤ R.slots) (d : decode cc pc = .ok (.invokestatic index, 3)) (kk : gq_W p l e R s m args below meth c D A cI cZ ad mt nL Q (pc + 3) L (.int (if y < x then y else x) :: st) M kc ks) : gq_W p l e R s m args below meth c D A cI cZ ad mt nL Q pc L (.int y :: .int x :: st) M kc ks := fun H locs ls hP hS hl =>
  va_mmin hC.1 hC.2.1 (hC.2.2.1.trans hl.1.symm) hC.2.2.2.1 (hC.2.2.2.2.1 _ hw1) (hC.2.2.2.2.1 _ hw2) (hC.2.2.2.2.1 _ hw3) (hC.2.2.2.2.1 _ hw4) hR.1 hR.2 hk.1 hk.2 d (kk H locs ls hP hS hl)
theorem g_mmaxl (hC : gq_C p s m args meth c D A cI cZ ad mt own cc nL) {x y : Int64} (hw1 : Cond.methodLink own index Lib.MathLoose.max_long.x ∈ gT) (hw2 : Cond.static Lib.MathLoose.max_long.x ∈ gT) (hw3 : Cond.initialized "java/lang/Math" ∈ gT) (hw4 : Cond.code Lib.MathLoose.max_long.x Lib.MathLoose.max_long.code 4 (some .long) ∈ gT) (hR : 1 ≤ R.frames ∧ (st.map fun v => v.category).sum + 15 ≤ R.locals) (hk : kc ≤ R.cells ∧ ks ≤ R.slots) (d : decode cc pc = .ok (.invokestatic index, 3)) (kk : gq_W p l e R s m args below meth c D A cI cZ ad mt nL Q (pc + 3) L (.long (if y < x then x else y) :: st) M kc ks) : gq_W p l e R s m args below meth c D A cI cZ ad mt nL Q pc L (.long y :: .long x :: st) M kc ks := fun H locs ls hP hS hl =>
  va_mmax_long hC.1 hC.2.1 (hC.2.2.1.trans hl.1.symm) hC.2.2.2.1 (hC.2.2.2.2.1 _ hw1) (hC.2.2.2.2.1 _ hw2) (hC.2.2.2.2.1 _ hw3) (hC.2.2.2.2.1 _ hw4) hR.1 hR.2 hk.1 hk.2 d (kk H locs ls hP hS hl)
end GQC
end
section
theorem dX0_init_0 : decode cX0_init 0 = .ok (.aload_n 0, 1) := by decide +kernel
theorem dX0_init_1 : decode cX0_init 1 = .ok (.invokespecial 3, 3) := by decide +kernel
theorem dX0_init_4 : decode cX0_init 4 = .ok (.aload_n 0, 1) := by decide +kernel
theorem dX0_init_5 : decode cX0_init 5 = .ok (.new 9, 3) := by decide +kernel
theorem dX0_init_8 : decode cX0_init 8 = .ok (.dup, 1) := by decide +kernel
theorem dX0_init_9 : decode cX0_init 9 = .ok (.bipush 32, 2) := by decide +kernel
theorem dX0_init_11 : decode cX0_init 11 = .ok (.sipush 10000, 3) := by decide +kernel
theorem dX0_init_14 : decode cX0_init 14 = .ok (.invokespecial 11, 3) := by decide +kernel
theorem dX0_init_17 : decode cX0_init 17 = .ok (.putfield 14, 3) := by decide +kernel
theorem dX0_init_20 : decode cX0_init 20 = .ok (.aload_n 0, 1) := by decide +kernel
theorem dX0_init_21 : decode cX0_init 21 = .ok (.new 9, 3) := by decide +kernel
theorem dX0_init_24 : decode cX0_init 24 = .ok (.dup, 1) := by decide +kernel
theorem dX0_init_25 : decode cX0_init 25 = .ok (.bipush 32, 2) := by decide +kernel
theorem dX0_init_27 : decode cX0_init 27 = .ok (.iconst 0, 1) := by decide +kernel
theorem dX0_init_28 : decode cX0_init 28 = .ok (.invokespecial 11, 3) := by decide +kernel
theorem dX0_init_31 : decode cX0_init 31 = .ok (.putfield 20, 3) := by decide +kernel
theorem dX0_init_34 : decode cX0_init 34 = .ok (.aload_n 0, 1) := by decide +kernel
theorem dX0_init_35 : decode cX0_init 35 = .ok (.new 9, 3) := by decide +kernel
theorem dX0_init_38 : decode cX0_init 38 = .ok (.dup, 1) := by decide +kernel
theorem dX0_init_39 : decode cX0_init 39 = .ok (.bipush 8, 2) := by decide +kernel
theorem dX0_init_41 : decode cX0_init 41 = .ok (.iconst 0, 1) := by decide +kernel
theorem dX0_init_42 : decode cX0_init 42 = .ok (.invokespecial 11, 3) := by decide +kernel
theorem dX0_init_45 : decode cX0_init 45 = .ok (.putfield 23, 3) := by decide +kernel
theorem dX0_init_48 : decode cX0_init 48 = .ok (.aload_n 0, 1) := by decide +kernel
theorem dX0_init_49 : decode cX0_init 49 = .ok (.new 9, 3) := by decide +kernel
theorem dX0_init_52 : decode cX0_init 52 = .ok (.dup, 1) := by decide +kernel
theorem dX0_init_53 : decode cX0_init 53 = .ok (.bipush 8, 2) := by decide +kernel
theorem dX0_init_55 : decode cX0_init 55 = .ok (.iconst 0, 1) := by decide +kernel
theorem dX0_init_56 : decode cX0_init 56 = .ok (.invokespecial 11, 3) := by decide +kernel
theorem dX0_init_59 : decode cX0_init 59 = .ok (.putfield 26, 3) := by decide +kernel
theorem dX0_init_62 : decode cX0_init 62 = .ok (.aload_n 0, 1) := by decide +kernel
theorem dX0_init_63 : decode cX0_init 63 = .ok (.new 9, 3) := by decide +kernel
theorem dX0_init_66 : decode cX0_init 66 = .ok (.dup, 1) := by decide +kernel
theorem dX0_init_67 : decode cX0_init 67 = .ok (.bipush 8, 2) := by decide +kernel
theorem dX0_init_69 : decode cX0_init 69 = .ok (.iconst 0, 1) := by decide +kernel
theorem dX0_init_70 : decode cX0_init 70 = .ok (.invokespecial 11, 3) := by decide +kernel
theorem dX0_init_73 : decode cX0_init 73 = .ok (.putfield 29, 3) := by decide +kernel
theorem dX0_init_76 : decode cX0_init 76 = .ok (.aload_n 0, 1) := by decide +kernel
theorem dX0_init_77 : decode cX0_init 77 = .ok (.new 9, 3) := by decide +kernel
theorem dX0_init_80 : decode cX0_init 80 = .ok (.dup, 1) := by decide +kernel
theorem dX0_init_81 : decode cX0_init 81 = .ok (.bipush 8, 2) := by decide +kernel
theorem dX0_init_83 : decode cX0_init 83 = .ok (.iconst 0, 1) := by decide +kernel
theorem dX0_init_84 : decode cX0_init 84 = .ok (.invokespecial 11, 3) := by decide +kernel
theorem dX0_init_87 : decode cX0_init 87 = .ok (.putfield 32, 3) := by decide +kernel
theorem dX0_init_90 : decode cX0_init 90 = .ok (.aload_n 0, 1) := by decide +kernel
theorem dX0_init_91 : decode cX0_init 91 = .ok (.new 9, 3) := by decide +kernel
theorem dX0_init_94 : decode cX0_init 94 = .ok (.dup, 1) := by decide +kernel
theorem dX0_init_95 : decode cX0_init 95 = .ok (.bipush 8, 2) := by decide +kernel
theorem dX0_init_97 : decode cX0_init 97 = .ok (.iconst 0, 1) := by decide +kernel
theorem dX0_init_98 : decode cX0_init 98 = .ok (.invokespecial 11, 3) := by decide +kernel
theorem dX0_init_101 : decode cX0_init 101 = .ok (.putfield 35, 3) := by decide +kernel
theorem dX0_init_104 : decode cX0_init 104 = .ok (.return_, 1) := by decide +kernel
theorem dX0_placeOf_0 : decode cX0_placeOf 0 = .ok (.iload_n 0, 1) := by decide +kernel
theorem dX0_placeOf_1 : decode cX0_placeOf 1 = .ok (.iconst 4, 1) := by decide +kernel
theorem dX0_placeOf_2 : decode cX0_placeOf 2 = .ok (.imul, 1) := by decide +kernel
theorem dX0_placeOf_3 : decode cX0_placeOf 3 = .ok (.iload_n 1, 1) := by decide +kernel
theorem dX0_placeOf_4 : decode cX0_placeOf 4 = .ok (.iadd, 1) := by decide +kernel
theorem dX0_placeOf_5 : decode cX0_placeOf 5 = .ok (.ireturn, 1) := by decide +kernel
theorem dX0_addLanded_0 : decode cX0_addLanded 0 = .ok (.aload_n 0, 1) := by decide +kernel
theorem dX0_addLanded_1 : decode cX0_addLanded 1 = .ok (.getfield 23, 3) := by decide +kernel
theorem dX0_addLanded_4 : decode cX0_addLanded 4 = .ok (.iload_n 1, 1) := by decide +kernel
theorem dX0_addLanded_5 : decode cX0_addLanded 5 = .ok (.iload_n 3, 1) := by decide +kernel
theorem dX0_addLanded_6 : decode cX0_addLanded 6 = .ok (.invokevirtual 38, 3) := by decide +kernel
theorem dX0_addLanded_9 : decode cX0_addLanded 9 = .ok (.aload_n 0, 1) := by decide +kernel
theorem dX0_addLanded_10 : decode cX0_addLanded 10 = .ok (.getfield 20, 3) := by decide +kernel
theorem dX0_addLanded_13 : decode cX0_addLanded 13 = .ok (.iload_n 1, 1) := by decide +kernel
theorem dX0_addLanded_14 : decode cX0_addLanded 14 = .ok (.iload_n 2, 1) := by decide +kernel
theorem dX0_addLanded_15 : decode cX0_addLanded 15 = .ok (.invokestatic 41, 3) := by decide +kernel
theorem dX0_addLanded_18 : decode cX0_addLanded 18 = .ok (.iload_n 3, 1) := by decide +kernel
theorem dX0_addLanded_19 : decode cX0_addLanded 19 = .ok (.invokevirtual 38, 3) := by decide +kernel
theorem dX0_addLanded_22 : decode cX0_addLanded 22 = .ok (.return_, 1) := by decide +kernel
theorem dX0_isAboveQuota_0 : decode cX0_isAboveQuota 0 = .ok (.aload_n 0, 1) := by decide +kernel
theorem dX0_isAboveQuota_1 : decode cX0_isAboveQuota 1 = .ok (.getfield 14, 3) := by decide +kernel
theorem dX0_isAboveQuota_4 : decode cX0_isAboveQuota 4 = .ok (.iload_n 1, 1) := by decide +kernel
theorem dX0_isAboveQuota_5 : decode cX0_isAboveQuota 5 = .ok (.iload_n 2, 1) := by decide +kernel
theorem dX0_isAboveQuota_6 : decode cX0_isAboveQuota 6 = .ok (.invokestatic 41, 3) := by decide +kernel
theorem dX0_isAboveQuota_9 : decode cX0_isAboveQuota 9 = .ok (.invokevirtual 45, 3) := by decide +kernel
theorem dX0_isAboveQuota_12 : decode cX0_isAboveQuota 12 = .ok (.istore_n 3, 1) := by decide +kernel
theorem dX0_isAboveQuota_13 : decode cX0_isAboveQuota 13 = .ok (.aload_n 0, 1) := by decide +kernel
theorem dX0_isAboveQuota_14 : decode cX0_isAboveQuota 14 = .ok (.getfield 20, 3) := by decide +kernel
theorem dX0_isAboveQuota_17 : decode cX0_isAboveQuota 17 = .ok (.iload_n 1, 1) := by decide +kernel
theorem dX0_isAboveQuota_18 : decode cX0_isAboveQuota 18 = .ok (.iload_n 2, 1) := by decide +kernel
theorem dX0_isAboveQuota_19 : decode cX0_isAboveQuota 19 = .ok (.invokestatic 41, 3) := by decide +kernel
theorem dX0_isAboveQuota_22 : decode cX0_isAboveQuota 22 = .ok (.invokevirtual 45, 3) := by decide +kernel
theorem dX0_isAboveQuota_25 : decode cX0_isAboveQuota 25 = .ok (.iload_n 3, 1) := by decide +kernel
theorem dX0_isAboveQuota_26 : decode cX0_isAboveQuota 26 = .ok (.iload_n 3, 1) := by decide +kernel
theorem dX0_isAboveQuota_27 : decode cX0_isAboveQuota 27 = .ok (.bipush 10, 2) := by decide +kernel
theorem dX0_isAboveQuota_29 : decode cX0_isAboveQuota 29 = .ok (.idiv, 1) := by decide +kernel
theorem dX0_isAboveQuota_30 : decode cX0_isAboveQuota 30 = .ok (.iadd, 1) := by decide +kernel
theorem dX0_isAboveQuota_31 : decode cX0_isAboveQuota 31 = .ok (.if_icmp .le 7, 3) := by decide +kernel
theorem dX0_isAboveQuota_34 : decode cX0_isAboveQuota 34 = .ok (.iconst 1, 1) := by decide +kernel
theorem dX0_isAboveQuota_35 : decode cX0_isAboveQuota 35 = .ok (.goto 4, 3) := by decide +kernel
theorem dX0_isAboveQuota_38 : decode cX0_isAboveQuota 38 = .ok (.iconst 0, 1) := by decide +kernel
theorem dX0_isAboveQuota_39 : decode cX0_isAboveQuota 39 = .ok (.ireturn, 1) := by decide +kernel
theorem dX0_waits_0 : decode cX0_waits 0 = .ok (.aload_n 0, 1) := by decide +kernel
theorem dX0_waits_1 : decode cX0_waits 1 = .ok (.getfield 35, 3) := by decide +kernel
theorem dX0_waits_4 : decode cX0_waits 4 = .ok (.iload_n 1, 1) := by decide +kernel
theorem dX0_waits_5 : decode cX0_waits 5 = .ok (.invokevirtual 45, 3) := by decide +kernel
theorem dX0_waits_8 : decode cX0_waits 8 = .ok (.ifCond .le 28, 3) := by decide +kernel
theorem dX0_waits_11 : decode cX0_waits 11 = .ok (.aload_n 0, 1) := by decide +kernel
theorem dX0_waits_12 : decode cX0_waits 12 = .ok (.getfield 29, 3) := by decide +kernel
theorem dX0_waits_15 : decode cX0_waits 15 = .ok (.iload_n 1, 1) := by decide +kernel
theorem dX0_waits_16 : decode cX0_waits 16 = .ok (.invokevirtual 45, 3) := by decide +kernel
theorem dX0_waits_19 : decode cX0_waits 19 = .ok (.iconst 1, 1) := by decide +kernel
theorem dX0_waits_20 : decode cX0_waits 20 = .ok (.if_icmp .ne 7, 3) := by decide +kernel
theorem dX0_waits_23 : decode cX0_waits 23 = .ok (.iconst 1, 1) := by decide +kernel
theorem dX0_waits_24 : decode cX0_waits 24 = .ok (.goto 4, 3) := by decide +kernel
theorem dX0_waits_27 : decode cX0_waits 27 = .ok (.iconst 0, 1) := by decide +kernel
theorem dX0_waits_28 : decode cX0_waits 28 = .ok (.iload_n 2, 1) := by decide +kernel
theorem dX0_waits_29 : decode cX0_waits 29 = .ok (.if_icmp .ne 7, 3) := by decide +kernel
theorem dX0_waits_32 : decode cX0_waits 32 = .ok (.iconst 1, 1) := by decide +kernel
theorem dX0_waits_33 : decode cX0_waits 33 = .ok (.goto 4, 3) := by decide +kernel
theorem dX0_waits_36 : decode cX0_waits 36 = .ok (.iconst 0, 1) := by decide +kernel
theorem dX0_waits_37 : decode cX0_waits 37 = .ok (.ireturn, 1) := by decide +kernel
theorem dX0_countWaiting_0 : decode cX0_countWaiting 0 = .ok (.iconst 0, 1) := by decide +kernel
theorem dX0_countWaiting_1 : decode cX0_countWaiting 1 = .ok (.istore_n 2, 1) := by decide +kernel
theorem dX0_countWaiting_2 : decode cX0_countWaiting 2 = .ok (.iconst 0, 1) := by decide +kernel
theorem dX0_countWaiting_3 : decode cX0_countWaiting 3 = .ok (.istore_n 3, 1) := by decide +kernel
theorem dX0_countWaiting_4 : decode cX0_countWaiting 4 = .ok (.iload_n 3, 1) := by decide +kernel
theorem dX0_countWaiting_5 : decode cX0_countWaiting 5 = .ok (.bipush 8, 2) := by decide +kernel
theorem dX0_countWaiting_7 : decode cX0_countWaiting 7 = .ok (.if_icmp .ge 21, 3) := by decide +kernel
theorem dX0_countWaiting_10 : decode cX0_countWaiting 10 = .ok (.aload_n 0, 1) := by decide +kernel
theorem dX0_countWaiting_11 : decode cX0_countWaiting 11 = .ok (.iload_n 3, 1) := by decide +kernel
theorem dX0_countWaiting_12 : decode cX0_countWaiting 12 = .ok (.iload_n 1, 1) := by decide +kernel
theorem dX0_countWaiting_13 : decode cX0_countWaiting 13 = .ok (.invokevirtual 49, 3) := by decide +kernel
theorem dX0_countWaiting_16 : decode cX0_countWaiting 16 = .ok (.ifCond .eq 6, 3) := by decide +kernel
theorem dX0_countWaiting_19 : decode cX0_countWaiting 19 = .ok (.iinc 2 1, 3) := by decide +kernel
theorem dX0_countWaiting_22 : decode cX0_countWaiting 22 = .ok (.iinc 3 1, 3) := by decide +kernel
theorem dX0_countWaiting_25 : decode cX0_countWaiting 25 = .ok (.goto (-21), 3) := by decide +kernel
theorem dX0_countWaiting_28 : decode cX0_countWaiting 28 = .ok (.iload_n 2, 1) := by decide +kernel
theorem dX0_countWaiting_29 : decode cX0_countWaiting 29 = .ok (.ireturn, 1) := by decide +kernel
theorem dX0_findWaiting_0 : decode cX0_findWaiting 0 = .ok (.iload_n 2, 1) := by decide +kernel
theorem dX0_findWaiting_1 : decode cX0_findWaiting 1 = .ok (.istore_n 3, 1) := by decide +kernel
theorem dX0_findWaiting_2 : decode cX0_findWaiting 2 = .ok (.iconst 0, 1) := by decide +kernel
theorem dX0_findWaiting_3 : decode cX0_findWaiting 3 = .ok (.istore 4, 2) := by decide +kernel
theorem dX0_findWaiting_5 : decode cX0_findWaiting 5 = .ok (.iload 4, 2) := by decide +kernel
theorem dX0_findWaiting_7 : decode cX0_findWaiting 7 = .ok (.bipush 8, 2) := by decide +kernel
theorem dX0_findWaiting_9 : decode cX0_findWaiting 9 = .ok (.if_icmp .ge 32, 3) := by decide +kernel
theorem dX0_findWaiting_12 : decode cX0_findWaiting 12 = .ok (.aload_n 0, 1) := by decide +kernel
theorem dX0_findWaiting_13 : decode cX0_findWaiting 13 = .ok (.iload 4, 2) := by decide +kernel
theorem dX0_findWaiting_15 : decode cX0_findWaiting 15 = .ok (.iload_n 1, 1) := by decide +kernel
theorem dX0_findWaiting_16 : decode cX0_findWaiting 16 = .ok (.invokevirtual 49, 3) := by decide +kernel
theorem dX0_findWaiting_19 : decode cX0_findWaiting 19 = .ok (.ifCond .ne 6, 3) := by decide +kernel
theorem dX0_findWaiting_22 : decode cX0_findWaiting 22 = .ok (.goto 13, 3) := by decide +kernel
theorem dX0_findWaiting_25 : decode cX0_findWaiting 25 = .ok (.iload_n 3, 1) := by decide +kernel
theorem dX0_findWaiting_26 : decode cX0_findWaiting 26 = .ok (.ifCond .ne 6, 3) := by decide +kernel
theorem dX0_findWaiting_29 : decode cX0_findWaiting 29 = .ok (.iload 4, 2) := by decide +kernel
theorem dX0_findWaiting_31 : decode cX0_findWaiting 31 = .ok (.ireturn, 1) := by decide +kernel
theorem dX0_findWaiting_32 : decode cX0_findWaiting 32 = .ok (.iinc 3 (-1), 3) := by decide +kernel
theorem dX0_findWaiting_35 : decode cX0_findWaiting 35 = .ok (.iinc 4 1, 3) := by decide +kernel
theorem dX0_findWaiting_38 : decode cX0_findWaiting 38 = .ok (.goto (-33), 3) := by decide +kernel
theorem dX0_findWaiting_41 : decode cX0_findWaiting 41 = .ok (.iconst (-1), 1) := by decide +kernel
theorem dX0_findWaiting_42 : decode cX0_findWaiting 42 = .ok (.ireturn, 1) := by decide +kernel
theorem dX1_init_0 : decode cX1_init 0 = .ok (.aload_n 0, 1) := by decide +kernel
theorem dX1_init_1 : decode cX1_init 1 = .ok (.invokespecial 3, 3) := by decide +kernel
theorem dX1_init_4 : decode cX1_init 4 = .ok (.aload_n 0, 1) := by decide +kernel
theorem dX1_init_5 : decode cX1_init 5 = .ok (.new 9, 3) := by decide +kernel
theorem dX1_init_8 : decode cX1_init 8 = .ok (.dup, 1) := by decide +kernel
theorem dX1_init_9 : decode cX1_init 9 = .ok (.sipush 150, 3) := by decide +kernel
theorem dX1_init_12 : decode cX1_init 12 = .ok (.iconst (-1), 1) := by decide +kernel
theorem dX1_init_13 : decode cX1_init 13 = .ok (.invokespecial 11, 3) := by decide +kernel
theorem dX1_init_16 : decode cX1_init 16 = .ok (.putfield 14, 3) := by decide +kernel
theorem dX1_init_19 : decode cX1_init 19 = .ok (.aload_n 0, 1) := by decide +kernel
theorem dX1_init_20 : decode cX1_init 20 = .ok (.new 9, 3) := by decide +kernel
theorem dX1_init_23 : decode cX1_init 23 = .ok (.dup, 1) := by decide +kernel
theorem dX1_init_24 : decode cX1_init 24 = .ok (.sipush 150, 3) := by decide +kernel
theorem dX1_init_27 : decode cX1_init 27 = .ok (.iconst 0, 1) := by decide +kernel
theorem dX1_init_28 : decode cX1_init 28 = .ok (.invokespecial 11, 3) := by decide +kernel
theorem dX1_init_31 : decode cX1_init 31 = .ok (.putfield 20, 3) := by decide +kernel
theorem dX1_init_34 : decode cX1_init 34 = .ok (.aload_n 0, 1) := by decide +kernel
theorem dX1_init_35 : decode cX1_init 35 = .ok (.new 9, 3) := by decide +kernel
theorem dX1_init_38 : decode cX1_init 38 = .ok (.dup, 1) := by decide +kernel
theorem dX1_init_39 : decode cX1_init 39 = .ok (.sipush 150, 3) := by decide +kernel
theorem dX1_init_42 : decode cX1_init 42 = .ok (.iconst 0, 1) := by decide +kernel
theorem dX1_init_43 : decode cX1_init 43 = .ok (.invokespecial 11, 3) := by decide +kernel
theorem dX1_init_46 : decode cX1_init 46 = .ok (.putfield 23, 3) := by decide +kernel
theorem dX1_init_49 : decode cX1_init 49 = .ok (.aload_n 0, 1) := by decide +kernel
theorem dX1_init_50 : decode cX1_init 50 = .ok (.new 9, 3) := by decide +kernel
theorem dX1_init_53 : decode cX1_init 53 = .ok (.dup, 1) := by decide +kernel
theorem dX1_init_54 : decode cX1_init 54 = .ok (.sipush 150, 3) := by decide +kernel
theorem dX1_init_57 : decode cX1_init 57 = .ok (.iconst 0, 1) := by decide +kernel
theorem dX1_init_58 : decode cX1_init 58 = .ok (.invokespecial 11, 3) := by decide +kernel
theorem dX1_init_61 : decode cX1_init 61 = .ok (.putfield 26, 3) := by decide +kernel
theorem dX1_init_64 : decode cX1_init 64 = .ok (.aload_n 0, 1) := by decide +kernel
theorem dX1_init_65 : decode cX1_init 65 = .ok (.new 9, 3) := by decide +kernel
theorem dX1_init_68 : decode cX1_init 68 = .ok (.dup, 1) := by decide +kernel
theorem dX1_init_69 : decode cX1_init 69 = .ok (.sipush 150, 3) := by decide +kernel
theorem dX1_init_72 : decode cX1_init 72 = .ok (.iconst 0, 1) := by decide +kernel
theorem dX1_init_73 : decode cX1_init 73 = .ok (.invokespecial 11, 3) := by decide +kernel
theorem dX1_init_76 : decode cX1_init 76 = .ok (.putfield 29, 3) := by decide +kernel
theorem dX1_init_79 : decode cX1_init 79 = .ok (.aload_n 0, 1) := by decide +kernel
theorem dX1_init_80 : decode cX1_init 80 = .ok (.new 9, 3) := by decide +kernel
theorem dX1_init_83 : decode cX1_init 83 = .ok (.dup, 1) := by decide +kernel
theorem dX1_init_84 : decode cX1_init 84 = .ok (.sipush 150, 3) := by decide +kernel
theorem dX1_init_87 : decode cX1_init 87 = .ok (.iconst (-1), 1) := by decide +kernel
theorem dX1_init_88 : decode cX1_init 88 = .ok (.invokespecial 11, 3) := by decide +kernel
theorem dX1_init_91 : decode cX1_init 91 = .ok (.putfield 32, 3) := by decide +kernel
theorem dX1_init_94 : decode cX1_init 94 = .ok (.aload_n 0, 1) := by decide +kernel
theorem dX1_init_95 : decode cX1_init 95 = .ok (.new 9, 3) := by decide +kernel
theorem dX1_init_98 : decode cX1_init 98 = .ok (.dup, 1) := by decide +kernel
theorem dX1_init_99 : decode cX1_init 99 = .ok (.sipush 150, 3) := by decide +kernel
theorem dX1_init_102 : decode cX1_init 102 = .ok (.iconst (-1), 1) := by decide +kernel
theorem dX1_init_103 : decode cX1_init 103 = .ok (.invokespecial 11, 3) := by decide +kernel
theorem dX1_init_106 : decode cX1_init 106 = .ok (.putfield 35, 3) := by decide +kernel
theorem dX1_init_109 : decode cX1_init 109 = .ok (.aload_n 0, 1) := by decide +kernel
theorem dX1_init_110 : decode cX1_init 110 = .ok (.new 9, 3) := by decide +kernel
theorem dX1_init_113 : decode cX1_init 113 = .ok (.dup, 1) := by decide +kernel
theorem dX1_init_114 : decode cX1_init 114 = .ok (.sipush 150, 3) := by decide +kernel
theorem dX1_init_117 : decode cX1_init 117 = .ok (.iconst (-1), 1) := by decide +kernel
theorem dX1_init_118 : decode cX1_init 118 = .ok (.invokespecial 11, 3) := by decide +kernel
theorem dX1_init_121 : decode cX1_init 121 = .ok (.putfield 38, 3) := by decide +kernel
theorem dX1_init_124 : decode cX1_init 124 = .ok (.aload_n 0, 1) := by decide +kernel
theorem dX1_init_125 : decode cX1_init 125 = .ok (.new 9, 3) := by decide +kernel
theorem dX1_init_128 : decode cX1_init 128 = .ok (.dup, 1) := by decide +kernel
theorem dX1_init_129 : decode cX1_init 129 = .ok (.sipush 150, 3) := by decide +kernel
theorem dX1_init_132 : decode cX1_init 132 = .ok (.iconst (-1), 1) := by decide +kernel
theorem dX1_init_133 : decode cX1_init 133 = .ok (.invokespecial 11, 3) := by decide +kernel
theorem dX1_init_136 : decode cX1_init 136 = .ok (.putfield 41, 3) := by decide +kernel
theorem dX1_init_139 : decode cX1_init 139 = .ok (.aload_n 0, 1) := by decide +kernel
theorem dX1_init_140 : decode cX1_init 140 = .ok (.new 9, 3) := by decide +kernel
theorem dX1_init_143 : decode cX1_init 143 = .ok (.dup, 1) := by decide +kernel
theorem dX1_init_144 : decode cX1_init 144 = .ok (.sipush 150, 3) := by decide +kernel
theorem dX1_init_147 : decode cX1_init 147 = .ok (.iconst (-1), 1) := by decide +kernel
theorem dX1_init_148 : decode cX1_init 148 = .ok (.invokespecial 11, 3) := by decide +kernel
theorem dX1_init_151 : decode cX1_init 151 = .ok (.putfield 44, 3) := by decide +kernel
theorem dX1_init_154 : decode cX1_init 154 = .ok (.aload_n 0, 1) := by decide +kernel
theorem dX1_init_155 : decode cX1_init 155 = .ok (.new 9, 3) := by decide +kernel
theorem dX1_init_158 : decode cX1_init 158 = .ok (.dup, 1) := by decide +kernel
theorem dX1_init_159 : decode cX1_init 159 = .ok (.sipush 150, 3) := by decide +kernel
theorem dX1_init_162 : decode cX1_init 162 = .ok (.iconst 0, 1) := by decide +kernel
theorem dX1_init_163 : decode cX1_init 163 = .ok (.invokespecial 11, 3) := by decide +kernel
theorem dX1_init_166 : decode cX1_init 166 = .ok (.putfield 47, 3) := by decide +kernel
theorem dX1_init_169 : decode cX1_init 169 = .ok (.aload_n 0, 1) := by decide +kernel
theorem dX1_init_170 : decode cX1_init 170 = .ok (.new 9, 3) := by decide +kernel
theorem dX1_init_173 : decode cX1_init 173 = .ok (.dup, 1) := by decide +kernel
theorem dX1_init_174 : decode cX1_init 174 = .ok (.sipush 150, 3) := by decide +kernel
theorem dX1_init_177 : decode cX1_init 177 = .ok (.iconst 0, 1) := by decide +kernel
theorem dX1_init_178 : decode cX1_init 178 = .ok (.invokespecial 11, 3) := by decide +kernel
theorem dX1_init_181 : decode cX1_init 181 = .ok (.putfield 50, 3) := by decide +kernel
theorem dX1_init_184 : decode cX1_init 184 = .ok (.aload_n 0, 1) := by decide +kernel
theorem dX1_init_185 : decode cX1_init 185 = .ok (.new 9, 3) := by decide +kernel
theorem dX1_init_188 : decode cX1_init 188 = .ok (.dup, 1) := by decide +kernel
theorem dX1_init_189 : decode cX1_init 189 = .ok (.bipush 6, 2) := by decide +kernel
theorem dX1_init_191 : decode cX1_init 191 = .ok (.iconst 0, 1) := by decide +kernel
theorem dX1_init_192 : decode cX1_init 192 = .ok (.invokespecial 11, 3) := by decide +kernel
theorem dX1_init_195 : decode cX1_init 195 = .ok (.putfield 53, 3) := by decide +kernel
theorem dX1_init_198 : decode cX1_init 198 = .ok (.aload_n 0, 1) := by decide +kernel
theorem dX1_init_199 : decode cX1_init 199 = .ok (.iconst 0, 1) := by decide +kernel
theorem dX1_init_200 : decode cX1_init 200 = .ok (.putfield 56, 3) := by decide +kernel
theorem dX1_init_203 : decode cX1_init 203 = .ok (.return_, 1) := by decide +kernel
theorem dX1_rankOf_0 : decode cX1_rankOf 0 = .ok (.iload_n 0, 1) := by decide +kernel
theorem dX1_rankOf_1 : decode cX1_rankOf 1 = .ok (.iconst 3, 1) := by decide +kernel
theorem dX1_rankOf_2 : decode cX1_rankOf 2 = .ok (.imul, 1) := by decide +kernel
theorem dX1_rankOf_3 : decode cX1_rankOf 3 = .ok (.iload_n 1, 1) := by decide +kernel
theorem dX1_rankOf_4 : decode cX1_rankOf 4 = .ok (.iadd, 1) := by decide +kernel
theorem dX1_rankOf_5 : decode cX1_rankOf 5 = .ok (.bipush 9, 2) := by decide +kernel
theorem dX1_rankOf_7 : decode cX1_rankOf 7 = .ok (.imul, 1) := by decide +kernel
theorem dX1_rankOf_8 : decode cX1_rankOf 8 = .ok (.bipush 9, 2) := by decide +kernel
theorem dX1_rankOf_10 : decode cX1_rankOf 10 = .ok (.iadd, 1) := by decide +kernel
theorem dX1_rankOf_11 : decode cX1_rankOf 11 = .ok (.iload_n 2, 1) := by decide +kernel
theorem dX1_rankOf_12 : decode cX1_rankOf 12 = .ok (.isub, 1) := by decide +kernel
theorem dX1_rankOf_13 : decode cX1_rankOf 13 = .ok (.ireturn, 1) := by decide +kernel
theorem dX1_kindOf_0 : decode cX1_kindOf 0 = .ok (.iload_n 0, 1) := by decide +kernel
theorem dX1_kindOf_1 : decode cX1_kindOf 1 = .ok (.bipush 27, 2) := by decide +kernel
theorem dX1_kindOf_3 : decode cX1_kindOf 3 = .ok (.idiv, 1) := by decide +kernel
theorem dX1_kindOf_4 : decode cX1_kindOf 4 = .ok (.ireturn, 1) := by decide +kernel
theorem dX1_sizeOf_0 : decode cX1_sizeOf 0 = .ok (.iload_n 0, 1) := by decide +kernel
theorem dX1_sizeOf_1 : decode cX1_sizeOf 1 = .ok (.bipush 9, 2) := by decide +kernel
theorem dX1_sizeOf_3 : decode cX1_sizeOf 3 = .ok (.idiv, 1) := by decide +kernel
theorem dX1_sizeOf_4 : decode cX1_sizeOf 4 = .ok (.iconst 3, 1) := by decide +kernel
theorem dX1_sizeOf_5 : decode cX1_sizeOf 5 = .ok (.irem, 1) := by decide +kernel
theorem dX1_sizeOf_6 : decode cX1_sizeOf 6 = .ok (.ireturn, 1) := by decide +kernel
theorem dX1_freshOf_0 : decode cX1_freshOf 0 = .ok (.bipush 9, 2) := by decide +kernel
theorem dX1_freshOf_2 : decode cX1_freshOf 2 = .ok (.iload_n 0, 1) := by decide +kernel
theorem dX1_freshOf_3 : decode cX1_freshOf 3 = .ok (.bipush 9, 2) := by decide +kernel
theorem dX1_freshOf_5 : decode cX1_freshOf 5 = .ok (.irem, 1) := by decide +kernel
theorem dX1_freshOf_6 : decode cX1_freshOf 6 = .ok (.isub, 1) := by decide +kernel
theorem dX1_freshOf_7 : decode cX1_freshOf 7 = .ok (.ireturn, 1) := by decide +kernel
theorem dX1_sumOf_0 : decode cX1_sumOf 0 = .ok (.iload_n 0, 1) := by decide +kernel
theorem dX1_sumOf_1 : decode cX1_sumOf 1 = .ok (.tableswitch 51 1 7 #[43, 51, 45, 45, 47, 51, 49], 43) := by decide +kernel
theorem dX1_sumOf_44 : decode cX1_sumOf 44 = .ok (.iconst 4, 1) := by decide +kernel
theorem dX1_sumOf_45 : decode cX1_sumOf 45 = .ok (.ireturn, 1) := by decide +kernel
theorem dX1_sumOf_46 : decode cX1_sumOf 46 = .ok (.iconst 1, 1) := by decide +kernel
theorem dX1_sumOf_47 : decode cX1_sumOf 47 = .ok (.ireturn, 1) := by decide +kernel
theorem dX1_sumOf_48 : decode cX1_sumOf 48 = .ok (.iconst 2, 1) := by decide +kernel
theorem dX1_sumOf_49 : decode cX1_sumOf 49 = .ok (.ireturn, 1) := by decide +kernel
theorem dX1_sumOf_50 : decode cX1_sumOf 50 = .ok (.iconst 3, 1) := by decide +kernel
theorem dX1_sumOf_51 : decode cX1_sumOf 51 = .ok (.ireturn, 1) := by decide +kernel
theorem dX1_sumOf_52 : decode cX1_sumOf 52 = .ok (.iconst 5, 1) := by decide +kernel
theorem dX1_sumOf_53 : decode cX1_sumOf 53 = .ok (.ireturn, 1) := by decide +kernel
theorem dX1_add_0 : decode cX1_add 0 = .ok (.aload_n 0, 1) := by decide +kernel
theorem dX1_add_1 : decode cX1_add 1 = .ok (.getfield 56, 3) := by decide +kernel
theorem dX1_add_4 : decode cX1_add 4 = .ok (.istore 6, 2) := by decide +kernel
theorem dX1_add_6 : decode cX1_add 6 = .ok (.aload_n 0, 1) := by decide +kernel
theorem dX1_add_7 : decode cX1_add 7 = .ok (.dup, 1) := by decide +kernel
theorem dX1_add_8 : decode cX1_add 8 = .ok (.getfield 56, 3) := by decide +kernel
theorem dX1_add_11 : decode cX1_add 11 = .ok (.iconst 1, 1) := by decide +kernel
theorem dX1_add_12 : decode cX1_add 12 = .ok (.iadd, 1) := by decide +kernel
theorem dX1_add_13 : decode cX1_add 13 = .ok (.putfield 56, 3) := by decide +kernel
theorem dX1_add_16 : decode cX1_add 16 = .ok (.aload_n 0, 1) := by decide +kernel
theorem dX1_add_17 : decode cX1_add 17 = .ok (.getfield 14, 3) := by decide +kernel
theorem dX1_add_20 : decode cX1_add 20 = .ok (.iload 6, 2) := by decide +kernel
theorem dX1_add_22 : decode cX1_add 22 = .ok (.iload_n 1, 1) := by decide +kernel
theorem dX1_add_23 : decode cX1_add 23 = .ok (.invokevirtual 60, 3) := by decide +kernel
theorem dX1_add_26 : decode cX1_add 26 = .ok (.aload_n 0, 1) := by decide +kernel
theorem dX1_add_27 : decode cX1_add 27 = .ok (.getfield 20, 3) := by decide +kernel
theorem dX1_add_30 : decode cX1_add 30 = .ok (.iload 6, 2) := by decide +kernel
theorem dX1_add_32 : decode cX1_add 32 = .ok (.iload_n 2, 1) := by decide +kernel
theorem dX1_add_33 : decode cX1_add 33 = .ok (.invokevirtual 60, 3) := by decide +kernel
theorem dX1_add_36 : decode cX1_add 36 = .ok (.aload_n 0, 1) := by decide +kernel
theorem dX1_add_37 : decode cX1_add 37 = .ok (.getfield 23, 3) := by decide +kernel
theorem dX1_add_40 : decode cX1_add 40 = .ok (.iload 6, 2) := by decide +kernel
theorem dX1_add_42 : decode cX1_add 42 = .ok (.iload_n 3, 1) := by decide +kernel
theorem dX1_add_43 : decode cX1_add 43 = .ok (.invokevirtual 60, 3) := by decide +kernel
theorem dX1_add_46 : decode cX1_add 46 = .ok (.aload_n 0, 1) := by decide +kernel
theorem dX1_add_47 : decode cX1_add 47 = .ok (.getfield 26, 3) := by decide +kernel
theorem dX1_add_50 : decode cX1_add 50 = .ok (.iload 6, 2) := by decide +kernel
theorem dX1_add_52 : decode cX1_add 52 = .ok (.iload 4, 2) := by decide +kernel
theorem dX1_add_54 : decode cX1_add 54 = .ok (.invokevirtual 60, 3) := by decide +kernel
theorem dX1_add_57 : decode cX1_add 57 = .ok (.aload_n 0, 1) := by decide +kernel
theorem dX1_add_58 : decode cX1_add 58 = .ok (.getfield 29, 3) := by decide +kernel
theorem dX1_add_61 : decode cX1_add 61 = .ok (.iload 6, 2) := by decide +kernel
theorem dX1_add_63 : decode cX1_add 63 = .ok (.iload 5, 2) := by decide +kernel
theorem dX1_add_65 : decode cX1_add 65 = .ok (.invokevirtual 60, 3) := by decide +kernel
theorem dX1_add_68 : decode cX1_add 68 = .ok (.aload_n 0, 1) := by decide +kernel
theorem dX1_add_69 : decode cX1_add 69 = .ok (.getfield 53, 3) := by decide +kernel
theorem dX1_add_72 : decode cX1_add 72 = .ok (.iconst 0, 1) := by decide +kernel
theorem dX1_add_73 : decode cX1_add 73 = .ok (.iload_n 3, 1) := by decide +kernel
theorem dX1_add_74 : decode cX1_add 74 = .ok (.invokevirtual 63, 3) := by decide +kernel
theorem dX1_add_77 : decode cX1_add 77 = .ok (.aload_n 0, 1) := by decide +kernel
theorem dX1_add_78 : decode cX1_add 78 = .ok (.getfield 53, 3) := by decide +kernel
theorem dX1_add_81 : decode cX1_add 81 = .ok (.iload 5, 2) := by decide +kernel
theorem dX1_add_83 : decode cX1_add 83 = .ok (.invokestatic 66, 3) := by decide +kernel
theorem dX1_add_86 : decode cX1_add 86 = .ok (.iload_n 3, 1) := by decide +kernel
theorem dX1_add_87 : decode cX1_add 87 = .ok (.invokevirtual 63, 3) := by decide +kernel
theorem dX1_add_90 : decode cX1_add 90 = .ok (.iload 6, 2) := by decide +kernel
theorem dX1_add_92 : decode cX1_add 92 = .ok (.ireturn, 1) := by decide +kernel
theorem dX1_isWaiting_0 : decode cX1_isWaiting 0 = .ok (.aload_n 0, 1) := by decide +kernel
theorem dX1_isWaiting_1 : decode cX1_isWaiting 1 = .ok (.getfield 29, 3) := by decide +kernel
theorem dX1_isWaiting_4 : decode cX1_isWaiting 4 = .ok (.iload_n 1, 1) := by decide +kernel
theorem dX1_isWaiting_5 : decode cX1_isWaiting 5 = .ok (.invokevirtual 70, 3) := by decide +kernel
theorem dX1_isWaiting_8 : decode cX1_isWaiting 8 = .ok (.ifCond .eq 16, 3) := by decide +kernel
theorem dX1_isWaiting_11 : decode cX1_isWaiting 11 = .ok (.aload_n 0, 1) := by decide +kernel
theorem dX1_isWaiting_12 : decode cX1_isWaiting 12 = .ok (.getfield 29, 3) := by decide +kernel
theorem dX1_isWaiting_15 : decode cX1_isWaiting 15 = .ok (.iload_n 1, 1) := by decide +kernel
theorem dX1_isWaiting_16 : decode cX1_isWaiting 16 = .ok (.invokevirtual 70, 3) := by decide +kernel
theorem dX1_isWaiting_19 : decode cX1_isWaiting 19 = .ok (.bipush 6, 2) := by decide +kernel
theorem dX1_isWaiting_21 : decode cX1_isWaiting 21 = .ok (.if_icmp .ne 7, 3) := by decide +kernel
theorem dX1_isWaiting_24 : decode cX1_isWaiting 24 = .ok (.iconst 1, 1) := by decide +kernel
theorem dX1_isWaiting_25 : decode cX1_isWaiting 25 = .ok (.goto 4, 3) := by decide +kernel
theorem dX1_isWaiting_28 : decode cX1_isWaiting 28 = .ok (.iconst 0, 1) := by decide +kernel
theorem dX1_isWaiting_29 : decode cX1_isWaiting 29 = .ok (.ireturn, 1) := by decide +kernel
theorem dX1_countWaiting_0 : decode cX1_countWaiting 0 = .ok (.iconst 0, 1) := by decide +kernel
theorem dX1_countWaiting_1 : decode cX1_countWaiting 1 = .ok (.istore_n 1, 1) := by decide +kernel
theorem dX1_countWaiting_2 : decode cX1_countWaiting 2 = .ok (.iconst 0, 1) := by decide +kernel
theorem dX1_countWaiting_3 : decode cX1_countWaiting 3 = .ok (.istore_n 2, 1) := by decide +kernel
theorem dX1_countWaiting_4 : decode cX1_countWaiting 4 = .ok (.iload_n 2, 1) := by decide +kernel
theorem dX1_countWaiting_5 : decode cX1_countWaiting 5 = .ok (.aload_n 0, 1) := by decide +kernel
theorem dX1_countWaiting_6 : decode cX1_countWaiting 6 = .ok (.getfield 56, 3) := by decide +kernel
theorem dX1_countWaiting_9 : decode cX1_countWaiting 9 = .ok (.if_icmp .ge 20, 3) := by decide +kernel
theorem dX1_countWaiting_12 : decode cX1_countWaiting 12 = .ok (.aload_n 0, 1) := by decide +kernel
theorem dX1_countWaiting_13 : decode cX1_countWaiting 13 = .ok (.iload_n 2, 1) := by decide +kernel
theorem dX1_countWaiting_14 : decode cX1_countWaiting 14 = .ok (.invokevirtual 73, 3) := by decide +kernel
theorem dX1_countWaiting_17 : decode cX1_countWaiting 17 = .ok (.ifCond .eq 6, 3) := by decide +kernel
theorem dX1_countWaiting_20 : decode cX1_countWaiting 20 = .ok (.iinc 1 1, 3) := by decide +kernel
theorem dX1_countWaiting_23 : decode cX1_countWaiting 23 = .ok (.iinc 2 1, 3) := by decide +kernel
theorem dX1_countWaiting_26 : decode cX1_countWaiting 26 = .ok (.goto (-22), 3) := by decide +kernel
theorem dX1_countWaiting_29 : decode cX1_countWaiting 29 = .ok (.iload_n 1, 1) := by decide +kernel
theorem dX1_countWaiting_30 : decode cX1_countWaiting 30 = .ok (.ireturn, 1) := by decide +kernel
theorem dX1_move_0 : decode cX1_move 0 = .ok (.aload_n 0, 1) := by decide +kernel
theorem dX1_move_1 : decode cX1_move 1 = .ok (.getfield 53, 3) := by decide +kernel
theorem dX1_move_4 : decode cX1_move 4 = .ok (.aload_n 0, 1) := by decide +kernel
theorem dX1_move_5 : decode cX1_move 5 = .ok (.getfield 29, 3) := by decide +kernel
theorem dX1_move_8 : decode cX1_move 8 = .ok (.iload_n 1, 1) := by decide +kernel
theorem dX1_move_9 : decode cX1_move 9 = .ok (.invokevirtual 70, 3) := by decide +kernel
theorem dX1_move_12 : decode cX1_move 12 = .ok (.invokestatic 66, 3) := by decide +kernel
theorem dX1_move_15 : decode cX1_move 15 = .ok (.aload_n 0, 1) := by decide +kernel
theorem dX1_move_16 : decode cX1_move 16 = .ok (.getfield 23, 3) := by decide +kernel
theorem dX1_move_19 : decode cX1_move 19 = .ok (.iload_n 1, 1) := by decide +kernel
theorem dX1_move_20 : decode cX1_move 20 = .ok (.invokevirtual 70, 3) := by decide +kernel
theorem dX1_move_23 : decode cX1_move 23 = .ok (.ineg, 1) := by decide +kernel
theorem dX1_move_24 : decode cX1_move 24 = .ok (.invokevirtual 63, 3) := by decide +kernel
theorem dX1_move_27 : decode cX1_move 27 = .ok (.aload_n 0, 1) := by decide +kernel
theorem dX1_move_28 : decode cX1_move 28 = .ok (.getfield 53, 3) := by decide +kernel
theorem dX1_move_31 : decode cX1_move 31 = .ok (.iload_n 2, 1) := by decide +kernel
theorem dX1_move_32 : decode cX1_move 32 = .ok (.invokestatic 66, 3) := by decide +kernel
theorem dX1_move_35 : decode cX1_move 35 = .ok (.aload_n 0, 1) := by decide +kernel
theorem dX1_move_36 : decode cX1_move 36 = .ok (.getfield 23, 3) := by decide +kernel
theorem dX1_move_39 : decode cX1_move 39 = .ok (.iload_n 1, 1) := by decide +kernel
theorem dX1_move_40 : decode cX1_move 40 = .ok (.invokevirtual 70, 3) := by decide +kernel
theorem dX1_move_43 : decode cX1_move 43 = .ok (.invokevirtual 63, 3) := by decide +kernel
theorem dX1_move_46 : decode cX1_move 46 = .ok (.aload_n 0, 1) := by decide +kernel
theorem dX1_move_47 : decode cX1_move 47 = .ok (.getfield 29, 3) := by decide +kernel
theorem dX1_move_50 : decode cX1_move 50 = .ok (.iload_n 1, 1) := by decide +kernel
theorem dX1_move_51 : decode cX1_move 51 = .ok (.iload_n 2, 1) := by decide +kernel
theorem dX1_move_52 : decode cX1_move 52 = .ok (.invokevirtual 60, 3) := by decide +kernel
theorem dX1_move_55 : decode cX1_move 55 = .ok (.return_, 1) := by decide +kernel
theorem dX1_sell_0 : decode cX1_sell 0 = .ok (.aload_n 0, 1) := by decide +kernel
theorem dX1_sell_1 : decode cX1_sell 1 = .ok (.iload_n 1, 1) := by decide +kernel
theorem dX1_sell_2 : decode cX1_sell 2 = .ok (.iconst 3, 1) := by decide +kernel
theorem dX1_sell_3 : decode cX1_sell 3 = .ok (.invokevirtual 77, 3) := by decide +kernel
theorem dX1_sell_6 : decode cX1_sell 6 = .ok (.aload_n 0, 1) := by decide +kernel
theorem dX1_sell_7 : decode cX1_sell 7 = .ok (.getfield 35, 3) := by decide +kernel
theorem dX1_sell_10 : decode cX1_sell 10 = .ok (.iload_n 1, 1) := by decide +kernel
theorem dX1_sell_11 : decode cX1_sell 11 = .ok (.iload_n 2, 1) := by decide +kernel
theorem dX1_sell_12 : decode cX1_sell 12 = .ok (.invokevirtual 60, 3) := by decide +kernel
theorem dX1_sell_15 : decode cX1_sell 15 = .ok (.aload_n 0, 1) := by decide +kernel
theorem dX1_sell_16 : decode cX1_sell 16 = .ok (.getfield 38, 3) := by decide +kernel
theorem dX1_sell_19 : decode cX1_sell 19 = .ok (.iload_n 1, 1) := by decide +kernel
theorem dX1_sell_20 : decode cX1_sell 20 = .ok (.iload_n 3, 1) := by decide +kernel
theorem dX1_sell_21 : decode cX1_sell 21 = .ok (.invokevirtual 60, 3) := by decide +kernel
theorem dX1_sell_24 : decode cX1_sell 24 = .ok (.return_, 1) := by decide +kernel
theorem dX1_canBeCarried_0 : decode cX1_canBeCarried 0 = .ok (.aload_n 0, 1) := by decide +kernel
theorem dX1_canBeCarried_1 : decode cX1_canBeCarried 1 = .ok (.getfield 47, 3) := by decide +kernel
theorem dX1_canBeCarried_4 : decode cX1_canBeCarried 4 = .ok (.iload_n 1, 1) := by decide +kernel
theorem dX1_canBeCarried_5 : decode cX1_canBeCarried 5 = .ok (.invokevirtual 70, 3) := by decide +kernel
theorem dX1_canBeCarried_8 : decode cX1_canBeCarried 8 = .ok (.ifCond .ne 22, 3) := by decide +kernel
theorem dX1_canBeCarried_11 : decode cX1_canBeCarried 11 = .ok (.aload_n 0, 1) := by decide +kernel
theorem dX1_canBeCarried_12 : decode cX1_canBeCarried 12 = .ok (.getfield 20, 3) := by decide +kernel
theorem dX1_canBeCarried_15 : decode cX1_canBeCarried 15 = .ok (.iload_n 1, 1) := by decide +kernel
theorem dX1_canBeCarried_16 : decode cX1_canBeCarried 16 = .ok (.invokevirtual 70, 3) := by decide +kernel
theorem dX1_canBeCarried_19 : decode cX1_canBeCarried 19 = .ok (.invokestatic 80, 3) := by decide +kernel
theorem dX1_canBeCarried_22 : decode cX1_canBeCarried 22 = .ok (.iconst 1, 1) := by decide +kernel
theorem dX1_canBeCarried_23 : decode cX1_canBeCarried 23 = .ok (.if_icmp .le 7, 3) := by decide +kernel
theorem dX1_canBeCarried_26 : decode cX1_canBeCarried 26 = .ok (.iconst 1, 1) := by decide +kernel
theorem dX1_canBeCarried_27 : decode cX1_canBeCarried 27 = .ok (.goto 4, 3) := by decide +kernel
theorem dX1_canBeCarried_30 : decode cX1_canBeCarried 30 = .ok (.iconst 0, 1) := by decide +kernel
theorem dX1_canBeCarried_31 : decode cX1_canBeCarried 31 = .ok (.ireturn, 1) := by decide +kernel
theorem dX1_carry_0 : decode cX1_carry 0 = .ok (.aload_n 0, 1) := by decide +kernel
theorem dX1_carry_1 : decode cX1_carry 1 = .ok (.iload_n 1, 1) := by decide +kernel
theorem dX1_carry_2 : decode cX1_carry 2 = .ok (.bipush 6, 2) := by decide +kernel
theorem dX1_carry_4 : decode cX1_carry 4 = .ok (.invokevirtual 77, 3) := by decide +kernel
theorem dX1_carry_7 : decode cX1_carry 7 = .ok (.aload_n 0, 1) := by decide +kernel
theorem dX1_carry_8 : decode cX1_carry 8 = .ok (.getfield 47, 3) := by decide +kernel
theorem dX1_carry_11 : decode cX1_carry 11 = .ok (.iload_n 1, 1) := by decide +kernel
theorem dX1_carry_12 : decode cX1_carry 12 = .ok (.iconst 1, 1) := by decide +kernel
theorem dX1_carry_13 : decode cX1_carry 13 = .ok (.invokevirtual 60, 3) := by decide +kernel
theorem dX1_carry_16 : decode cX1_carry 16 = .ok (.aload_n 0, 1) := by decide +kernel
theorem dX1_carry_17 : decode cX1_carry 17 = .ok (.getfield 20, 3) := by decide +kernel
theorem dX1_carry_20 : decode cX1_carry 20 = .ok (.iload_n 1, 1) := by decide +kernel
theorem dX1_carry_21 : decode cX1_carry 21 = .ok (.iconst 1, 1) := by decide +kernel
theorem dX1_carry_22 : decode cX1_carry 22 = .ok (.invokevirtual 63, 3) := by decide +kernel
theorem dX1_carry_25 : decode cX1_carry 25 = .ok (.return_, 1) := by decide +kernel
theorem dX1_centsLacking_0 : decode cX1_centsLacking 0 = .ok (.aload_n 0, 1) := by decide +kernel
theorem dX1_centsLacking_1 : decode cX1_centsLacking 1 = .ok (.getfield 23, 3) := by decide +kernel
theorem dX1_centsLacking_4 : decode cX1_centsLacking 4 = .ok (.iload_n 1, 1) := by decide +kernel
theorem dX1_centsLacking_5 : decode cX1_centsLacking 5 = .ok (.invokevirtual 70, 3) := by decide +kernel
theorem dX1_centsLacking_8 : decode cX1_centsLacking 8 = .ok (.aload_n 0, 1) := by decide +kernel
theorem dX1_centsLacking_9 : decode cX1_centsLacking 9 = .ok (.getfield 26, 3) := by decide +kernel
theorem dX1_centsLacking_12 : decode cX1_centsLacking 12 = .ok (.iload_n 1, 1) := by decide +kernel
theorem dX1_centsLacking_13 : decode cX1_centsLacking 13 = .ok (.invokevirtual 70, 3) := by decide +kernel
theorem dX1_centsLacking_16 : decode cX1_centsLacking 16 = .ok (.isub, 1) := by decide +kernel
theorem dX1_centsLacking_17 : decode cX1_centsLacking 17 = .ok (.istore_n 2, 1) := by decide +kernel
theorem dX1_centsLacking_18 : decode cX1_centsLacking 18 = .ok (.iload_n 2, 1) := by decide +kernel
theorem dX1_centsLacking_19 : decode cX1_centsLacking 19 = .ok (.bipush 100, 2) := by decide +kernel
theorem dX1_centsLacking_21 : decode cX1_centsLacking 21 = .ok (.imul, 1) := by decide +kernel
theorem dX1_centsLacking_22 : decode cX1_centsLacking 22 = .ok (.iconst 3, 1) := by decide +kernel
theorem dX1_centsLacking_23 : decode cX1_centsLacking 23 = .ok (.aload_n 0, 1) := by decide +kernel
theorem dX1_centsLacking_24 : decode cX1_centsLacking 24 = .ok (.getfield 23, 3) := by decide +kernel
theorem dX1_centsLacking_27 : decode cX1_centsLacking 27 = .ok (.iload_n 1, 1) := by decide +kernel
theorem dX1_centsLacking_28 : decode cX1_centsLacking 28 = .ok (.invokevirtual 70, 3) := by decide +kernel
theorem dX1_centsLacking_31 : decode cX1_centsLacking 31 = .ok (.imul, 1) := by decide +kernel
theorem dX1_centsLacking_32 : decode cX1_centsLacking 32 = .ok (.if_icmp .le 16, 3) := by decide +kernel
theorem dX1_centsLacking_35 : decode cX1_centsLacking 35 = .ok (.iload_n 2, 1) := by decide +kernel
theorem dX1_centsLacking_36 : decode cX1_centsLacking 36 = .ok (.aload_n 0, 1) := by decide +kernel
theorem dX1_centsLacking_37 : decode cX1_centsLacking 37 = .ok (.getfield 38, 3) := by decide +kernel
theorem dX1_centsLacking_40 : decode cX1_centsLacking 40 = .ok (.iload_n 1, 1) := by decide +kernel
theorem dX1_centsLacking_41 : decode cX1_centsLacking 41 = .ok (.invokevirtual 70, 3) := by decide +kernel
theorem dX1_centsLacking_44 : decode cX1_centsLacking 44 = .ok (.imul, 1) := by decide +kernel
theorem dX1_centsLacking_45 : decode cX1_centsLacking 45 = .ok (.goto 4, 3) := by decide +kernel
theorem dX1_centsLacking_48 : decode cX1_centsLacking 48 = .ok (.iconst 0, 1) := by decide +kernel
theorem dX1_centsLacking_49 : decode cX1_centsLacking 49 = .ok (.ireturn, 1) := by decide +kernel
theorem dX2_init_0 : decode cX2_init 0 = .ok (.aload_n 0, 1) := by decide +kernel
theorem dX2_init_1 : decode cX2_init 1 = .ok (.invokespecial 3, 3) := by decide +kernel
theorem dX2_init_4 : decode cX2_init 4 = .ok (.aload_n 0, 1) := by decide +kernel
theorem dX2_init_5 : decode cX2_init 5 = .ok (.new 9, 3) := by decide +kernel
theorem dX2_init_8 : decode cX2_init 8 = .ok (.dup, 1) := by decide +kernel
theorem dX2_init_9 : decode cX2_init 9 = .ok (.bipush 8, 2) := by decide +kernel
theorem dX2_init_11 : decode cX2_init 11 = .ok (.iconst 0, 1) := by decide +kernel
theorem dX2_init_12 : decode cX2_init 12 = .ok (.invokespecial 11, 3) := by decide +kernel
theorem dX2_init_15 : decode cX2_init 15 = .ok (.putfield 14, 3) := by decide +kernel
theorem dX2_init_18 : decode cX2_init 18 = .ok (.aload_n 0, 1) := by decide +kernel
theorem dX2_init_19 : decode cX2_init 19 = .ok (.new 9, 3) := by decide +kernel
theorem dX2_init_22 : decode cX2_init 22 = .ok (.dup, 1) := by decide +kernel
theorem dX2_init_23 : decode cX2_init 23 = .ok (.bipush 8, 2) := by decide +kernel
theorem dX2_init_25 : decode cX2_init 25 = .ok (.iconst 1, 1) := by decide +kernel
theorem dX2_init_26 : decode cX2_init 26 = .ok (.invokespecial 11, 3) := by decide +kernel
theorem dX2_init_29 : decode cX2_init 29 = .ok (.putfield 20, 3) := by decide +kernel
theorem dX2_init_32 : decode cX2_init 32 = .ok (.aload_n 0, 1) := by decide +kernel
theorem dX2_init_33 : decode cX2_init 33 = .ok (.new 9, 3) := by decide +kernel
theorem dX2_init_36 : decode cX2_init 36 = .ok (.dup, 1) := by decide +kernel
theorem dX2_init_37 : decode cX2_init 37 = .ok (.bipush 8, 2) := by decide +kernel
theorem dX2_init_39 : decode cX2_init 39 = .ok (.iconst 0, 1) := by decide +kernel
theorem dX2_init_40 : decode cX2_init 40 = .ok (.invokespecial 11, 3) := by decide +kernel
theorem dX2_init_43 : decode cX2_init 43 = .ok (.putfield 23, 3) := by decide +kernel
theorem dX2_init_46 : decode cX2_init 46 = .ok (.aload_n 0, 1) := by decide +kernel
theorem dX2_init_47 : decode cX2_init 47 = .ok (.new 9, 3) := by decide +kernel
theorem dX2_init_50 : decode cX2_init 50 = .ok (.dup, 1) := by decide +kernel
theorem dX2_init_51 : decode cX2_init 51 = .ok (.bipush 8, 2) := by decide +kernel
theorem dX2_init_53 : decode cX2_init 53 = .ok (.iconst 0, 1) := by decide +kernel
theorem dX2_init_54 : decode cX2_init 54 = .ok (.invokespecial 11, 3) := by decide +kernel
theorem dX2_init_57 : decode cX2_init 57 = .ok (.putfield 26, 3) := by decide +kernel
theorem dX2_init_60 : decode cX2_init 60 = .ok (.aload_n 0, 1) := by decide +kernel
theorem dX2_init_61 : decode cX2_init 61 = .ok (.new 9, 3) := by decide +kernel
theorem dX2_init_64 : decode cX2_init 64 = .ok (.dup, 1) := by decide +kernel
theorem dX2_init_65 : decode cX2_init 65 = .ok (.bipush 8, 2) := by decide +kernel
theorem dX2_init_67 : decode cX2_init 67 = .ok (.iconst 1, 1) := by decide +kernel
theorem dX2_init_68 : decode cX2_init 68 = .ok (.invokespecial 11, 3) := by decide +kernel
theorem dX2_init_71 : decode cX2_init 71 = .ok (.putfield 29, 3) := by decide +kernel
theorem dX2_init_74 : decode cX2_init 74 = .ok (.return_, 1) := by decide +kernel
theorem dX2_leftOf_0 : decode cX2_leftOf 0 = .ok (.aload_n 0, 1) := by decide +kernel
theorem dX2_leftOf_1 : decode cX2_leftOf 1 = .ok (.getfield 14, 3) := by decide +kernel
theorem dX2_leftOf_4 : decode cX2_leftOf 4 = .ok (.iload_n 1, 1) := by decide +kernel
theorem dX2_leftOf_5 : decode cX2_leftOf 5 = .ok (.invokevirtual 32, 3) := by decide +kernel
theorem dX2_leftOf_8 : decode cX2_leftOf 8 = .ok (.aload_n 0, 1) := by decide +kernel
theorem dX2_leftOf_9 : decode cX2_leftOf 9 = .ok (.getfield 23, 3) := by decide +kernel
theorem dX2_leftOf_12 : decode cX2_leftOf 12 = .ok (.iload_n 1, 1) := by decide +kernel
theorem dX2_leftOf_13 : decode cX2_leftOf 13 = .ok (.invokevirtual 32, 3) := by decide +kernel
theorem dX2_leftOf_16 : decode cX2_leftOf 16 = .ok (.isub, 1) := by decide +kernel
theorem dX2_leftOf_17 : decode cX2_leftOf 17 = .ok (.ireturn, 1) := by decide +kernel
theorem dX2_greatestDelay_0 : decode cX2_greatestDelay 0 = .ok (.iconst 0, 1) := by decide +kernel
theorem dX2_greatestDelay_1 : decode cX2_greatestDelay 1 = .ok (.istore_n 1, 1) := by decide +kernel
theorem dX2_greatestDelay_2 : decode cX2_greatestDelay 2 = .ok (.iconst 0, 1) := by decide +kernel
theorem dX2_greatestDelay_3 : decode cX2_greatestDelay 3 = .ok (.istore_n 2, 1) := by decide +kernel
theorem dX2_greatestDelay_4 : decode cX2_greatestDelay 4 = .ok (.iload_n 2, 1) := by decide +kernel
theorem dX2_greatestDelay_5 : decode cX2_greatestDelay 5 = .ok (.bipush 8, 2) := by decide +kernel
theorem dX2_greatestDelay_7 : decode cX2_greatestDelay 7 = .ok (.if_icmp .ge 22, 3) := by decide +kernel
theorem dX2_greatestDelay_10 : decode cX2_greatestDelay 10 = .ok (.iload_n 1, 1) := by decide +kernel
theorem dX2_greatestDelay_11 : decode cX2_greatestDelay 11 = .ok (.aload_n 0, 1) := by decide +kernel
theorem dX2_greatestDelay_12 : decode cX2_greatestDelay 12 = .ok (.getfield 20, 3) := by decide +kernel
theorem dX2_greatestDelay_15 : decode cX2_greatestDelay 15 = .ok (.iload_n 2, 1) := by decide +kernel
theorem dX2_greatestDelay_16 : decode cX2_greatestDelay 16 = .ok (.invokevirtual 32, 3) := by decide +kernel
theorem dX2_greatestDelay_19 : decode cX2_greatestDelay 19 = .ok (.invokestatic 36, 3) := by decide +kernel
theorem dX2_greatestDelay_22 : decode cX2_greatestDelay 22 = .ok (.istore_n 1, 1) := by decide +kernel
theorem dX2_greatestDelay_23 : decode cX2_greatestDelay 23 = .ok (.iinc 2 1, 3) := by decide +kernel
theorem dX2_greatestDelay_26 : decode cX2_greatestDelay 26 = .ok (.goto (-22), 3) := by decide +kernel
theorem dX2_greatestDelay_29 : decode cX2_greatestDelay 29 = .ok (.iload_n 1, 1) := by decide +kernel
theorem dX2_greatestDelay_30 : decode cX2_greatestDelay 30 = .ok (.ireturn, 1) := by decide +kernel
theorem dX3_init_0 : decode cX3_init 0 = .ok (.aload_n 0, 1) := by decide +kernel
theorem dX3_init_1 : decode cX3_init 1 = .ok (.invokespecial 3, 3) := by decide +kernel
theorem dX3_init_4 : decode cX3_init 4 = .ok (.aload_n 0, 1) := by decide +kernel
theorem dX3_init_5 : decode cX3_init 5 = .ok (.new 9, 3) := by decide +kernel
theorem dX3_init_8 : decode cX3_init 8 = .ok (.dup, 1) := by decide +kernel
theorem dX3_init_9 : decode cX3_init 9 = .ok (.iconst 3, 1) := by decide +kernel
theorem dX3_init_10 : decode cX3_init 10 = .ok (.iconst 0, 1) := by decide +kernel
theorem dX3_init_11 : decode cX3_init 11 = .ok (.invokespecial 11, 3) := by decide +kernel
theorem dX3_init_14 : decode cX3_init 14 = .ok (.putfield 14, 3) := by decide +kernel
theorem dX3_init_17 : decode cX3_init 17 = .ok (.aload_n 0, 1) := by decide +kernel
theorem dX3_init_18 : decode cX3_init 18 = .ok (.new 9, 3) := by decide +kernel
theorem dX3_init_21 : decode cX3_init 21 = .ok (.dup, 1) := by decide +kernel
theorem dX3_init_22 : decode cX3_init 22 = .ok (.iconst 3, 1) := by decide +kernel
theorem dX3_init_23 : decode cX3_init 23 = .ok (.iconst (-1), 1) := by decide +kernel
theorem dX3_init_24 : decode cX3_init 24 = .ok (.invokespecial 11, 3) := by decide +kernel
theorem dX3_init_27 : decode cX3_init 27 = .ok (.putfield 20, 3) := by decide +kernel
theorem dX3_init_30 : decode cX3_init 30 = .ok (.aload_n 0, 1) := by decide +kernel
theorem dX3_init_31 : decode cX3_init 31 = .ok (.new 9, 3) := by decide +kernel
theorem dX3_init_34 : decode cX3_init 34 = .ok (.dup, 1) := by decide +kernel
theorem dX3_init_35 : decode cX3_init 35 = .ok (.iconst 3, 1) := by decide +kernel
theorem dX3_init_36 : decode cX3_init 36 = .ok (.iconst 0, 1) := by decide +kernel
theorem dX3_init_37 : decode cX3_init 37 = .ok (.invokespecial 11, 3) := by decide +kernel
theorem dX3_init_40 : decode cX3_init 40 = .ok (.putfield 23, 3) := by decide +kernel
theorem dX3_init_43 : decode cX3_init 43 = .ok (.aload_n 0, 1) := by decide +kernel
theorem dX3_init_44 : decode cX3_init 44 = .ok (.new 9, 3) := by decide +kernel
theorem dX3_init_47 : decode cX3_init 47 = .ok (.dup, 1) := by decide +kernel
theorem dX3_init_48 : decode cX3_init 48 = .ok (.iconst 3, 1) := by decide +kernel
theorem dX3_init_49 : decode cX3_init 49 = .ok (.iconst (-1), 1) := by decide +kernel
theorem dX3_init_50 : decode cX3_init 50 = .ok (.invokespecial 11, 3) := by decide +kernel
theorem dX3_init_53 : decode cX3_init 53 = .ok (.putfield 26, 3) := by decide +kernel
theorem dX3_init_56 : decode cX3_init 56 = .ok (.aload_n 0, 1) := by decide +kernel
theorem dX3_init_57 : decode cX3_init 57 = .ok (.new 9, 3) := by decide +kernel
theorem dX3_init_60 : decode cX3_init 60 = .ok (.dup, 1) := by decide +kernel
theorem dX3_init_61 : decode cX3_init 61 = .ok (.iconst 3, 1) := by decide +kernel
theorem dX3_init_62 : decode cX3_init 62 = .ok (.iconst 0, 1) := by decide +kernel
theorem dX3_init_63 : decode cX3_init 63 = .ok (.invokespecial 11, 3) := by decide +kernel
theorem dX3_init_66 : decode cX3_init 66 = .ok (.putfield 29, 3) := by decide +kernel
theorem dX3_init_69 : decode cX3_init 69 = .ok (.aload_n 0, 1) := by decide +kernel
theorem dX3_init_70 : decode cX3_init 70 = .ok (.new 9, 3) := by decide +kernel
theorem dX3_init_73 : decode cX3_init 73 = .ok (.dup, 1) := by decide +kernel
theorem dX3_init_74 : decode cX3_init 74 = .ok (.iconst 3, 1) := by decide +kernel
theorem dX3_init_75 : decode cX3_init 75 = .ok (.iconst 0, 1) := by decide +kernel
theorem dX3_init_76 : decode cX3_init 76 = .ok (.invokespecial 11, 3) := by decide +kernel
theorem dX3_init_79 : decode cX3_init 79 = .ok (.putfield 32, 3) := by decide +kernel
theorem dX3_init_82 : decode cX3_init 82 = .ok (.aload_n 0, 1) := by decide +kernel
theorem dX3_init_83 : decode cX3_init 83 = .ok (.new 9, 3) := by decide +kernel
theorem dX3_init_86 : decode cX3_init 86 = .ok (.dup, 1) := by decide +kernel
theorem dX3_init_87 : decode cX3_init 87 = .ok (.iconst 3, 1) := by decide +kernel
theorem dX3_init_88 : decode cX3_init 88 = .ok (.bipush 10, 2) := by decide +kernel
theorem dX3_init_90 : decode cX3_init 90 = .ok (.invokespecial 11, 3) := by decide +kernel
theorem dX3_init_93 : decode cX3_init 93 = .ok (.putfield 35, 3) := by decide +kernel
theorem dX3_init_96 : decode cX3_init 96 = .ok (.aload_n 0, 1) := by decide +kernel
theorem dX3_init_97 : decode cX3_init 97 = .ok (.new 9, 3) := by decide +kernel
theorem dX3_init_100 : decode cX3_init 100 = .ok (.dup, 1) := by decide +kernel
theorem dX3_init_101 : decode cX3_init 101 = .ok (.iconst 3, 1) := by decide +kernel
theorem dX3_init_102 : decode cX3_init 102 = .ok (.iconst 1, 1) := by decide +kernel
theorem dX3_init_103 : decode cX3_init 103 = .ok (.invokespecial 11, 3) := by decide +kernel
theorem dX3_init_106 : decode cX3_init 106 = .ok (.putfield 38, 3) := by decide +kernel
theorem dX3_init_109 : decode cX3_init 109 = .ok (.return_, 1) := by decide +kernel
theorem dX4_init_0 : decode cX4_init 0 = .ok (.aload_n 0, 1) := by decide +kernel
theorem dX4_init_1 : decode cX4_init 1 = .ok (.invokespecial 3, 3) := by decide +kernel
theorem dX4_init_4 : decode cX4_init 4 = .ok (.aload_n 0, 1) := by decide +kernel
theorem dX4_init_5 : decode cX4_init 5 = .ok (.new 9, 3) := by decide +kernel
theorem dX4_init_8 : decode cX4_init 8 = .ok (.dup, 1) := by decide +kernel
theorem dX4_init_9 : decode cX4_init 9 = .ok (.iconst 4, 1) := by decide +kernel
theorem dX4_init_10 : decode cX4_init 10 = .ok (.sipush 1000, 3) := by decide +kernel
theorem dX4_init_13 : decode cX4_init 13 = .ok (.invokespecial 11, 3) := by decide +kernel
theorem dX4_init_16 : decode cX4_init 16 = .ok (.putfield 14, 3) := by decide +kernel
theorem dX4_init_19 : decode cX4_init 19 = .ok (.aload_n 0, 1) := by decide +kernel
theorem dX4_init_20 : decode cX4_init 20 = .ok (.new 9, 3) := by decide +kernel
theorem dX4_init_23 : decode cX4_init 23 = .ok (.dup, 1) := by decide +kernel
theorem dX4_init_24 : decode cX4_init 24 = .ok (.iconst 4, 1) := by decide +kernel
theorem dX4_init_25 : decode cX4_init 25 = .ok (.bipush 100, 2) := by decide +kernel
theorem dX4_init_27 : decode cX4_init 27 = .ok (.invokespecial 11, 3) := by decide +kernel
theorem dX4_init_30 : decode cX4_init 30 = .ok (.putfield 20, 3) := by decide +kernel
theorem dX4_init_33 : decode cX4_init 33 = .ok (.aload_n 0, 1) := by decide +kernel
theorem dX4_init_34 : decode cX4_init 34 = .ok (.new 9, 3) := by decide +kernel
theorem dX4_init_37 : decode cX4_init 37 = .ok (.dup, 1) := by decide +kernel
theorem dX4_init_38 : decode cX4_init 38 = .ok (.iconst 4, 1) := by decide +kernel
theorem dX4_init_39 : decode cX4_init 39 = .ok (.iconst 0, 1) := by decide +kernel
theorem dX4_init_40 : decode cX4_init 40 = .ok (.invokespecial 11, 3) := by decide +kernel
theorem dX4_init_43 : decode cX4_init 43 = .ok (.putfield 23, 3) := by decide +kernel
theorem dX4_init_46 : decode cX4_init 46 = .ok (.iconst 0, 1) := by decide +kernel
theorem dX4_init_47 : decode cX4_init 47 = .ok (.istore_n 1, 1) := by decide +kernel
theorem dX4_init_48 : decode cX4_init 48 = .ok (.iload_n 1, 1) := by decide +kernel
theorem dX4_init_49 : decode cX4_init 49 = .ok (.iconst 4, 1) := by decide +kernel
theorem dX4_init_50 : decode cX4_init 50 = .ok (.if_icmp .ge 20, 3) := by decide +kernel
theorem dX4_init_53 : decode cX4_init 53 = .ok (.aload_n 0, 1) := by decide +kernel
theorem dX4_init_54 : decode cX4_init 54 = .ok (.getfield 23, 3) := by decide +kernel
theorem dX4_init_57 : decode cX4_init 57 = .ok (.iload_n 1, 1) := by decide +kernel
theorem dX4_init_58 : decode cX4_init 58 = .ok (.iload_n 1, 1) := by decide +kernel
theorem dX4_init_59 : decode cX4_init 59 = .ok (.iconst 3, 1) := by decide +kernel
theorem dX4_init_60 : decode cX4_init 60 = .ok (.irem, 1) := by decide +kernel
theorem dX4_init_61 : decode cX4_init 61 = .ok (.invokevirtual 26, 3) := by decide +kernel
theorem dX4_init_64 : decode cX4_init 64 = .ok (.iinc 1 1, 3) := by decide +kernel
theorem dX4_init_67 : decode cX4_init 67 = .ok (.goto (-19), 3) := by decide +kernel
theorem dX4_init_70 : decode cX4_init 70 = .ok (.return_, 1) := by decide +kernel
theorem dX4_minimumOf_0 : decode cX4_minimumOf 0 = .ok (.aload_n 0, 1) := by decide +kernel
theorem dX4_minimumOf_1 : decode cX4_minimumOf 1 = .ok (.getfield 20, 3) := by decide +kernel
theorem dX4_minimumOf_4 : decode cX4_minimumOf 4 = .ok (.iload_n 1, 1) := by decide +kernel
theorem dX4_minimumOf_5 : decode cX4_minimumOf 5 = .ok (.invokestatic 29, 3) := by decide +kernel
theorem dX4_minimumOf_8 : decode cX4_minimumOf 8 = .ok (.invokevirtual 35, 3) := by decide +kernel
theorem dX4_minimumOf_11 : decode cX4_minimumOf 11 = .ok (.bipush 10, 2) := by decide +kernel
theorem dX4_minimumOf_13 : decode cX4_minimumOf 13 = .ok (.iload_n 1, 1) := by decide +kernel
theorem dX4_minimumOf_14 : decode cX4_minimumOf 14 = .ok (.invokestatic 38, 3) := by decide +kernel
theorem dX4_minimumOf_17 : decode cX4_minimumOf 17 = .ok (.iadd, 1) := by decide +kernel
theorem dX4_minimumOf_18 : decode cX4_minimumOf 18 = .ok (.imul, 1) := by decide +kernel
theorem dX4_minimumOf_19 : decode cX4_minimumOf 19 = .ok (.bipush 10, 2) := by decide +kernel
theorem dX4_minimumOf_21 : decode cX4_minimumOf 21 = .ok (.idiv, 1) := by decide +kernel
theorem dX4_minimumOf_22 : decode cX4_minimumOf 22 = .ok (.ireturn, 1) := by decide +kernel
theorem dX5_init_0 : decode cX5_init 0 = .ok (.aload_n 0, 1) := by decide +kernel
theorem dX5_init_1 : decode cX5_init 1 = .ok (.invokespecial 3, 3) := by decide +kernel
theorem dX5_init_4 : decode cX5_init 4 = .ok (.aload_n 0, 1) := by decide +kernel
theorem dX5_init_5 : decode cX5_init 5 = .ok (.new 9, 3) := by decide +kernel
theorem dX5_init_8 : decode cX5_init 8 = .ok (.dup, 1) := by decide +kernel
theorem dX5_init_9 : decode cX5_init 9 = .ok (.bipush 20, 2) := by decide +kernel
theorem dX5_init_11 : decode cX5_init 11 = .ok (.iconst (-1), 1) := by decide +kernel
theorem dX5_init_12 : decode cX5_init 12 = .ok (.invokespecial 11, 3) := by decide +kernel
theorem dX5_init_15 : decode cX5_init 15 = .ok (.putfield 14, 3) := by decide +kernel
theorem dX5_init_18 : decode cX5_init 18 = .ok (.aload_n 0, 1) := by decide +kernel
theorem dX5_init_19 : decode cX5_init 19 = .ok (.new 9, 3) := by decide +kernel
theorem dX5_init_22 : decode cX5_init 22 = .ok (.dup, 1) := by decide +kernel
theorem dX5_init_23 : decode cX5_init 23 = .ok (.bipush 20, 2) := by decide +kernel
theorem dX5_init_25 : decode cX5_init 25 = .ok (.iconst (-1), 1) := by decide +kernel
theorem dX5_init_26 : decode cX5_init 26 = .ok (.invokespecial 11, 3) := by decide +kernel
theorem dX5_init_29 : decode cX5_init 29 = .ok (.putfield 20, 3) := by decide +kernel
theorem dX5_init_32 : decode cX5_init 32 = .ok (.aload_n 0, 1) := by decide +kernel
theorem dX5_init_33 : decode cX5_init 33 = .ok (.new 9, 3) := by decide +kernel
theorem dX5_init_36 : decode cX5_init 36 = .ok (.dup, 1) := by decide +kernel
theorem dX5_init_37 : decode cX5_init 37 = .ok (.bipush 20, 2) := by decide +kernel
theorem dX5_init_39 : decode cX5_init 39 = .ok (.iconst 0, 1) := by decide +kernel
theorem dX5_init_40 : decode cX5_init 40 = .ok (.invokespecial 11, 3) := by decide +kernel
theorem dX5_init_43 : decode cX5_init 43 = .ok (.putfield 23, 3) := by decide +kernel
theorem dX5_init_46 : decode cX5_init 46 = .ok (.aload_n 0, 1) := by decide +kernel
theorem dX5_init_47 : decode cX5_init 47 = .ok (.new 9, 3) := by decide +kernel
theorem dX5_init_50 : decode cX5_init 50 = .ok (.dup, 1) := by decide +kernel
theorem dX5_init_51 : decode cX5_init 51 = .ok (.bipush 20, 2) := by decide +kernel
theorem dX5_init_53 : decode cX5_init 53 = .ok (.iconst (-1), 1) := by decide +kernel
theorem dX5_init_54 : decode cX5_init 54 = .ok (.invokespecial 11, 3) := by decide +kernel
theorem dX5_init_57 : decode cX5_init 57 = .ok (.putfield 26, 3) := by decide +kernel
theorem dX5_init_60 : decode cX5_init 60 = .ok (.aload_n 0, 1) := by decide +kernel
theorem dX5_init_61 : decode cX5_init 61 = .ok (.iconst 0, 1) := by decide +kernel
theorem dX5_init_62 : decode cX5_init 62 = .ok (.putfield 29, 3) := by decide +kernel
theorem dX5_init_65 : decode cX5_init 65 = .ok (.return_, 1) := by decide +kernel
theorem dX5_add_0 : decode cX5_add 0 = .ok (.aload_n 0, 1) := by decide +kernel
theorem dX5_add_1 : decode cX5_add 1 = .ok (.getfield 29, 3) := by decide +kernel
theorem dX5_add_4 : decode cX5_add 4 = .ok (.istore 4, 2) := by decide +kernel
theorem dX5_add_6 : decode cX5_add 6 = .ok (.aload_n 0, 1) := by decide +kernel
theorem dX5_add_7 : decode cX5_add 7 = .ok (.dup, 1) := by decide +kernel
theorem dX5_add_8 : decode cX5_add 8 = .ok (.getfield 29, 3) := by decide +kernel
theorem dX5_add_11 : decode cX5_add 11 = .ok (.iconst 1, 1) := by decide +kernel
theorem dX5_add_12 : decode cX5_add 12 = .ok (.iadd, 1) := by decide +kernel
theorem dX5_add_13 : decode cX5_add 13 = .ok (.putfield 29, 3) := by decide +kernel
theorem dX5_add_16 : decode cX5_add 16 = .ok (.aload_n 0, 1) := by decide +kernel
theorem dX5_add_17 : decode cX5_add 17 = .ok (.getfield 14, 3) := by decide +kernel
theorem dX5_add_20 : decode cX5_add 20 = .ok (.iload 4, 2) := by decide +kernel
theorem dX5_add_22 : decode cX5_add 22 = .ok (.iload_n 1, 1) := by decide +kernel
theorem dX5_add_23 : decode cX5_add 23 = .ok (.invokevirtual 33, 3) := by decide +kernel
theorem dX5_add_26 : decode cX5_add 26 = .ok (.aload_n 0, 1) := by decide +kernel
theorem dX5_add_27 : decode cX5_add 27 = .ok (.getfield 20, 3) := by decide +kernel
theorem dX5_add_30 : decode cX5_add 30 = .ok (.iload 4, 2) := by decide +kernel
theorem dX5_add_32 : decode cX5_add 32 = .ok (.iload_n 2, 1) := by decide +kernel
theorem dX5_add_33 : decode cX5_add 33 = .ok (.invokevirtual 33, 3) := by decide +kernel
theorem dX5_add_36 : decode cX5_add 36 = .ok (.aload_n 0, 1) := by decide +kernel
theorem dX5_add_37 : decode cX5_add 37 = .ok (.getfield 23, 3) := by decide +kernel
theorem dX5_add_40 : decode cX5_add 40 = .ok (.iload 4, 2) := by decide +kernel
theorem dX5_add_42 : decode cX5_add 42 = .ok (.iload_n 3, 1) := by decide +kernel
theorem dX5_add_43 : decode cX5_add 43 = .ok (.invokevirtual 33, 3) := by decide +kernel
theorem dX5_add_46 : decode cX5_add 46 = .ok (.iload 4, 2) := by decide +kernel
theorem dX5_add_48 : decode cX5_add 48 = .ok (.ireturn, 1) := by decide +kernel
theorem dX6_init_0 : decode cX6_init 0 = .ok (.aload_n 0, 1) := by decide +kernel
theorem dX6_init_1 : decode cX6_init 1 = .ok (.invokespecial 3, 3) := by decide +kernel
theorem dX6_init_4 : decode cX6_init 4 = .ok (.aload_n 0, 1) := by decide +kernel
theorem dX6_init_5 : decode cX6_init 5 = .ok (.new 9, 3) := by decide +kernel
theorem dX6_init_8 : decode cX6_init 8 = .ok (.dup, 1) := by decide +kernel
theorem dX6_init_9 : decode cX6_init 9 = .ok (.sipush 150, 3) := by decide +kernel
theorem dX6_init_12 : decode cX6_init 12 = .ok (.iconst (-1), 1) := by decide +kernel
theorem dX6_init_13 : decode cX6_init 13 = .ok (.invokespecial 11, 3) := by decide +kernel
theorem dX6_init_16 : decode cX6_init 16 = .ok (.putfield 14, 3) := by decide +kernel
theorem dX6_init_19 : decode cX6_init 19 = .ok (.aload_n 0, 1) := by decide +kernel
theorem dX6_init_20 : decode cX6_init 20 = .ok (.new 9, 3) := by decide +kernel
theorem dX6_init_23 : decode cX6_init 23 = .ok (.dup, 1) := by decide +kernel
theorem dX6_init_24 : decode cX6_init 24 = .ok (.sipush 150, 3) := by decide +kernel
theorem dX6_init_27 : decode cX6_init 27 = .ok (.iconst 0, 1) := by decide +kernel
theorem dX6_init_28 : decode cX6_init 28 = .ok (.invokespecial 11, 3) := by decide +kernel
theorem dX6_init_31 : decode cX6_init 31 = .ok (.putfield 20, 3) := by decide +kernel
theorem dX6_init_34 : decode cX6_init 34 = .ok (.aload_n 0, 1) := by decide +kernel
theorem dX6_init_35 : decode cX6_init 35 = .ok (.new 9, 3) := by decide +kernel
theorem dX6_init_38 : decode cX6_init 38 = .ok (.dup, 1) := by decide +kernel
theorem dX6_init_39 : decode cX6_init 39 = .ok (.sipush 150, 3) := by decide +kernel
theorem dX6_init_42 : decode cX6_init 42 = .ok (.iconst (-1), 1) := by decide +kernel
theorem dX6_init_43 : decode cX6_init 43 = .ok (.invokespecial 11, 3) := by decide +kernel
theorem dX6_init_46 : decode cX6_init 46 = .ok (.putfield 23, 3) := by decide +kernel
theorem dX6_init_49 : decode cX6_init 49 = .ok (.aload_n 0, 1) := by decide +kernel
theorem dX6_init_50 : decode cX6_init 50 = .ok (.new 9, 3) := by decide +kernel
theorem dX6_init_53 : decode cX6_init 53 = .ok (.dup, 1) := by decide +kernel
theorem dX6_init_54 : decode cX6_init 54 = .ok (.sipush 150, 3) := by decide +kernel
theorem dX6_init_57 : decode cX6_init 57 = .ok (.iconst 0, 1) := by decide +kernel
theorem dX6_init_58 : decode cX6_init 58 = .ok (.invokespecial 11, 3) := by decide +kernel
theorem dX6_init_61 : decode cX6_init 61 = .ok (.putfield 26, 3) := by decide +kernel
theorem dX6_init_64 : decode cX6_init 64 = .ok (.aload_n 0, 1) := by decide +kernel
theorem dX6_init_65 : decode cX6_init 65 = .ok (.new 9, 3) := by decide +kernel
theorem dX6_init_68 : decode cX6_init 68 = .ok (.dup, 1) := by decide +kernel
theorem dX6_init_69 : decode cX6_init 69 = .ok (.sipush 150, 3) := by decide +kernel
theorem dX6_init_72 : decode cX6_init 72 = .ok (.iconst 0, 1) := by decide +kernel
theorem dX6_init_73 : decode cX6_init 73 = .ok (.invokespecial 11, 3) := by decide +kernel
theorem dX6_init_76 : decode cX6_init 76 = .ok (.putfield 29, 3) := by decide +kernel
theorem dX6_init_79 : decode cX6_init 79 = .ok (.aload_n 0, 1) := by decide +kernel
theorem dX6_init_80 : decode cX6_init 80 = .ok (.new 9, 3) := by decide +kernel
theorem dX6_init_83 : decode cX6_init 83 = .ok (.dup, 1) := by decide +kernel
theorem dX6_init_84 : decode cX6_init 84 = .ok (.sipush 150, 3) := by decide +kernel
theorem dX6_init_87 : decode cX6_init 87 = .ok (.iconst (-1), 1) := by decide +kernel
theorem dX6_init_88 : decode cX6_init 88 = .ok (.invokespecial 11, 3) := by decide +kernel
theorem dX6_init_91 : decode cX6_init 91 = .ok (.putfield 32, 3) := by decide +kernel
theorem dX6_init_94 : decode cX6_init 94 = .ok (.aload_n 0, 1) := by decide +kernel
theorem dX6_init_95 : decode cX6_init 95 = .ok (.new 9, 3) := by decide +kernel
theorem dX6_init_98 : decode cX6_init 98 = .ok (.dup, 1) := by decide +kernel
theorem dX6_init_99 : decode cX6_init 99 = .ok (.bipush 108, 2) := by decide +kernel
theorem dX6_init_101 : decode cX6_init 101 = .ok (.iconst 0, 1) := by decide +kernel
theorem dX6_init_102 : decode cX6_init 102 = .ok (.invokespecial 11, 3) := by decide +kernel
theorem dX6_init_105 : decode cX6_init 105 = .ok (.putfield 37, 3) := by decide +kernel
theorem dX6_init_108 : decode cX6_init 108 = .ok (.aload_n 0, 1) := by decide +kernel
theorem dX6_init_109 : decode cX6_init 109 = .ok (.iconst 0, 1) := by decide +kernel
theorem dX6_init_110 : decode cX6_init 110 = .ok (.putfield 40, 3) := by decide +kernel
theorem dX6_init_113 : decode cX6_init 113 = .ok (.aload_n 0, 1) := by decide +kernel
theorem dX6_init_114 : decode cX6_init 114 = .ok (.iconst 0, 1) := by decide +kernel
theorem dX6_init_115 : decode cX6_init 115 = .ok (.putfield 44, 3) := by decide +kernel
theorem dX6_init_118 : decode cX6_init 118 = .ok (.return_, 1) := by decide +kernel
theorem dX6_clear_0 : decode cX6_clear 0 = .ok (.aload_n 0, 1) := by decide +kernel
theorem dX6_clear_1 : decode cX6_clear 1 = .ok (.iconst 0, 1) := by decide +kernel
theorem dX6_clear_2 : decode cX6_clear 2 = .ok (.putfield 40, 3) := by decide +kernel
theorem dX6_clear_5 : decode cX6_clear 5 = .ok (.aload_n 0, 1) := by decide +kernel
theorem dX6_clear_6 : decode cX6_clear 6 = .ok (.iconst 0, 1) := by decide +kernel
theorem dX6_clear_7 : decode cX6_clear 7 = .ok (.putfield 44, 3) := by decide +kernel
theorem dX6_clear_10 : decode cX6_clear 10 = .ok (.return_, 1) := by decide +kernel
theorem dX6_add_0 : decode cX6_add 0 = .ok (.aload_n 0, 1) := by decide +kernel
theorem dX6_add_1 : decode cX6_add 1 = .ok (.getfield 14, 3) := by decide +kernel
theorem dX6_add_4 : decode cX6_add 4 = .ok (.aload_n 0, 1) := by decide +kernel
theorem dX6_add_5 : decode cX6_add 5 = .ok (.getfield 40, 3) := by decide +kernel
theorem dX6_add_8 : decode cX6_add 8 = .ok (.iload_n 1, 1) := by decide +kernel
theorem dX6_add_9 : decode cX6_add 9 = .ok (.invokevirtual 47, 3) := by decide +kernel
theorem dX6_add_12 : decode cX6_add 12 = .ok (.aload_n 0, 1) := by decide +kernel
theorem dX6_add_13 : decode cX6_add 13 = .ok (.getfield 20, 3) := by decide +kernel
theorem dX6_add_16 : decode cX6_add 16 = .ok (.aload_n 0, 1) := by decide +kernel
theorem dX6_add_17 : decode cX6_add 17 = .ok (.getfield 40, 3) := by decide +kernel
theorem dX6_add_20 : decode cX6_add 20 = .ok (.iload_n 2, 1) := by decide +kernel
theorem dX6_add_21 : decode cX6_add 21 = .ok (.invokevirtual 47, 3) := by decide +kernel
theorem dX6_add_24 : decode cX6_add 24 = .ok (.aload_n 0, 1) := by decide +kernel
theorem dX6_add_25 : decode cX6_add 25 = .ok (.getfield 23, 3) := by decide +kernel
theorem dX6_add_28 : decode cX6_add 28 = .ok (.aload_n 0, 1) := by decide +kernel
theorem dX6_add_29 : decode cX6_add 29 = .ok (.getfield 40, 3) := by decide +kernel
theorem dX6_add_32 : decode cX6_add 32 = .ok (.iload_n 3, 1) := by decide +kernel
theorem dX6_add_33 : decode cX6_add 33 = .ok (.invokevirtual 47, 3) := by decide +kernel
theorem dX6_add_36 : decode cX6_add 36 = .ok (.aload_n 0, 1) := by decide +kernel
theorem dX6_add_37 : decode cX6_add 37 = .ok (.getfield 26, 3) := by decide +kernel
theorem dX6_add_40 : decode cX6_add 40 = .ok (.aload_n 0, 1) := by decide +kernel
theorem dX6_add_41 : decode cX6_add 41 = .ok (.getfield 40, 3) := by decide +kernel
theorem dX6_add_44 : decode cX6_add 44 = .ok (.aload_n 0, 1) := by decide +kernel
theorem dX6_add_45 : decode cX6_add 45 = .ok (.getfield 44, 3) := by decide +kernel
theorem dX6_add_48 : decode cX6_add 48 = .ok (.invokevirtual 47, 3) := by decide +kernel
theorem dX6_add_51 : decode cX6_add 51 = .ok (.aload_n 0, 1) := by decide +kernel
theorem dX6_add_52 : decode cX6_add 52 = .ok (.getfield 29, 3) := by decide +kernel
theorem dX6_add_55 : decode cX6_add 55 = .ok (.aload_n 0, 1) := by decide +kernel
theorem dX6_add_56 : decode cX6_add 56 = .ok (.getfield 40, 3) := by decide +kernel
theorem dX6_add_59 : decode cX6_add 59 = .ok (.aload_n 0, 1) := by decide +kernel
theorem dX6_add_60 : decode cX6_add 60 = .ok (.getfield 44, 3) := by decide +kernel
theorem dX6_add_63 : decode cX6_add 63 = .ok (.invokevirtual 47, 3) := by decide +kernel
theorem dX6_add_66 : decode cX6_add 66 = .ok (.aload_n 0, 1) := by decide +kernel
theorem dX6_add_67 : decode cX6_add 67 = .ok (.dup, 1) := by decide +kernel
theorem dX6_add_68 : decode cX6_add 68 = .ok (.getfield 44, 3) := by decide +kernel
theorem dX6_add_71 : decode cX6_add 71 = .ok (.aload_n 0, 1) := by decide +kernel
theorem dX6_add_72 : decode cX6_add 72 = .ok (.getfield 37, 3) := by decide +kernel
theorem dX6_add_75 : decode cX6_add 75 = .ok (.iload_n 2, 1) := by decide +kernel
theorem dX6_add_76 : decode cX6_add 76 = .ok (.aload_n 0, 1) := by decide +kernel
theorem dX6_add_77 : decode cX6_add 77 = .ok (.getfield 40, 3) := by decide +kernel
theorem dX6_add_80 : decode cX6_add 80 = .ok (.invokevirtual 50, 3) := by decide +kernel
theorem dX6_add_83 : decode cX6_add 83 = .ok (.iadd, 1) := by decide +kernel
theorem dX6_add_84 : decode cX6_add 84 = .ok (.putfield 44, 3) := by decide +kernel
theorem dX6_add_87 : decode cX6_add 87 = .ok (.aload_n 0, 1) := by decide +kernel
theorem dX6_add_88 : decode cX6_add 88 = .ok (.dup, 1) := by decide +kernel
theorem dX6_add_89 : decode cX6_add 89 = .ok (.getfield 40, 3) := by decide +kernel
theorem dX6_add_92 : decode cX6_add 92 = .ok (.iconst 1, 1) := by decide +kernel
theorem dX6_add_93 : decode cX6_add 93 = .ok (.iadd, 1) := by decide +kernel
theorem dX6_add_94 : decode cX6_add 94 = .ok (.putfield 40, 3) := by decide +kernel
theorem dX6_add_97 : decode cX6_add 97 = .ok (.return_, 1) := by decide +kernel
theorem dX6_addBox_0 : decode cX6_addBox 0 = .ok (.aload_n 0, 1) := by decide +kernel
theorem dX6_addBox_1 : decode cX6_addBox 1 = .ok (.getfield 37, 3) := by decide +kernel
theorem dX6_addBox_4 : decode cX6_addBox 4 = .ok (.iload_n 1, 1) := by decide +kernel
theorem dX6_addBox_5 : decode cX6_addBox 5 = .ok (.invokevirtual 54, 3) := by decide +kernel
theorem dX6_addBox_8 : decode cX6_addBox 8 = .ok (.istore_n 3, 1) := by decide +kernel
theorem dX6_addBox_9 : decode cX6_addBox 9 = .ok (.aload_n 0, 1) := by decide +kernel
theorem dX6_addBox_10 : decode cX6_addBox 10 = .ok (.getfield 32, 3) := by decide +kernel
theorem dX6_addBox_13 : decode cX6_addBox 13 = .ok (.aload_n 0, 1) := by decide +kernel
theorem dX6_addBox_14 : decode cX6_addBox 14 = .ok (.getfield 29, 3) := by decide +kernel
theorem dX6_addBox_17 : decode cX6_addBox 17 = .ok (.iload_n 3, 1) := by decide +kernel
theorem dX6_addBox_18 : decode cX6_addBox 18 = .ok (.invokevirtual 54, 3) := by decide +kernel
theorem dX6_addBox_21 : decode cX6_addBox 21 = .ok (.iload_n 2, 1) := by decide +kernel
theorem dX6_addBox_22 : decode cX6_addBox 22 = .ok (.invokevirtual 47, 3) := by decide +kernel
theorem dX6_addBox_25 : decode cX6_addBox 25 = .ok (.aload_n 0, 1) := by decide +kernel
theorem dX6_addBox_26 : decode cX6_addBox 26 = .ok (.getfield 29, 3) := by decide +kernel
theorem dX6_addBox_29 : decode cX6_addBox 29 = .ok (.iload_n 3, 1) := by decide +kernel
theorem dX6_addBox_30 : decode cX6_addBox 30 = .ok (.iconst 1, 1) := by decide +kernel
theorem dX6_addBox_31 : decode cX6_addBox 31 = .ok (.invokevirtual 58, 3) := by decide +kernel
theorem dX6_addBox_34 : decode cX6_addBox 34 = .ok (.iload_n 3, 1) := by decide +kernel
theorem dX6_addBox_35 : decode cX6_addBox 35 = .ok (.ireturn, 1) := by decide +kernel
theorem dX6_left_0 : decode cX6_left 0 = .ok (.aload_n 0, 1) := by decide +kernel
theorem dX6_left_1 : decode cX6_left 1 = .ok (.getfield 29, 3) := by decide +kernel
theorem dX6_left_4 : decode cX6_left 4 = .ok (.iload_n 1, 1) := by decide +kernel
theorem dX6_left_5 : decode cX6_left 5 = .ok (.invokevirtual 54, 3) := by decide +kernel
theorem dX6_left_8 : decode cX6_left 8 = .ok (.aload_n 0, 1) := by decide +kernel
theorem dX6_left_9 : decode cX6_left 9 = .ok (.getfield 26, 3) := by decide +kernel
theorem dX6_left_12 : decode cX6_left 12 = .ok (.iload_n 1, 1) := by decide +kernel
theorem dX6_left_13 : decode cX6_left 13 = .ok (.invokevirtual 54, 3) := by decide +kernel
theorem dX6_left_16 : decode cX6_left 16 = .ok (.isub, 1) := by decide +kernel
theorem dX6_left_17 : decode cX6_left 17 = .ok (.ireturn, 1) := by decide +kernel
theorem dX6_boxAt_0 : decode cX6_boxAt 0 = .ok (.aload_n 0, 1) := by decide +kernel
theorem dX6_boxAt_1 : decode cX6_boxAt 1 = .ok (.getfield 32, 3) := by decide +kernel
theorem dX6_boxAt_4 : decode cX6_boxAt 4 = .ok (.aload_n 0, 1) := by decide +kernel
theorem dX6_boxAt_5 : decode cX6_boxAt 5 = .ok (.getfield 26, 3) := by decide +kernel
theorem dX6_boxAt_8 : decode cX6_boxAt 8 = .ok (.iload_n 1, 1) := by decide +kernel
theorem dX6_boxAt_9 : decode cX6_boxAt 9 = .ok (.invokevirtual 54, 3) := by decide +kernel
theorem dX6_boxAt_12 : decode cX6_boxAt 12 = .ok (.iload_n 2, 1) := by decide +kernel
theorem dX6_boxAt_13 : decode cX6_boxAt 13 = .ok (.iadd, 1) := by decide +kernel
theorem dX6_boxAt_14 : decode cX6_boxAt 14 = .ok (.invokevirtual 54, 3) := by decide +kernel
theorem dX6_boxAt_17 : decode cX6_boxAt 17 = .ok (.ireturn, 1) := by decide +kernel
theorem dX6_countIn_0 : decode cX6_countIn 0 = .ok (.iconst 0, 1) := by decide +kernel
theorem dX6_countIn_1 : decode cX6_countIn 1 = .ok (.istore_n 2, 1) := by decide +kernel
theorem dX6_countIn_2 : decode cX6_countIn 2 = .ok (.iconst 0, 1) := by decide +kernel
theorem dX6_countIn_3 : decode cX6_countIn 3 = .ok (.istore_n 3, 1) := by decide +kernel
theorem dX6_countIn_4 : decode cX6_countIn 4 = .ok (.iload_n 3, 1) := by decide +kernel
theorem dX6_countIn_5 : decode cX6_countIn 5 = .ok (.aload_n 0, 1) := by decide +kernel
theorem dX6_countIn_6 : decode cX6_countIn 6 = .ok (.getfield 40, 3) := by decide +kernel
theorem dX6_countIn_9 : decode cX6_countIn 9 = .ok (.if_icmp .ge 24, 3) := by decide +kernel
theorem dX6_countIn_12 : decode cX6_countIn 12 = .ok (.aload_n 0, 1) := by decide +kernel
theorem dX6_countIn_13 : decode cX6_countIn 13 = .ok (.getfield 23, 3) := by decide +kernel
theorem dX6_countIn_16 : decode cX6_countIn 16 = .ok (.iload_n 3, 1) := by decide +kernel
theorem dX6_countIn_17 : decode cX6_countIn 17 = .ok (.invokevirtual 54, 3) := by decide +kernel
theorem dX6_countIn_20 : decode cX6_countIn 20 = .ok (.iload_n 1, 1) := by decide +kernel
theorem dX6_countIn_21 : decode cX6_countIn 21 = .ok (.if_icmp .ne 6, 3) := by decide +kernel
theorem dX6_countIn_24 : decode cX6_countIn 24 = .ok (.iinc 2 1, 3) := by decide +kernel
theorem dX6_countIn_27 : decode cX6_countIn 27 = .ok (.iinc 3 1, 3) := by decide +kernel
theorem dX6_countIn_30 : decode cX6_countIn 30 = .ok (.goto (-26), 3) := by decide +kernel
theorem dX6_countIn_33 : decode cX6_countIn 33 = .ok (.iload_n 2, 1) := by decide +kernel
theorem dX6_countIn_34 : decode cX6_countIn 34 = .ok (.ireturn, 1) := by decide +kernel
theorem dX6_nextIn_0 : decode cX6_nextIn 0 = .ok (.iload_n 2, 1) := by decide +kernel
theorem dX6_nextIn_1 : decode cX6_nextIn 1 = .ok (.iconst 1, 1) := by decide +kernel
theorem dX6_nextIn_2 : decode cX6_nextIn 2 = .ok (.iadd, 1) := by decide +kernel
theorem dX6_nextIn_3 : decode cX6_nextIn 3 = .ok (.istore_n 3, 1) := by decide +kernel
theorem dX6_nextIn_4 : decode cX6_nextIn 4 = .ok (.iload_n 3, 1) := by decide +kernel
theorem dX6_nextIn_5 : decode cX6_nextIn 5 = .ok (.aload_n 0, 1) := by decide +kernel
theorem dX6_nextIn_6 : decode cX6_nextIn 6 = .ok (.getfield 40, 3) := by decide +kernel
theorem dX6_nextIn_9 : decode cX6_nextIn 9 = .ok (.if_icmp .ge 23, 3) := by decide +kernel
theorem dX6_nextIn_12 : decode cX6_nextIn 12 = .ok (.aload_n 0, 1) := by decide +kernel
theorem dX6_nextIn_13 : decode cX6_nextIn 13 = .ok (.getfield 23, 3) := by decide +kernel
theorem dX6_nextIn_16 : decode cX6_nextIn 16 = .ok (.iload_n 3, 1) := by decide +kernel
theorem dX6_nextIn_17 : decode cX6_nextIn 17 = .ok (.invokevirtual 54, 3) := by decide +kernel
theorem dX6_nextIn_20 : decode cX6_nextIn 20 = .ok (.iload_n 1, 1) := by decide +kernel
theorem dX6_nextIn_21 : decode cX6_nextIn 21 = .ok (.if_icmp .ne 5, 3) := by decide +kernel
theorem dX6_nextIn_24 : decode cX6_nextIn 24 = .ok (.iload_n 3, 1) := by decide +kernel
theorem dX6_nextIn_25 : decode cX6_nextIn 25 = .ok (.ireturn, 1) := by decide +kernel
theorem dX6_nextIn_26 : decode cX6_nextIn 26 = .ok (.iinc 3 1, 3) := by decide +kernel
theorem dX6_nextIn_29 : decode cX6_nextIn 29 = .ok (.goto (-25), 3) := by decide +kernel
theorem dX6_nextIn_32 : decode cX6_nextIn 32 = .ok (.iconst (-1), 1) := by decide +kernel
theorem dX6_nextIn_33 : decode cX6_nextIn 33 = .ok (.ireturn, 1) := by decide +kernel
theorem dX7_init_0 : decode cX7_init 0 = .ok (.aload_n 0, 1) := by decide +kernel
theorem dX7_init_1 : decode cX7_init 1 = .ok (.invokespecial 3, 3) := by decide +kernel
theorem dX7_init_4 : decode cX7_init 4 = .ok (.aload_n 0, 1) := by decide +kernel
theorem dX7_init_5 : decode cX7_init 5 = .ok (.new 9, 3) := by decide +kernel
theorem dX7_init_8 : decode cX7_init 8 = .ok (.dup, 1) := by decide +kernel
theorem dX7_init_9 : decode cX7_init 9 = .ok (.bipush 24, 2) := by decide +kernel
theorem dX7_init_11 : decode cX7_init 11 = .ok (.iconst 0, 1) := by decide +kernel
theorem dX7_init_12 : decode cX7_init 12 = .ok (.invokespecial 11, 3) := by decide +kernel
theorem dX7_init_15 : decode cX7_init 15 = .ok (.putfield 14, 3) := by decide +kernel
theorem dX7_init_18 : decode cX7_init 18 = .ok (.aload_n 0, 1) := by decide +kernel
theorem dX7_init_19 : decode cX7_init 19 = .ok (.new 9, 3) := by decide +kernel
theorem dX7_init_22 : decode cX7_init 22 = .ok (.dup, 1) := by decide +kernel
theorem dX7_init_23 : decode cX7_init 23 = .ok (.bipush 24, 2) := by decide +kernel
theorem dX7_init_25 : decode cX7_init 25 = .ok (.iconst 0, 1) := by decide +kernel
theorem dX7_init_26 : decode cX7_init 26 = .ok (.invokespecial 11, 3) := by decide +kernel
theorem dX7_init_29 : decode cX7_init 29 = .ok (.putfield 20, 3) := by decide +kernel
theorem dX7_init_32 : decode cX7_init 32 = .ok (.aload_n 0, 1) := by decide +kernel
theorem dX7_init_33 : decode cX7_init 33 = .ok (.new 9, 3) := by decide +kernel
theorem dX7_init_36 : decode cX7_init 36 = .ok (.dup, 1) := by decide +kernel
theorem dX7_init_37 : decode cX7_init 37 = .ok (.bipush 24, 2) := by decide +kernel
theorem dX7_init_39 : decode cX7_init 39 = .ok (.iconst (-1), 1) := by decide +kernel
theorem dX7_init_40 : decode cX7_init 40 = .ok (.invokespecial 11, 3) := by decide +kernel
theorem dX7_init_43 : decode cX7_init 43 = .ok (.putfield 23, 3) := by decide +kernel
theorem dX7_init_46 : decode cX7_init 46 = .ok (.return_, 1) := by decide +kernel
theorem dX7_placeOf_0 : decode cX7_placeOf 0 = .ok (.iload_n 0, 1) := by decide +kernel
theorem dX7_placeOf_1 : decode cX7_placeOf 1 = .ok (.bipush 8, 2) := by decide +kernel
theorem dX7_placeOf_3 : decode cX7_placeOf 3 = .ok (.imul, 1) := by decide +kernel
theorem dX7_placeOf_4 : decode cX7_placeOf 4 = .ok (.iload_n 1, 1) := by decide +kernel
theorem dX7_placeOf_5 : decode cX7_placeOf 5 = .ok (.iadd, 1) := by decide +kernel
theorem dX7_placeOf_6 : decode cX7_placeOf 6 = .ok (.ireturn, 1) := by decide +kernel
theorem dX7_make_0 : decode cX7_make 0 = .ok (.iload_n 1, 1) := by decide +kernel
theorem dX7_make_1 : decode cX7_make 1 = .ok (.iload_n 2, 1) := by decide +kernel
theorem dX7_make_2 : decode cX7_make 2 = .ok (.invokestatic 26, 3) := by decide +kernel
theorem dX7_make_5 : decode cX7_make 5 = .ok (.istore 6, 2) := by decide +kernel
theorem dX7_make_7 : decode cX7_make 7 = .ok (.aload_n 0, 1) := by decide +kernel
theorem dX7_make_8 : decode cX7_make 8 = .ok (.getfield 14, 3) := by decide +kernel
theorem dX7_make_11 : decode cX7_make 11 = .ok (.iload 6, 2) := by decide +kernel
theorem dX7_make_13 : decode cX7_make 13 = .ok (.iload_n 3, 1) := by decide +kernel
theorem dX7_make_14 : decode cX7_make 14 = .ok (.invokevirtual 30, 3) := by decide +kernel
theorem dX7_make_17 : decode cX7_make 17 = .ok (.aload_n 0, 1) := by decide +kernel
theorem dX7_make_18 : decode cX7_make 18 = .ok (.getfield 20, 3) := by decide +kernel
theorem dX7_make_21 : decode cX7_make 21 = .ok (.iload 6, 2) := by decide +kernel
theorem dX7_make_23 : decode cX7_make 23 = .ok (.iload 4, 2) := by decide +kernel
theorem dX7_make_25 : decode cX7_make 25 = .ok (.invokevirtual 30, 3) := by decide +kernel
theorem dX7_make_28 : decode cX7_make 28 = .ok (.aload_n 0, 1) := by decide +kernel
theorem dX7_make_29 : decode cX7_make 29 = .ok (.getfield 23, 3) := by decide +kernel
theorem dX7_make_32 : decode cX7_make 32 = .ok (.iload 6, 2) := by decide +kernel
theorem dX7_make_34 : decode cX7_make 34 = .ok (.iload 5, 2) := by decide +kernel
theorem dX7_make_36 : decode cX7_make 36 = .ok (.invokevirtual 30, 3) := by decide +kernel
theorem dX7_make_39 : decode cX7_make 39 = .ok (.return_, 1) := by decide +kernel
theorem dX7_forget_0 : decode cX7_forget 0 = .ok (.iconst 0, 1) := by decide +kernel
theorem dX7_forget_1 : decode cX7_forget 1 = .ok (.istore_n 2, 1) := by decide +kernel
theorem dX7_forget_2 : decode cX7_forget 2 = .ok (.iload_n 2, 1) := by decide +kernel
theorem dX7_forget_3 : decode cX7_forget 3 = .ok (.bipush 8, 2) := by decide +kernel
theorem dX7_forget_5 : decode cX7_forget 5 = .ok (.if_icmp .ge 22, 3) := by decide +kernel
theorem dX7_forget_8 : decode cX7_forget 8 = .ok (.aload_n 0, 1) := by decide +kernel
theorem dX7_forget_9 : decode cX7_forget 9 = .ok (.getfield 23, 3) := by decide +kernel
theorem dX7_forget_12 : decode cX7_forget 12 = .ok (.iload_n 1, 1) := by decide +kernel
theorem dX7_forget_13 : decode cX7_forget 13 = .ok (.iload_n 2, 1) := by decide +kernel
theorem dX7_forget_14 : decode cX7_forget 14 = .ok (.invokestatic 26, 3) := by decide +kernel
theorem dX7_forget_17 : decode cX7_forget 17 = .ok (.iconst (-1), 1) := by decide +kernel
theorem dX7_forget_18 : decode cX7_forget 18 = .ok (.invokevirtual 30, 3) := by decide +kernel
theorem dX7_forget_21 : decode cX7_forget 21 = .ok (.iinc 2 1, 3) := by decide +kernel
theorem dX7_forget_24 : decode cX7_forget 24 = .ok (.goto (-22), 3) := by decide +kernel
theorem dX7_forget_27 : decode cX7_forget 27 = .ok (.return_, 1) := by decide +kernel
theorem dX7_isMade_0 : decode cX7_isMade 0 = .ok (.aload_n 0, 1) := by decide +kernel
theorem dX7_isMade_1 : decode cX7_isMade 1 = .ok (.getfield 23, 3) := by decide +kernel
theorem dX7_isMade_4 : decode cX7_isMade 4 = .ok (.iload_n 1, 1) := by decide +kernel
theorem dX7_isMade_5 : decode cX7_isMade 5 = .ok (.iload_n 2, 1) := by decide +kernel
theorem dX7_isMade_6 : decode cX7_isMade 6 = .ok (.invokestatic 26, 3) := by decide +kernel
theorem dX7_isMade_9 : decode cX7_isMade 9 = .ok (.invokevirtual 33, 3) := by decide +kernel
theorem dX7_isMade_12 : decode cX7_isMade 12 = .ok (.iconst (-1), 1) := by decide +kernel
theorem dX7_isMade_13 : decode cX7_isMade 13 = .ok (.if_icmp .eq 7, 3) := by decide +kernel
theorem dX7_isMade_16 : decode cX7_isMade 16 = .ok (.iconst 1, 1) := by decide +kernel
theorem dX7_isMade_17 : decode cX7_isMade 17 = .ok (.goto 4, 3) := by decide +kernel
theorem dX7_isMade_20 : decode cX7_isMade 20 = .ok (.iconst 0, 1) := by decide +kernel
theorem dX7_isMade_21 : decode cX7_isMade 21 = .ok (.ireturn, 1) := by decide +kernel
theorem dX7_isHeard_0 : decode cX7_isHeard 0 = .ok (.aload_n 0, 1) := by decide +kernel
theorem dX7_isHeard_1 : decode cX7_isHeard 1 = .ok (.iload_n 1, 1) := by decide +kernel
theorem dX7_isHeard_2 : decode cX7_isHeard 2 = .ok (.iload_n 2, 1) := by decide +kernel
theorem dX7_isHeard_3 : decode cX7_isHeard 3 = .ok (.invokevirtual 37, 3) := by decide +kernel
theorem dX7_isHeard_6 : decode cX7_isHeard 6 = .ok (.ifCond .eq 23, 3) := by decide +kernel
theorem dX7_isHeard_9 : decode cX7_isHeard 9 = .ok (.aload_n 0, 1) := by decide +kernel
theorem dX7_isHeard_10 : decode cX7_isHeard 10 = .ok (.getfield 23, 3) := by decide +kernel
theorem dX7_isHeard_13 : decode cX7_isHeard 13 = .ok (.iload_n 1, 1) := by decide +kernel
theorem dX7_isHeard_14 : decode cX7_isHeard 14 = .ok (.iload_n 2, 1) := by decide +kernel
theorem dX7_isHeard_15 : decode cX7_isHeard 15 = .ok (.invokestatic 26, 3) := by decide +kernel
theorem dX7_isHeard_18 : decode cX7_isHeard 18 = .ok (.invokevirtual 33, 3) := by decide +kernel
theorem dX7_isHeard_21 : decode cX7_isHeard 21 = .ok (.iload_n 3, 1) := by decide +kernel
theorem dX7_isHeard_22 : decode cX7_isHeard 22 = .ok (.if_icmp .gt 7, 3) := by decide +kernel
theorem dX7_isHeard_25 : decode cX7_isHeard 25 = .ok (.iconst 1, 1) := by decide +kernel
theorem dX7_isHeard_26 : decode cX7_isHeard 26 = .ok (.goto 4, 3) := by decide +kernel
theorem dX7_isHeard_29 : decode cX7_isHeard 29 = .ok (.iconst 0, 1) := by decide +kernel
theorem dX7_isHeard_30 : decode cX7_isHeard 30 = .ok (.ireturn, 1) := by decide +kernel
theorem dX7_isAnyHeard_0 : decode cX7_isAnyHeard 0 = .ok (.iconst 0, 1) := by decide +kernel
theorem dX7_isAnyHeard_1 : decode cX7_isAnyHeard 1 = .ok (.istore_n 3, 1) := by decide +kernel
theorem dX7_isAnyHeard_2 : decode cX7_isAnyHeard 2 = .ok (.iload_n 3, 1) := by decide +kernel
theorem dX7_isAnyHeard_3 : decode cX7_isAnyHeard 3 = .ok (.bipush 8, 2) := by decide +kernel
theorem dX7_isAnyHeard_5 : decode cX7_isAnyHeard 5 = .ok (.if_icmp .ge 21, 3) := by decide +kernel
theorem dX7_isAnyHeard_8 : decode cX7_isAnyHeard 8 = .ok (.aload_n 0, 1) := by decide +kernel
theorem dX7_isAnyHeard_9 : decode cX7_isAnyHeard 9 = .ok (.iload_n 1, 1) := by decide +kernel
theorem dX7_isAnyHeard_10 : decode cX7_isAnyHeard 10 = .ok (.iload_n 3, 1) := by decide +kernel
theorem dX7_isAnyHeard_11 : decode cX7_isAnyHeard 11 = .ok (.iload_n 2, 1) := by decide +kernel
theorem dX7_isAnyHeard_12 : decode cX7_isAnyHeard 12 = .ok (.invokevirtual 41, 3) := by decide +kernel
theorem dX7_isAnyHeard_15 : decode cX7_isAnyHeard 15 = .ok (.ifCond .eq 5, 3) := by decide +kernel
theorem dX7_isAnyHeard_18 : decode cX7_isAnyHeard 18 = .ok (.iconst 1, 1) := by decide +kernel
theorem dX7_isAnyHeard_19 : decode cX7_isAnyHeard 19 = .ok (.ireturn, 1) := by decide +kernel
theorem dX7_isAnyHeard_20 : decode cX7_isAnyHeard 20 = .ok (.iinc 3 1, 3) := by decide +kernel
theorem dX7_isAnyHeard_23 : decode cX7_isAnyHeard 23 = .ok (.goto (-21), 3) := by decide +kernel
theorem dX7_isAnyHeard_26 : decode cX7_isAnyHeard 26 = .ok (.iconst 0, 1) := by decide +kernel
theorem dX7_isAnyHeard_27 : decode cX7_isAnyHeard 27 = .ok (.ireturn, 1) := by decide +kernel
theorem dX7_priceOf_0 : decode cX7_priceOf 0 = .ok (.aload_n 0, 1) := by decide +kernel
theorem dX7_priceOf_1 : decode cX7_priceOf 1 = .ok (.getfield 14, 3) := by decide +kernel
theorem dX7_priceOf_4 : decode cX7_priceOf 4 = .ok (.iload_n 1, 1) := by decide +kernel
theorem dX7_priceOf_5 : decode cX7_priceOf 5 = .ok (.iload_n 2, 1) := by decide +kernel
theorem dX7_priceOf_6 : decode cX7_priceOf 6 = .ok (.invokestatic 26, 3) := by decide +kernel
theorem dX7_priceOf_9 : decode cX7_priceOf 9 = .ok (.invokevirtual 33, 3) := by decide +kernel
theorem dX7_priceOf_12 : decode cX7_priceOf 12 = .ok (.ireturn, 1) := by decide +kernel
theorem dX7_isAhead_0 : decode cX7_isAhead 0 = .ok (.aload_n 0, 1) := by decide +kernel
theorem dX7_isAhead_1 : decode cX7_isAhead 1 = .ok (.iload_n 1, 1) := by decide +kernel
theorem dX7_isAhead_2 : decode cX7_isAhead 2 = .ok (.iload_n 2, 1) := by decide +kernel
theorem dX7_isAhead_3 : decode cX7_isAhead 3 = .ok (.invokevirtual 45, 3) := by decide +kernel
theorem dX7_isAhead_6 : decode cX7_isAhead 6 = .ok (.aload_n 0, 1) := by decide +kernel
theorem dX7_isAhead_7 : decode cX7_isAhead 7 = .ok (.iload_n 1, 1) := by decide +kernel
theorem dX7_isAhead_8 : decode cX7_isAhead 8 = .ok (.iload_n 3, 1) := by decide +kernel
theorem dX7_isAhead_9 : decode cX7_isAhead 9 = .ok (.invokevirtual 45, 3) := by decide +kernel
theorem dX7_isAhead_12 : decode cX7_isAhead 12 = .ok (.isub, 1) := by decide +kernel
theorem dX7_isAhead_13 : decode cX7_isAhead 13 = .ok (.istore 4, 2) := by decide +kernel
theorem dX7_isAhead_15 : decode cX7_isAhead 15 = .ok (.aload_n 0, 1) := by decide +kernel
theorem dX7_isAhead_16 : decode cX7_isAhead 16 = .ok (.getfield 20, 3) := by decide +kernel
theorem dX7_isAhead_19 : decode cX7_isAhead 19 = .ok (.iload_n 1, 1) := by decide +kernel
theorem dX7_isAhead_20 : decode cX7_isAhead 20 = .ok (.iload_n 2, 1) := by decide +kernel
theorem dX7_isAhead_21 : decode cX7_isAhead 21 = .ok (.invokestatic 26, 3) := by decide +kernel
theorem dX7_isAhead_24 : decode cX7_isAhead 24 = .ok (.invokevirtual 33, 3) := by decide +kernel
theorem dX7_isAhead_27 : decode cX7_isAhead 27 = .ok (.aload_n 0, 1) := by decide +kernel
theorem dX7_isAhead_28 : decode cX7_isAhead 28 = .ok (.getfield 20, 3) := by decide +kernel
theorem dX7_isAhead_31 : decode cX7_isAhead 31 = .ok (.iload_n 1, 1) := by decide +kernel
theorem dX7_isAhead_32 : decode cX7_isAhead 32 = .ok (.iload_n 3, 1) := by decide +kernel
theorem dX7_isAhead_33 : decode cX7_isAhead 33 = .ok (.invokestatic 26, 3) := by decide +kernel
theorem dX7_isAhead_36 : decode cX7_isAhead 36 = .ok (.invokevirtual 33, 3) := by decide +kernel
theorem dX7_isAhead_39 : decode cX7_isAhead 39 = .ok (.isub, 1) := by decide +kernel
theorem dX7_isAhead_40 : decode cX7_isAhead 40 = .ok (.istore 5, 2) := by decide +kernel
theorem dX7_isAhead_42 : decode cX7_isAhead 42 = .ok (.iload 4, 2) := by decide +kernel
theorem dX7_isAhead_44 : decode cX7_isAhead 44 = .ok (.ifCond .gt 13, 3) := by decide +kernel
theorem dX7_isAhead_47 : decode cX7_isAhead 47 = .ok (.iload 4, 2) := by decide +kernel
theorem dX7_isAhead_49 : decode cX7_isAhead 49 = .ok (.ifCond .ne 12, 3) := by decide +kernel
theorem dX7_isAhead_52 : decode cX7_isAhead 52 = .ok (.iload 5, 2) := by decide +kernel
theorem dX7_isAhead_54 : decode cX7_isAhead 54 = .ok (.ifCond .ge 7, 3) := by decide +kernel
theorem dX7_isAhead_57 : decode cX7_isAhead 57 = .ok (.iconst 1, 1) := by decide +kernel
theorem dX7_isAhead_58 : decode cX7_isAhead 58 = .ok (.goto 4, 3) := by decide +kernel
theorem dX7_isAhead_61 : decode cX7_isAhead 61 = .ok (.iconst 0, 1) := by decide +kernel
theorem dX7_isAhead_62 : decode cX7_isAhead 62 = .ok (.ireturn, 1) := by decide +kernel
theorem dX8_init_0 : decode cX8_init 0 = .ok (.aload_n 0, 1) := by decide +kernel
theorem dX8_init_1 : decode cX8_init 1 = .ok (.invokespecial 1, 3) := by decide +kernel
theorem dX8_init_4 : decode cX8_init 4 = .ok (.aload_n 0, 1) := by decide +kernel
theorem dX8_init_5 : decode cX8_init 5 = .ok (.iload_n 1, 1) := by decide +kernel
theorem dX8_init_6 : decode cX8_init 6 = .ok (.ifCond .ge 7, 3) := by decide +kernel
theorem dX8_init_9 : decode cX8_init 9 = .ok (.iconst 0, 1) := by decide +kernel
theorem dX8_init_10 : decode cX8_init 10 = .ok (.goto 4, 3) := by decide +kernel
theorem dX8_init_13 : decode cX8_init 13 = .ok (.iload_n 1, 1) := by decide +kernel
theorem dX8_init_14 : decode cX8_init 14 = .ok (.newarray .int, 2) := by decide +kernel
theorem dX8_init_16 : decode cX8_init 16 = .ok (.putfield 7, 3) := by decide +kernel
theorem dX8_init_19 : decode cX8_init 19 = .ok (.iconst 0, 1) := by decide +kernel
theorem dX8_init_20 : decode cX8_init 20 = .ok (.istore_n 3, 1) := by decide +kernel
theorem dX8_init_21 : decode cX8_init 21 = .ok (.iload_n 3, 1) := by decide +kernel
theorem dX8_init_22 : decode cX8_init 22 = .ok (.aload_n 0, 1) := by decide +kernel
theorem dX8_init_23 : decode cX8_init 23 = .ok (.getfield 7, 3) := by decide +kernel
theorem dX8_init_26 : decode cX8_init 26 = .ok (.arraylength, 1) := by decide +kernel
theorem dX8_init_27 : decode cX8_init 27 = .ok (.if_icmp .ge 16, 3) := by decide +kernel
theorem dX8_init_30 : decode cX8_init 30 = .ok (.aload_n 0, 1) := by decide +kernel
theorem dX8_init_31 : decode cX8_init 31 = .ok (.getfield 7, 3) := by decide +kernel
theorem dX8_init_34 : decode cX8_init 34 = .ok (.iload_n 3, 1) := by decide +kernel
theorem dX8_init_35 : decode cX8_init 35 = .ok (.iload_n 2, 1) := by decide +kernel
theorem dX8_init_36 : decode cX8_init 36 = .ok (.iastore, 1) := by decide +kernel
theorem dX8_init_37 : decode cX8_init 37 = .ok (.iinc 3 1, 3) := by decide +kernel
theorem dX8_init_40 : decode cX8_init 40 = .ok (.goto (-19), 3) := by decide +kernel
theorem dX8_init_43 : decode cX8_init 43 = .ok (.return_, 1) := by decide +kernel
theorem dX8_at_0 : decode cX8_at 0 = .ok (.iload_n 1, 1) := by decide +kernel
theorem dX8_at_1 : decode cX8_at 1 = .ok (.ifCond .lt 21, 3) := by decide +kernel
theorem dX8_at_4 : decode cX8_at 4 = .ok (.iload_n 1, 1) := by decide +kernel
theorem dX8_at_5 : decode cX8_at 5 = .ok (.aload_n 0, 1) := by decide +kernel
theorem dX8_at_6 : decode cX8_at 6 = .ok (.getfield 7, 3) := by decide +kernel
theorem dX8_at_9 : decode cX8_at 9 = .ok (.arraylength, 1) := by decide +kernel
theorem dX8_at_10 : decode cX8_at 10 = .ok (.if_icmp .ge 12, 3) := by decide +kernel
theorem dX8_at_13 : decode cX8_at 13 = .ok (.aload_n 0, 1) := by decide +kernel
theorem dX8_at_14 : decode cX8_at 14 = .ok (.getfield 7, 3) := by decide +kernel
theorem dX8_at_17 : decode cX8_at 17 = .ok (.iload_n 1, 1) := by decide +kernel
theorem dX8_at_18 : decode cX8_at 18 = .ok (.iaload, 1) := by decide +kernel
theorem dX8_at_19 : decode cX8_at 19 = .ok (.goto 4, 3) := by decide +kernel
theorem dX8_at_22 : decode cX8_at 22 = .ok (.iconst 0, 1) := by decide +kernel
theorem dX8_at_23 : decode cX8_at 23 = .ok (.ireturn, 1) := by decide +kernel
theorem dX8_put_0 : decode cX8_put 0 = .ok (.iload_n 1, 1) := by decide +kernel
theorem dX8_put_1 : decode cX8_put 1 = .ok (.ifCond .lt 19, 3) := by decide +kernel
theorem dX8_put_4 : decode cX8_put 4 = .ok (.iload_n 1, 1) := by decide +kernel
theorem dX8_put_5 : decode cX8_put 5 = .ok (.aload_n 0, 1) := by decide +kernel
theorem dX8_put_6 : decode cX8_put 6 = .ok (.getfield 7, 3) := by decide +kernel
theorem dX8_put_9 : decode cX8_put 9 = .ok (.arraylength, 1) := by decide +kernel
theorem dX8_put_10 : decode cX8_put 10 = .ok (.if_icmp .ge 10, 3) := by decide +kernel
theorem dX8_put_13 : decode cX8_put 13 = .ok (.aload_n 0, 1) := by decide +kernel
theorem dX8_put_14 : decode cX8_put 14 = .ok (.getfield 7, 3) := by decide +kernel
theorem dX8_put_17 : decode cX8_put 17 = .ok (.iload_n 1, 1) := by decide +kernel
theorem dX8_put_18 : decode cX8_put 18 = .ok (.iload_n 2, 1) := by decide +kernel
theorem dX8_put_19 : decode cX8_put 19 = .ok (.iastore, 1) := by decide +kernel
theorem dX8_put_20 : decode cX8_put 20 = .ok (.return_, 1) := by decide +kernel
theorem dX8_add_0 : decode cX8_add 0 = .ok (.iload_n 1, 1) := by decide +kernel
theorem dX8_add_1 : decode cX8_add 1 = .ok (.ifCond .lt 22, 3) := by decide +kernel
theorem dX8_add_4 : decode cX8_add 4 = .ok (.iload_n 1, 1) := by decide +kernel
theorem dX8_add_5 : decode cX8_add 5 = .ok (.aload_n 0, 1) := by decide +kernel
theorem dX8_add_6 : decode cX8_add 6 = .ok (.getfield 7, 3) := by decide +kernel
theorem dX8_add_9 : decode cX8_add 9 = .ok (.arraylength, 1) := by decide +kernel
theorem dX8_add_10 : decode cX8_add 10 = .ok (.if_icmp .ge 13, 3) := by decide +kernel
theorem dX8_add_13 : decode cX8_add 13 = .ok (.aload_n 0, 1) := by decide +kernel
theorem dX8_add_14 : decode cX8_add 14 = .ok (.getfield 7, 3) := by decide +kernel
theorem dX8_add_17 : decode cX8_add 17 = .ok (.iload_n 1, 1) := by decide +kernel
theorem dX8_add_18 : decode cX8_add 18 = .ok (.dup2, 1) := by decide +kernel
theorem dX8_add_19 : decode cX8_add 19 = .ok (.iaload, 1) := by decide +kernel
theorem dX8_add_20 : decode cX8_add 20 = .ok (.iload_n 2, 1) := by decide +kernel
theorem dX8_add_21 : decode cX8_add 21 = .ok (.iadd, 1) := by decide +kernel
theorem dX8_add_22 : decode cX8_add 22 = .ok (.iastore, 1) := by decide +kernel
theorem dX8_add_23 : decode cX8_add 23 = .ok (.return_, 1) := by decide +kernel
theorem dX8_swap_0 : decode cX8_swap 0 = .ok (.aload_n 0, 1) := by decide +kernel
theorem dX8_swap_1 : decode cX8_swap 1 = .ok (.iload_n 1, 1) := by decide +kernel
theorem dX8_swap_2 : decode cX8_swap 2 = .ok (.invokevirtual 13, 3) := by decide +kernel
theorem dX8_swap_5 : decode cX8_swap 5 = .ok (.istore_n 3, 1) := by decide +kernel
theorem dX8_swap_6 : decode cX8_swap 6 = .ok (.aload_n 0, 1) := by decide +kernel
theorem dX8_swap_7 : decode cX8_swap 7 = .ok (.iload_n 1, 1) := by decide +kernel
theorem dX8_swap_8 : decode cX8_swap 8 = .ok (.iload_n 2, 1) := by decide +kernel
theorem dX8_swap_9 : decode cX8_swap 9 = .ok (.invokevirtual 17, 3) := by decide +kernel
theorem dX8_swap_12 : decode cX8_swap 12 = .ok (.iload_n 3, 1) := by decide +kernel
theorem dX8_swap_13 : decode cX8_swap 13 = .ok (.ireturn, 1) := by decide +kernel
theorem dX8_fill_0 : decode cX8_fill 0 = .ok (.iconst 0, 1) := by decide +kernel
theorem dX8_fill_1 : decode cX8_fill 1 = .ok (.istore_n 2, 1) := by decide +kernel
theorem dX8_fill_2 : decode cX8_fill 2 = .ok (.iload_n 2, 1) := by decide +kernel
theorem dX8_fill_3 : decode cX8_fill 3 = .ok (.aload_n 0, 1) := by decide +kernel
theorem dX8_fill_4 : decode cX8_fill 4 = .ok (.getfield 7, 3) := by decide +kernel
theorem dX8_fill_7 : decode cX8_fill 7 = .ok (.arraylength, 1) := by decide +kernel
theorem dX8_fill_8 : decode cX8_fill 8 = .ok (.if_icmp .ge 16, 3) := by decide +kernel
theorem dX8_fill_11 : decode cX8_fill 11 = .ok (.aload_n 0, 1) := by decide +kernel
theorem dX8_fill_12 : decode cX8_fill 12 = .ok (.getfield 7, 3) := by decide +kernel
theorem dX8_fill_15 : decode cX8_fill 15 = .ok (.iload_n 2, 1) := by decide +kernel
theorem dX8_fill_16 : decode cX8_fill 16 = .ok (.iload_n 1, 1) := by decide +kernel
theorem dX8_fill_17 : decode cX8_fill 17 = .ok (.iastore, 1) := by decide +kernel
theorem dX8_fill_18 : decode cX8_fill 18 = .ok (.iinc 2 1, 3) := by decide +kernel
theorem dX8_fill_21 : decode cX8_fill 21 = .ok (.goto (-19), 3) := by decide +kernel
theorem dX8_fill_24 : decode cX8_fill 24 = .ok (.return_, 1) := by decide +kernel
theorem dJ9_max_7cf53_0 : decode cJ9_max_7cf53 0 = .ok (.iload_n 0, 1) := by decide +kernel
theorem dJ9_max_7cf53_1 : decode cJ9_max_7cf53 1 = .ok (.iload_n 1, 1) := by decide +kernel
theorem dJ9_max_7cf53_2 : decode cJ9_max_7cf53 2 = .ok (.if_icmp .lt 7, 3) := by decide +kernel
theorem dJ9_max_7cf53_5 : decode cJ9_max_7cf53 5 = .ok (.iload_n 0, 1) := by decide +kernel
theorem dJ9_max_7cf53_6 : decode cJ9_max_7cf53 6 = .ok (.goto 4, 3) := by decide +kernel
theorem dJ9_max_7cf53_9 : decode cJ9_max_7cf53 9 = .ok (.iload_n 1, 1) := by decide +kernel
theorem dJ9_max_7cf53_10 : decode cJ9_max_7cf53 10 = .ok (.ireturn, 1) := by decide +kernel
theorem dJ9_max_f86c9_0 : decode cJ9_max_f86c9 0 = .ok (.lload_n 0, 1) := by decide +kernel
theorem dJ9_max_f86c9_1 : decode cJ9_max_f86c9 1 = .ok (.lload_n 2, 1) := by decide +kernel
theorem dJ9_max_f86c9_2 : decode cJ9_max_f86c9 2 = .ok (.lcmp, 1) := by decide +kernel
theorem dJ9_max_f86c9_3 : decode cJ9_max_f86c9 3 = .ok (.ifCond .lt 7, 3) := by decide +kernel
theorem dJ9_max_f86c9_6 : decode cJ9_max_f86c9 6 = .ok (.lload_n 0, 1) := by decide +kernel
theorem dJ9_max_f86c9_7 : decode cJ9_max_f86c9 7 = .ok (.goto 4, 3) := by decide +kernel
theorem dJ9_max_f86c9_10 : decode cJ9_max_f86c9 10 = .ok (.lload_n 2, 1) := by decide +kernel
theorem dJ9_max_f86c9_11 : decode cJ9_max_f86c9 11 = .ok (.lreturn, 1) := by decide +kernel
theorem dJ9_min_7cf53_0 : decode cJ9_min_7cf53 0 = .ok (.iload_n 0, 1) := by decide +kernel
theorem dJ9_min_7cf53_1 : decode cJ9_min_7cf53 1 = .ok (.iload_n 1, 1) := by decide +kernel
theorem dJ9_min_7cf53_2 : decode cJ9_min_7cf53 2 = .ok (.if_icmp .gt 7, 3) := by decide +kernel
theorem dJ9_min_7cf53_5 : decode cJ9_min_7cf53 5 = .ok (.iload_n 0, 1) := by decide +kernel
theorem dJ9_min_7cf53_6 : decode cJ9_min_7cf53 6 = .ok (.goto 4, 3) := by decide +kernel
theorem dJ9_min_7cf53_9 : decode cJ9_min_7cf53 9 = .ok (.iload_n 1, 1) := by decide +kernel
theorem dJ9_min_7cf53_10 : decode cJ9_min_7cf53 10 = .ok (.ireturn, 1) := by decide +kernel
end
section
theorem dX9_init_0 : decode cX9_init 0 = .ok (.aload_n 0, 1) := by decide +kernel
theorem dX9_init_1 : decode cX9_init 1 = .ok (.invokespecial 1, 3) := by decide +kernel
theorem dX9_init_4 : decode cX9_init 4 = .ok (.aload_n 0, 1) := by decide +kernel
theorem dX9_init_5 : decode cX9_init 5 = .ok (.new 7, 3) := by decide +kernel
theorem dX9_init_8 : decode cX9_init 8 = .ok (.dup, 1) := by decide +kernel
theorem dX9_init_9 : decode cX9_init 9 = .ok (.invokespecial 9, 3) := by decide +kernel
theorem dX9_init_12 : decode cX9_init 12 = .ok (.putfield 10, 3) := by decide +kernel
theorem dX9_init_15 : decode cX9_init 15 = .ok (.aload_n 0, 1) := by decide +kernel
theorem dX9_init_16 : decode cX9_init 16 = .ok (.new 16, 3) := by decide +kernel
theorem dX9_init_19 : decode cX9_init 19 = .ok (.dup, 1) := by decide +kernel
theorem dX9_init_20 : decode cX9_init 20 = .ok (.invokespecial 18, 3) := by decide +kernel
theorem dX9_init_23 : decode cX9_init 23 = .ok (.putfield 19, 3) := by decide +kernel
theorem dX9_init_26 : decode cX9_init 26 = .ok (.aload_n 0, 1) := by decide +kernel
theorem dX9_init_27 : decode cX9_init 27 = .ok (.new 23, 3) := by decide +kernel
theorem dX9_init_30 : decode cX9_init 30 = .ok (.dup, 1) := by decide +kernel
theorem dX9_init_31 : decode cX9_init 31 = .ok (.invokespecial 25, 3) := by decide +kernel
theorem dX9_init_34 : decode cX9_init 34 = .ok (.putfield 26, 3) := by decide +kernel
theorem dX9_init_37 : decode cX9_init 37 = .ok (.aload_n 0, 1) := by decide +kernel
theorem dX9_init_38 : decode cX9_init 38 = .ok (.new 30, 3) := by decide +kernel
theorem dX9_init_41 : decode cX9_init 41 = .ok (.dup, 1) := by decide +kernel
theorem dX9_init_42 : decode cX9_init 42 = .ok (.invokespecial 32, 3) := by decide +kernel
theorem dX9_init_45 : decode cX9_init 45 = .ok (.putfield 33, 3) := by decide +kernel
theorem dX9_init_48 : decode cX9_init 48 = .ok (.aload_n 0, 1) := by decide +kernel
theorem dX9_init_49 : decode cX9_init 49 = .ok (.new 37, 3) := by decide +kernel
theorem dX9_init_52 : decode cX9_init 52 = .ok (.dup, 1) := by decide +kernel
theorem dX9_init_53 : decode cX9_init 53 = .ok (.invokespecial 39, 3) := by decide +kernel
theorem dX9_init_56 : decode cX9_init 56 = .ok (.putfield 40, 3) := by decide +kernel
theorem dX9_init_59 : decode cX9_init 59 = .ok (.aload_n 0, 1) := by decide +kernel
theorem dX9_init_60 : decode cX9_init 60 = .ok (.new 44, 3) := by decide +kernel
theorem dX9_init_63 : decode cX9_init 63 = .ok (.dup, 1) := by decide +kernel
theorem dX9_init_64 : decode cX9_init 64 = .ok (.invokespecial 46, 3) := by decide +kernel
theorem dX9_init_67 : decode cX9_init 67 = .ok (.putfield 47, 3) := by decide +kernel
theorem dX9_init_70 : decode cX9_init 70 = .ok (.aload_n 0, 1) := by decide +kernel
theorem dX9_init_71 : decode cX9_init 71 = .ok (.new 51, 3) := by decide +kernel
theorem dX9_init_74 : decode cX9_init 74 = .ok (.dup, 1) := by decide +kernel
theorem dX9_init_75 : decode cX9_init 75 = .ok (.invokespecial 53, 3) := by decide +kernel
theorem dX9_init_78 : decode cX9_init 78 = .ok (.putfield 54, 3) := by decide +kernel
theorem dX9_init_81 : decode cX9_init 81 = .ok (.aload_n 0, 1) := by decide +kernel
theorem dX9_init_82 : decode cX9_init 82 = .ok (.new 58, 3) := by decide +kernel
theorem dX9_init_85 : decode cX9_init 85 = .ok (.dup, 1) := by decide +kernel
theorem dX9_init_86 : decode cX9_init 86 = .ok (.invokespecial 60, 3) := by decide +kernel
theorem dX9_init_89 : decode cX9_init 89 = .ok (.putfield 61, 3) := by decide +kernel
theorem dX9_init_92 : decode cX9_init 92 = .ok (.aload_n 0, 1) := by decide +kernel
theorem dX9_init_93 : decode cX9_init 93 = .ok (.iconst 0, 1) := by decide +kernel
theorem dX9_init_94 : decode cX9_init 94 = .ok (.putfield 65, 3) := by decide +kernel
theorem dX9_init_97 : decode cX9_init 97 = .ok (.aload_n 0, 1) := by decide +kernel
theorem dX9_init_98 : decode cX9_init 98 = .ok (.iconst 0, 1) := by decide +kernel
theorem dX9_init_99 : decode cX9_init 99 = .ok (.putfield 69, 3) := by decide +kernel
theorem dX9_init_102 : decode cX9_init 102 = .ok (.aload_n 0, 1) := by decide +kernel
theorem dX9_init_103 : decode cX9_init 103 = .ok (.iconst 0, 1) := by decide +kernel
theorem dX9_init_104 : decode cX9_init 104 = .ok (.putfield 72, 3) := by decide +kernel
theorem dX9_init_107 : decode cX9_init 107 = .ok (.aload_n 0, 1) := by decide +kernel
theorem dX9_init_108 : decode cX9_init 108 = .ok (.iconst 1, 1) := by decide +kernel
theorem dX9_init_109 : decode cX9_init 109 = .ok (.putfield 76, 3) := by decide +kernel
theorem dX9_init_112 : decode cX9_init 112 = .ok (.return_, 1) := by decide +kernel
theorem dX9_quota_0 : decode cX9_quota 0 = .ok (.iload_n 1, 1) := by decide +kernel
theorem dX9_quota_1 : decode cX9_quota 1 = .ok (.bipush 8, 2) := by decide +kernel
theorem dX9_quota_3 : decode cX9_quota 3 = .ok (.invokestatic 79, 3) := by decide +kernel
theorem dX9_quota_6 : decode cX9_quota 6 = .ok (.iload_n 2, 1) := by decide +kernel
theorem dX9_quota_7 : decode cX9_quota 7 = .ok (.iconst 4, 1) := by decide +kernel
theorem dX9_quota_8 : decode cX9_quota 8 = .ok (.invokestatic 79, 3) := by decide +kernel
theorem dX9_quota_11 : decode cX9_quota 11 = .ok (.iload_n 3, 1) := by decide +kernel
theorem dX9_quota_12 : decode cX9_quota 12 = .ok (.iconst 0, 1) := by decide +kernel
theorem dX9_quota_13 : decode cX9_quota 13 = .ok (.ldc 83, 2) := by decide +kernel
theorem dX9_quota_15 : decode cX9_quota 15 = .ok (.invokestatic 84, 3) := by decide +kernel
theorem dX9_quota_18 : decode cX9_quota 18 = .ok (.aload_n 0, 1) := by decide +kernel
theorem dX9_quota_19 : decode cX9_quota 19 = .ok (.getfield 10, 3) := by decide +kernel
theorem dX9_quota_22 : decode cX9_quota 22 = .ok (.getfield 88, 3) := by decide +kernel
theorem dX9_quota_25 : decode cX9_quota 25 = .ok (.iload_n 1, 1) := by decide +kernel
theorem dX9_quota_26 : decode cX9_quota 26 = .ok (.iload_n 2, 1) := by decide +kernel
theorem dX9_quota_27 : decode cX9_quota 27 = .ok (.invokestatic 92, 3) := by decide +kernel
theorem dX9_quota_30 : decode cX9_quota 30 = .ok (.iload_n 3, 1) := by decide +kernel
theorem dX9_quota_31 : decode cX9_quota 31 = .ok (.invokevirtual 96, 3) := by decide +kernel
theorem dX9_quota_34 : decode cX9_quota 34 = .ok (.ireturn, 1) := by decide +kernel
theorem dX9_aid_0 : decode cX9_aid 0 = .ok (.iload_n 1, 1) := by decide +kernel
theorem dX9_aid_1 : decode cX9_aid 1 = .ok (.bipush 8, 2) := by decide +kernel
theorem dX9_aid_3 : decode cX9_aid 3 = .ok (.invokestatic 79, 3) := by decide +kernel
theorem dX9_aid_6 : decode cX9_aid 6 = .ok (.iload_n 2, 1) := by decide +kernel
theorem dX9_aid_7 : decode cX9_aid 7 = .ok (.iconst 0, 1) := by decide +kernel
theorem dX9_aid_8 : decode cX9_aid 8 = .ok (.ldc 83, 2) := by decide +kernel
theorem dX9_aid_10 : decode cX9_aid 10 = .ok (.invokestatic 84, 3) := by decide +kernel
theorem dX9_aid_13 : decode cX9_aid 13 = .ok (.aload_n 0, 1) := by decide +kernel
theorem dX9_aid_14 : decode cX9_aid 14 = .ok (.getfield 10, 3) := by decide +kernel
theorem dX9_aid_17 : decode cX9_aid 17 = .ok (.getfield 101, 3) := by decide +kernel
theorem dX9_aid_20 : decode cX9_aid 20 = .ok (.iload_n 1, 1) := by decide +kernel
theorem dX9_aid_21 : decode cX9_aid 21 = .ok (.iload_n 3, 1) := by decide +kernel
theorem dX9_aid_22 : decode cX9_aid 22 = .ok (.ifCond .eq 7, 3) := by decide +kernel
theorem dX9_aid_25 : decode cX9_aid 25 = .ok (.iconst 1, 1) := by decide +kernel
theorem dX9_aid_26 : decode cX9_aid 26 = .ok (.goto 4, 3) := by decide +kernel
theorem dX9_aid_29 : decode cX9_aid 29 = .ok (.iconst 0, 1) := by decide +kernel
theorem dX9_aid_30 : decode cX9_aid 30 = .ok (.invokevirtual 104, 3) := by decide +kernel
theorem dX9_aid_33 : decode cX9_aid 33 = .ok (.aload_n 0, 1) := by decide +kernel
theorem dX9_aid_34 : decode cX9_aid 34 = .ok (.getfield 10, 3) := by decide +kernel
theorem dX9_aid_37 : decode cX9_aid 37 = .ok (.getfield 107, 3) := by decide +kernel
theorem dX9_aid_40 : decode cX9_aid 40 = .ok (.iload_n 1, 1) := by decide +kernel
theorem dX9_aid_41 : decode cX9_aid 41 = .ok (.iload_n 2, 1) := by decide +kernel
theorem dX9_aid_42 : decode cX9_aid 42 = .ok (.invokevirtual 96, 3) := by decide +kernel
theorem dX9_aid_45 : decode cX9_aid 45 = .ok (.ireturn, 1) := by decide +kernel
theorem dX9_kind_0 : decode cX9_kind 0 = .ok (.iload_n 1, 1) := by decide +kernel
theorem dX9_kind_1 : decode cX9_kind 1 = .ok (.iconst 4, 1) := by decide +kernel
theorem dX9_kind_2 : decode cX9_kind 2 = .ok (.invokestatic 79, 3) := by decide +kernel
theorem dX9_kind_5 : decode cX9_kind 5 = .ok (.iload 4, 2) := by decide +kernel
theorem dX9_kind_7 : decode cX9_kind 7 = .ok (.iconst 3, 1) := by decide +kernel
theorem dX9_kind_8 : decode cX9_kind 8 = .ok (.invokestatic 79, 3) := by decide +kernel
theorem dX9_kind_11 : decode cX9_kind 11 = .ok (.iload_n 2, 1) := by decide +kernel
theorem dX9_kind_12 : decode cX9_kind 12 = .ok (.iconst 1, 1) := by decide +kernel
theorem dX9_kind_13 : decode cX9_kind 13 = .ok (.sipush 10000, 3) := by decide +kernel
theorem dX9_kind_16 : decode cX9_kind 16 = .ok (.invokestatic 84, 3) := by decide +kernel
theorem dX9_kind_19 : decode cX9_kind 19 = .ok (.iload_n 3, 1) := by decide +kernel
theorem dX9_kind_20 : decode cX9_kind 20 = .ok (.iconst 1, 1) := by decide +kernel
theorem dX9_kind_21 : decode cX9_kind 21 = .ok (.sipush 10000, 3) := by decide +kernel
theorem dX9_kind_24 : decode cX9_kind 24 = .ok (.invokestatic 84, 3) := by decide +kernel
theorem dX9_kind_27 : decode cX9_kind 27 = .ok (.aload_n 0, 1) := by decide +kernel
theorem dX9_kind_28 : decode cX9_kind 28 = .ok (.getfield 19, 3) := by decide +kernel
theorem dX9_kind_31 : decode cX9_kind 31 = .ok (.getfield 110, 3) := by decide +kernel
theorem dX9_kind_34 : decode cX9_kind 34 = .ok (.iload_n 1, 1) := by decide +kernel
theorem dX9_kind_35 : decode cX9_kind 35 = .ok (.iload_n 2, 1) := by decide +kernel
theorem dX9_kind_36 : decode cX9_kind 36 = .ok (.invokevirtual 104, 3) := by decide +kernel
theorem dX9_kind_39 : decode cX9_kind 39 = .ok (.aload_n 0, 1) := by decide +kernel
theorem dX9_kind_40 : decode cX9_kind 40 = .ok (.getfield 19, 3) := by decide +kernel
theorem dX9_kind_43 : decode cX9_kind 43 = .ok (.getfield 113, 3) := by decide +kernel
theorem dX9_kind_46 : decode cX9_kind 46 = .ok (.iload_n 1, 1) := by decide +kernel
theorem dX9_kind_47 : decode cX9_kind 47 = .ok (.iload_n 3, 1) := by decide +kernel
theorem dX9_kind_48 : decode cX9_kind 48 = .ok (.invokevirtual 104, 3) := by decide +kernel
theorem dX9_kind_51 : decode cX9_kind 51 = .ok (.aload_n 0, 1) := by decide +kernel
theorem dX9_kind_52 : decode cX9_kind 52 = .ok (.getfield 19, 3) := by decide +kernel
theorem dX9_kind_55 : decode cX9_kind 55 = .ok (.getfield 116, 3) := by decide +kernel
theorem dX9_kind_58 : decode cX9_kind 58 = .ok (.iload_n 1, 1) := by decide +kernel
theorem dX9_kind_59 : decode cX9_kind 59 = .ok (.iload 4, 2) := by decide +kernel
theorem dX9_kind_61 : decode cX9_kind 61 = .ok (.invokevirtual 104, 3) := by decide +kernel
theorem dX9_kind_64 : decode cX9_kind 64 = .ok (.return_, 1) := by decide +kernel
theorem dX9_step_0 : decode cX9_step 0 = .ok (.iload_n 1, 1) := by decide +kernel
theorem dX9_step_1 : decode cX9_step 1 = .ok (.iconst 3, 1) := by decide +kernel
theorem dX9_step_2 : decode cX9_step 2 = .ok (.invokestatic 79, 3) := by decide +kernel
theorem dX9_step_5 : decode cX9_step 5 = .ok (.iload_n 2, 1) := by decide +kernel
theorem dX9_step_6 : decode cX9_step 6 = .ok (.iconst 1, 1) := by decide +kernel
theorem dX9_step_7 : decode cX9_step 7 = .ok (.sipush 500, 3) := by decide +kernel
theorem dX9_step_10 : decode cX9_step 10 = .ok (.invokestatic 84, 3) := by decide +kernel
theorem dX9_step_13 : decode cX9_step 13 = .ok (.aload_n 0, 1) := by decide +kernel
theorem dX9_step_14 : decode cX9_step 14 = .ok (.getfield 47, 3) := by decide +kernel
theorem dX9_step_17 : decode cX9_step 17 = .ok (.getfield 119, 3) := by decide +kernel
theorem dX9_step_20 : decode cX9_step 20 = .ok (.iload_n 1, 1) := by decide +kernel
theorem dX9_step_21 : decode cX9_step 21 = .ok (.iload_n 2, 1) := by decide +kernel
theorem dX9_step_22 : decode cX9_step 22 = .ok (.invokevirtual 96, 3) := by decide +kernel
theorem dX9_step_25 : decode cX9_step 25 = .ok (.ireturn, 1) := by decide +kernel
theorem dX9_buyer_0 : decode cX9_buyer 0 = .ok (.iload_n 1, 1) := by decide +kernel
theorem dX9_buyer_1 : decode cX9_buyer 1 = .ok (.bipush 8, 2) := by decide +kernel
theorem dX9_buyer_3 : decode cX9_buyer 3 = .ok (.invokestatic 79, 3) := by decide +kernel
theorem dX9_buyer_6 : decode cX9_buyer 6 = .ok (.iload_n 2, 1) := by decide +kernel
theorem dX9_buyer_7 : decode cX9_buyer 7 = .ok (.iconst 0, 1) := by decide +kernel
theorem dX9_buyer_8 : decode cX9_buyer 8 = .ok (.ldc 122, 2) := by decide +kernel
theorem dX9_buyer_10 : decode cX9_buyer 10 = .ok (.invokestatic 84, 3) := by decide +kernel
theorem dX9_buyer_13 : decode cX9_buyer 13 = .ok (.iload_n 3, 1) := by decide +kernel
theorem dX9_buyer_14 : decode cX9_buyer 14 = .ok (.iconst 1, 1) := by decide +kernel
theorem dX9_buyer_15 : decode cX9_buyer 15 = .ok (.bipush 9, 2) := by decide +kernel
theorem dX9_buyer_17 : decode cX9_buyer 17 = .ok (.invokestatic 84, 3) := by decide +kernel
theorem dX9_buyer_20 : decode cX9_buyer 20 = .ok (.aload_n 0, 1) := by decide +kernel
theorem dX9_buyer_21 : decode cX9_buyer 21 = .ok (.getfield 26, 3) := by decide +kernel
theorem dX9_buyer_24 : decode cX9_buyer 24 = .ok (.getfield 123, 3) := by decide +kernel
theorem dX9_buyer_27 : decode cX9_buyer 27 = .ok (.iload_n 1, 1) := by decide +kernel
theorem dX9_buyer_28 : decode cX9_buyer 28 = .ok (.iload_n 3, 1) := by decide +kernel
theorem dX9_buyer_29 : decode cX9_buyer 29 = .ok (.invokevirtual 104, 3) := by decide +kernel
theorem dX9_buyer_32 : decode cX9_buyer 32 = .ok (.aload_n 0, 1) := by decide +kernel
theorem dX9_buyer_33 : decode cX9_buyer 33 = .ok (.getfield 26, 3) := by decide +kernel
theorem dX9_buyer_36 : decode cX9_buyer 36 = .ok (.getfield 126, 3) := by decide +kernel
theorem dX9_buyer_39 : decode cX9_buyer 39 = .ok (.iload_n 1, 1) := by decide +kernel
theorem dX9_buyer_40 : decode cX9_buyer 40 = .ok (.iload_n 2, 1) := by decide +kernel
theorem dX9_buyer_41 : decode cX9_buyer 41 = .ok (.invokevirtual 96, 3) := by decide +kernel
theorem dX9_buyer_44 : decode cX9_buyer 44 = .ok (.ireturn, 1) := by decide +kernel
theorem dX9_draw_0 : decode cX9_draw 0 = .ok (.aload_n 0, 1) := by decide +kernel
theorem dX9_draw_1 : decode cX9_draw 1 = .ok (.getfield 76, 3) := by decide +kernel
theorem dX9_draw_4 : decode cX9_draw 4 = .ok (.istore_n 2, 1) := by decide +kernel
theorem dX9_draw_5 : decode cX9_draw 5 = .ok (.aload_n 0, 1) := by decide +kernel
theorem dX9_draw_6 : decode cX9_draw 6 = .ok (.iload_n 1, 1) := by decide +kernel
theorem dX9_draw_7 : decode cX9_draw 7 = .ok (.putfield 76, 3) := by decide +kernel
theorem dX9_draw_10 : decode cX9_draw 10 = .ok (.iload_n 2, 1) := by decide +kernel
theorem dX9_draw_11 : decode cX9_draw 11 = .ok (.ireturn, 1) := by decide +kernel
theorem dX9_power_0 : decode cX9_power 0 = .ok (.iload_n 1, 1) := by decide +kernel
theorem dX9_power_1 : decode cX9_power 1 = .ok (.iconst 3, 1) := by decide +kernel
theorem dX9_power_2 : decode cX9_power 2 = .ok (.invokestatic 79, 3) := by decide +kernel
theorem dX9_power_5 : decode cX9_power 5 = .ok (.aload_n 0, 1) := by decide +kernel
theorem dX9_power_6 : decode cX9_power 6 = .ok (.getfield 47, 3) := by decide +kernel
theorem dX9_power_9 : decode cX9_power 9 = .ok (.getfield 129, 3) := by decide +kernel
theorem dX9_power_12 : decode cX9_power 12 = .ok (.iload_n 1, 1) := by decide +kernel
theorem dX9_power_13 : decode cX9_power 13 = .ok (.iload_n 2, 1) := by decide +kernel
theorem dX9_power_14 : decode cX9_power 14 = .ok (.ifCond .eq 7, 3) := by decide +kernel
theorem dX9_power_17 : decode cX9_power 17 = .ok (.iconst 1, 1) := by decide +kernel
theorem dX9_power_18 : decode cX9_power 18 = .ok (.goto 4, 3) := by decide +kernel
theorem dX9_power_21 : decode cX9_power 21 = .ok (.iconst 0, 1) := by decide +kernel
theorem dX9_power_22 : decode cX9_power 22 = .ok (.invokevirtual 96, 3) := by decide +kernel
theorem dX9_power_25 : decode cX9_power 25 = .ok (.iconst 1, 1) := by decide +kernel
theorem dX9_power_26 : decode cX9_power 26 = .ok (.if_icmp .ne 7, 3) := by decide +kernel
theorem dX9_power_29 : decode cX9_power 29 = .ok (.iconst 1, 1) := by decide +kernel
theorem dX9_power_30 : decode cX9_power 30 = .ok (.goto 4, 3) := by decide +kernel
theorem dX9_power_33 : decode cX9_power 33 = .ok (.iconst 0, 1) := by decide +kernel
theorem dX9_power_34 : decode cX9_power 34 = .ok (.ireturn, 1) := by decide +kernel
theorem dX9_line_0 : decode cX9_line 0 = .ok (.iload_n 1, 1) := by decide +kernel
theorem dX9_line_1 : decode cX9_line 1 = .ok (.bipush 8, 2) := by decide +kernel
theorem dX9_line_3 : decode cX9_line 3 = .ok (.invokestatic 79, 3) := by decide +kernel
theorem dX9_line_6 : decode cX9_line 6 = .ok (.aload_n 0, 1) := by decide +kernel
theorem dX9_line_7 : decode cX9_line 7 = .ok (.getfield 26, 3) := by decide +kernel
theorem dX9_line_10 : decode cX9_line 10 = .ok (.getfield 132, 3) := by decide +kernel
theorem dX9_line_13 : decode cX9_line 13 = .ok (.iload_n 1, 1) := by decide +kernel
theorem dX9_line_14 : decode cX9_line 14 = .ok (.iload_n 2, 1) := by decide +kernel
theorem dX9_line_15 : decode cX9_line 15 = .ok (.ifCond .eq 7, 3) := by decide +kernel
theorem dX9_line_18 : decode cX9_line 18 = .ok (.iconst 1, 1) := by decide +kernel
theorem dX9_line_19 : decode cX9_line 19 = .ok (.goto 4, 3) := by decide +kernel
theorem dX9_line_22 : decode cX9_line 22 = .ok (.iconst 0, 1) := by decide +kernel
theorem dX9_line_23 : decode cX9_line 23 = .ok (.invokevirtual 96, 3) := by decide +kernel
theorem dX9_line_26 : decode cX9_line 26 = .ok (.iconst 1, 1) := by decide +kernel
theorem dX9_line_27 : decode cX9_line 27 = .ok (.if_icmp .ne 7, 3) := by decide +kernel
theorem dX9_line_30 : decode cX9_line 30 = .ok (.iconst 1, 1) := by decide +kernel
theorem dX9_line_31 : decode cX9_line 31 = .ok (.goto 4, 3) := by decide +kernel
theorem dX9_line_34 : decode cX9_line 34 = .ok (.iconst 0, 1) := by decide +kernel
theorem dX9_line_35 : decode cX9_line 35 = .ok (.ireturn, 1) := by decide +kernel
theorem dX9_land_0 : decode cX9_land 0 = .ok (.iload_n 1, 1) := by decide +kernel
theorem dX9_land_1 : decode cX9_land 1 = .ok (.bipush 8, 2) := by decide +kernel
theorem dX9_land_3 : decode cX9_land 3 = .ok (.invokestatic 79, 3) := by decide +kernel
theorem dX9_land_6 : decode cX9_land 6 = .ok (.iload_n 2, 1) := by decide +kernel
theorem dX9_land_7 : decode cX9_land 7 = .ok (.iconst 4, 1) := by decide +kernel
theorem dX9_land_8 : decode cX9_land 8 = .ok (.invokestatic 79, 3) := by decide +kernel
theorem dX9_land_11 : decode cX9_land 11 = .ok (.iload_n 3, 1) := by decide +kernel
theorem dX9_land_12 : decode cX9_land 12 = .ok (.iconst 0, 1) := by decide +kernel
theorem dX9_land_13 : decode cX9_land 13 = .ok (.iconst 2, 1) := by decide +kernel
theorem dX9_land_14 : decode cX9_land 14 = .ok (.invokestatic 84, 3) := by decide +kernel
theorem dX9_land_17 : decode cX9_land 17 = .ok (.iload 4, 2) := by decide +kernel
theorem dX9_land_19 : decode cX9_land 19 = .ok (.iconst 1, 1) := by decide +kernel
theorem dX9_land_20 : decode cX9_land 20 = .ok (.bipush 9, 2) := by decide +kernel
theorem dX9_land_22 : decode cX9_land 22 = .ok (.invokestatic 84, 3) := by decide +kernel
theorem dX9_land_25 : decode cX9_land 25 = .ok (.iload 5, 2) := by decide +kernel
theorem dX9_land_27 : decode cX9_land 27 = .ok (.iconst 1, 1) := by decide +kernel
theorem dX9_land_28 : decode cX9_land 28 = .ok (.bipush 100, 2) := by decide +kernel
theorem dX9_land_30 : decode cX9_land 30 = .ok (.invokestatic 84, 3) := by decide +kernel
theorem dX9_land_33 : decode cX9_land 33 = .ok (.iload 6, 2) := by decide +kernel
theorem dX9_land_35 : decode cX9_land 35 = .ok (.iconst 1, 1) := by decide +kernel
theorem dX9_land_36 : decode cX9_land 36 = .ok (.bipush 100, 2) := by decide +kernel
theorem dX9_land_38 : decode cX9_land 38 = .ok (.invokestatic 84, 3) := by decide +kernel
theorem dX9_land_41 : decode cX9_land 41 = .ok (.aload_n 0, 1) := by decide +kernel
theorem dX9_land_42 : decode cX9_land 42 = .ok (.getfield 33, 3) := by decide +kernel
theorem dX9_land_45 : decode cX9_land 45 = .ok (.getfield 135, 3) := by decide +kernel
theorem dX9_land_48 : decode cX9_land 48 = .ok (.sipush 150, 3) := by decide +kernel
theorem dX9_land_51 : decode cX9_land 51 = .ok (.if_icmp .ge 7, 3) := by decide +kernel
theorem dX9_land_54 : decode cX9_land 54 = .ok (.iconst 1, 1) := by decide +kernel
theorem dX9_land_55 : decode cX9_land 55 = .ok (.goto 4, 3) := by decide +kernel
theorem dX9_land_58 : decode cX9_land 58 = .ok (.iconst 0, 1) := by decide +kernel
theorem dX9_land_59 : decode cX9_land 59 = .ok (.invokestatic 138, 3) := by decide +kernel
theorem dX9_land_62 : decode cX9_land 62 = .ok (.aload_n 0, 1) := by decide +kernel
theorem dX9_land_63 : decode cX9_land 63 = .ok (.getfield 10, 3) := by decide +kernel
theorem dX9_land_66 : decode cX9_land 66 = .ok (.iload_n 1, 1) := by decide +kernel
theorem dX9_land_67 : decode cX9_land 67 = .ok (.iload_n 2, 1) := by decide +kernel
theorem dX9_land_68 : decode cX9_land 68 = .ok (.iload 5, 2) := by decide +kernel
theorem dX9_land_70 : decode cX9_land 70 = .ok (.invokevirtual 142, 3) := by decide +kernel
theorem dX9_land_73 : decode cX9_land 73 = .ok (.aload_n 0, 1) := by decide +kernel
theorem dX9_land_74 : decode cX9_land 74 = .ok (.getfield 10, 3) := by decide +kernel
theorem dX9_land_77 : decode cX9_land 77 = .ok (.iload_n 1, 1) := by decide +kernel
theorem dX9_land_78 : decode cX9_land 78 = .ok (.iload_n 2, 1) := by decide +kernel
theorem dX9_land_79 : decode cX9_land 79 = .ok (.invokevirtual 145, 3) := by decide +kernel
theorem dX9_land_82 : decode cX9_land 82 = .ok (.ifCond .eq 7, 3) := by decide +kernel
theorem dX9_land_85 : decode cX9_land 85 = .ok (.iconst 1, 1) := by decide +kernel
theorem dX9_land_86 : decode cX9_land 86 = .ok (.goto 4, 3) := by decide +kernel
theorem dX9_land_89 : decode cX9_land 89 = .ok (.iconst 0, 1) := by decide +kernel
theorem dX9_land_90 : decode cX9_land 90 = .ok (.istore 7, 2) := by decide +kernel
theorem dX9_land_92 : decode cX9_land 92 = .ok (.aload_n 0, 1) := by decide +kernel
theorem dX9_land_93 : decode cX9_land 93 = .ok (.getfield 33, 3) := by decide +kernel
theorem dX9_land_96 : decode cX9_land 96 = .ok (.iload_n 1, 1) := by decide +kernel
theorem dX9_land_97 : decode cX9_land 97 = .ok (.iload_n 2, 1) := by decide +kernel
theorem dX9_land_98 : decode cX9_land 98 = .ok (.iload_n 3, 1) := by decide +kernel
theorem dX9_land_99 : decode cX9_land 99 = .ok (.iload 4, 2) := by decide +kernel
theorem dX9_land_101 : decode cX9_land 101 = .ok (.invokestatic 149, 3) := by decide +kernel
theorem dX9_land_104 : decode cX9_land 104 = .ok (.iload 5, 2) := by decide +kernel
theorem dX9_land_106 : decode cX9_land 106 = .ok (.iload 6, 2) := by decide +kernel
theorem dX9_land_108 : decode cX9_land 108 = .ok (.iload 7, 2) := by decide +kernel
theorem dX9_land_110 : decode cX9_land 110 = .ok (.invokevirtual 153, 3) := by decide +kernel
theorem dX9_land_113 : decode cX9_land 113 = .ok (.ireturn, 1) := by decide +kernel
theorem dX9_open_0 : decode cX9_open 0 = .ok (.aload_n 0, 1) := by decide +kernel
theorem dX9_open_1 : decode cX9_open 1 = .ok (.getfield 72, 3) := by decide +kernel
theorem dX9_open_4 : decode cX9_open 4 = .ok (.ifCond .ne 17, 3) := by decide +kernel
theorem dX9_open_7 : decode cX9_open 7 = .ok (.aload_n 0, 1) := by decide +kernel
theorem dX9_open_8 : decode cX9_open 8 = .ok (.getfield 33, 3) := by decide +kernel
theorem dX9_open_11 : decode cX9_open 11 = .ok (.invokevirtual 157, 3) := by decide +kernel
theorem dX9_open_14 : decode cX9_open 14 = .ok (.ifCond .le 7, 3) := by decide +kernel
theorem dX9_open_17 : decode cX9_open 17 = .ok (.iconst 1, 1) := by decide +kernel
theorem dX9_open_18 : decode cX9_open 18 = .ok (.goto 4, 3) := by decide +kernel
theorem dX9_open_21 : decode cX9_open 21 = .ok (.iconst 0, 1) := by decide +kernel
theorem dX9_open_22 : decode cX9_open 22 = .ok (.invokestatic 138, 3) := by decide +kernel
theorem dX9_open_25 : decode cX9_open 25 = .ok (.aload_n 0, 1) := by decide +kernel
theorem dX9_open_26 : decode cX9_open 26 = .ok (.iconst 1, 1) := by decide +kernel
theorem dX9_open_27 : decode cX9_open 27 = .ok (.putfield 72, 3) := by decide +kernel
theorem dX9_open_30 : decode cX9_open 30 = .ok (.aload_n 0, 1) := by decide +kernel
theorem dX9_open_31 : decode cX9_open 31 = .ok (.invokevirtual 161, 3) := by decide +kernel
theorem dX9_open_34 : decode cX9_open 34 = .ok (.aload_n 0, 1) := by decide +kernel
theorem dX9_open_35 : decode cX9_open 35 = .ok (.iconst 1, 1) := by decide +kernel
theorem dX9_open_36 : decode cX9_open 36 = .ok (.invokevirtual 164, 3) := by decide +kernel
theorem dX9_open_39 : decode cX9_open 39 = .ok (.aload_n 0, 1) := by decide +kernel
theorem dX9_open_40 : decode cX9_open 40 = .ok (.iconst 0, 1) := by decide +kernel
theorem dX9_open_41 : decode cX9_open 41 = .ok (.invokevirtual 164, 3) := by decide +kernel
theorem dX9_open_44 : decode cX9_open 44 = .ok (.iconst 0, 1) := by decide +kernel
theorem dX9_open_45 : decode cX9_open 45 = .ok (.istore_n 1, 1) := by decide +kernel
theorem dX9_open_46 : decode cX9_open 46 = .ok (.iload_n 1, 1) := by decide +kernel
theorem dX9_open_47 : decode cX9_open 47 = .ok (.iconst 3, 1) := by decide +kernel
theorem dX9_open_48 : decode cX9_open 48 = .ok (.if_icmp .ge 47, 3) := by decide +kernel
theorem dX9_open_51 : decode cX9_open 51 = .ok (.aload_n 0, 1) := by decide +kernel
theorem dX9_open_52 : decode cX9_open 52 = .ok (.getfield 47, 3) := by decide +kernel
theorem dX9_open_55 : decode cX9_open 55 = .ok (.getfield 167, 3) := by decide +kernel
theorem dX9_open_58 : decode cX9_open 58 = .ok (.iload_n 1, 1) := by decide +kernel
theorem dX9_open_59 : decode cX9_open 59 = .ok (.aload_n 0, 1) := by decide +kernel
theorem dX9_open_60 : decode cX9_open 60 = .ok (.getfield 40, 3) := by decide +kernel
theorem dX9_open_63 : decode cX9_open 63 = .ok (.iload_n 1, 1) := by decide +kernel
theorem dX9_open_64 : decode cX9_open 64 = .ok (.invokevirtual 170, 3) := by decide +kernel
theorem dX9_open_67 : decode cX9_open 67 = .ok (.invokevirtual 104, 3) := by decide +kernel
theorem dX9_open_70 : decode cX9_open 70 = .ok (.aload_n 0, 1) := by decide +kernel
theorem dX9_open_71 : decode cX9_open 71 = .ok (.iload_n 1, 1) := by decide +kernel
theorem dX9_open_72 : decode cX9_open 72 = .ok (.aload_n 0, 1) := by decide +kernel
theorem dX9_open_73 : decode cX9_open 73 = .ok (.getfield 40, 3) := by decide +kernel
theorem dX9_open_76 : decode cX9_open 76 = .ok (.iload_n 1, 1) := by decide +kernel
theorem dX9_open_77 : decode cX9_open 77 = .ok (.iconst (-1), 1) := by decide +kernel
theorem dX9_open_78 : decode cX9_open 78 = .ok (.invokevirtual 174, 3) := by decide +kernel
theorem dX9_open_81 : decode cX9_open 81 = .ok (.invokevirtual 177, 3) := by decide +kernel
theorem dX9_open_84 : decode cX9_open 84 = .ok (.aload_n 0, 1) := by decide +kernel
theorem dX9_open_85 : decode cX9_open 85 = .ok (.iload_n 1, 1) := by decide +kernel
theorem dX9_open_86 : decode cX9_open 86 = .ok (.invokevirtual 180, 3) := by decide +kernel
theorem dX9_open_89 : decode cX9_open 89 = .ok (.iinc 1 1, 3) := by decide +kernel
theorem dX9_open_92 : decode cX9_open 92 = .ok (.goto (-46), 3) := by decide +kernel
theorem dX9_open_95 : decode cX9_open 95 = .ok (.aload_n 0, 1) := by decide +kernel
theorem dX9_open_96 : decode cX9_open 96 = .ok (.getfield 40, 3) := by decide +kernel
theorem dX9_open_99 : decode cX9_open 99 = .ok (.getfield 184, 3) := by decide +kernel
theorem dX9_open_102 : decode cX9_open 102 = .ok (.ireturn, 1) := by decide +kernel
theorem dX9_end_0 : decode cX9_end 0 = .ok (.aload_n 0, 1) := by decide +kernel
theorem dX9_end_1 : decode cX9_end 1 = .ok (.getfield 72, 3) := by decide +kernel
theorem dX9_end_4 : decode cX9_end 4 = .ok (.invokestatic 138, 3) := by decide +kernel
theorem dX9_end_7 : decode cX9_end 7 = .ok (.iconst 0, 1) := by decide +kernel
theorem dX9_end_8 : decode cX9_end 8 = .ok (.istore_n 1, 1) := by decide +kernel
theorem dX9_end_9 : decode cX9_end 9 = .ok (.iconst 0, 1) := by decide +kernel
theorem dX9_end_10 : decode cX9_end 10 = .ok (.istore_n 2, 1) := by decide +kernel
theorem dX9_end_11 : decode cX9_end 11 = .ok (.iload_n 2, 1) := by decide +kernel
theorem dX9_end_12 : decode cX9_end 12 = .ok (.aload_n 0, 1) := by decide +kernel
theorem dX9_end_13 : decode cX9_end 13 = .ok (.getfield 40, 3) := by decide +kernel
theorem dX9_end_16 : decode cX9_end 16 = .ok (.getfield 184, 3) := by decide +kernel
theorem dX9_end_19 : decode cX9_end 19 = .ok (.if_icmp .ge 17, 3) := by decide +kernel
theorem dX9_end_22 : decode cX9_end 22 = .ok (.iload_n 1, 1) := by decide +kernel
theorem dX9_end_23 : decode cX9_end 23 = .ok (.aload_n 0, 1) := by decide +kernel
theorem dX9_end_24 : decode cX9_end 24 = .ok (.iload_n 2, 1) := by decide +kernel
theorem dX9_end_25 : decode cX9_end 25 = .ok (.invokevirtual 185, 3) := by decide +kernel
theorem dX9_end_28 : decode cX9_end 28 = .ok (.iadd, 1) := by decide +kernel
theorem dX9_end_29 : decode cX9_end 29 = .ok (.istore_n 1, 1) := by decide +kernel
theorem dX9_end_30 : decode cX9_end 30 = .ok (.iinc 2 1, 3) := by decide +kernel
theorem dX9_end_33 : decode cX9_end 33 = .ok (.goto (-22), 3) := by decide +kernel
theorem dX9_end_36 : decode cX9_end 36 = .ok (.iconst 0, 1) := by decide +kernel
theorem dX9_end_37 : decode cX9_end 37 = .ok (.istore_n 2, 1) := by decide +kernel
theorem dX9_end_38 : decode cX9_end 38 = .ok (.iload_n 2, 1) := by decide +kernel
theorem dX9_end_39 : decode cX9_end 39 = .ok (.iconst 3, 1) := by decide +kernel
theorem dX9_end_40 : decode cX9_end 40 = .ok (.if_icmp .ge 32, 3) := by decide +kernel
theorem dX9_end_43 : decode cX9_end 43 = .ok (.aload_n 0, 1) := by decide +kernel
theorem dX9_end_44 : decode cX9_end 44 = .ok (.getfield 47, 3) := by decide +kernel
theorem dX9_end_47 : decode cX9_end 47 = .ok (.getfield 167, 3) := by decide +kernel
theorem dX9_end_50 : decode cX9_end 50 = .ok (.iload_n 2, 1) := by decide +kernel
theorem dX9_end_51 : decode cX9_end 51 = .ok (.iconst 0, 1) := by decide +kernel
theorem dX9_end_52 : decode cX9_end 52 = .ok (.invokevirtual 104, 3) := by decide +kernel
theorem dX9_end_55 : decode cX9_end 55 = .ok (.aload_n 0, 1) := by decide +kernel
theorem dX9_end_56 : decode cX9_end 56 = .ok (.iload_n 2, 1) := by decide +kernel
theorem dX9_end_57 : decode cX9_end 57 = .ok (.iconst (-1), 1) := by decide +kernel
theorem dX9_end_58 : decode cX9_end 58 = .ok (.invokevirtual 177, 3) := by decide +kernel
theorem dX9_end_61 : decode cX9_end 61 = .ok (.aload_n 0, 1) := by decide +kernel
theorem dX9_end_62 : decode cX9_end 62 = .ok (.iload_n 2, 1) := by decide +kernel
theorem dX9_end_63 : decode cX9_end 63 = .ok (.invokevirtual 180, 3) := by decide +kernel
theorem dX9_end_66 : decode cX9_end 66 = .ok (.iinc 2 1, 3) := by decide +kernel
theorem dX9_end_69 : decode cX9_end 69 = .ok (.goto (-31), 3) := by decide +kernel
theorem dX9_end_72 : decode cX9_end 72 = .ok (.aload_n 0, 1) := by decide +kernel
theorem dX9_end_73 : decode cX9_end 73 = .ok (.getfield 40, 3) := by decide +kernel
theorem dX9_end_76 : decode cX9_end 76 = .ok (.invokevirtual 188, 3) := by decide +kernel
theorem dX9_end_79 : decode cX9_end 79 = .ok (.aload_n 0, 1) := by decide +kernel
theorem dX9_end_80 : decode cX9_end 80 = .ok (.getfield 33, 3) := by decide +kernel
theorem dX9_end_83 : decode cX9_end 83 = .ok (.getfield 191, 3) := by decide +kernel
theorem dX9_end_86 : decode cX9_end 86 = .ok (.iconst (-1), 1) := by decide +kernel
theorem dX9_end_87 : decode cX9_end 87 = .ok (.invokevirtual 194, 3) := by decide +kernel
theorem dX9_end_90 : decode cX9_end 90 = .ok (.aload_n 0, 1) := by decide +kernel
theorem dX9_end_91 : decode cX9_end 91 = .ok (.iconst 0, 1) := by decide +kernel
theorem dX9_end_92 : decode cX9_end 92 = .ok (.putfield 72, 3) := by decide +kernel
theorem dX9_end_95 : decode cX9_end 95 = .ok (.aload_n 0, 1) := by decide +kernel
theorem dX9_end_96 : decode cX9_end 96 = .ok (.dup, 1) := by decide +kernel
theorem dX9_end_97 : decode cX9_end 97 = .ok (.getfield 69, 3) := by decide +kernel
theorem dX9_end_100 : decode cX9_end 100 = .ok (.iconst 1, 1) := by decide +kernel
theorem dX9_end_101 : decode cX9_end 101 = .ok (.iadd, 1) := by decide +kernel
theorem dX9_end_102 : decode cX9_end 102 = .ok (.putfield 69, 3) := by decide +kernel
theorem dX9_end_105 : decode cX9_end 105 = .ok (.iload_n 1, 1) := by decide +kernel
theorem dX9_end_106 : decode cX9_end 106 = .ok (.ireturn, 1) := by decide +kernel
theorem dX9_press_0 : decode cX9_press 0 = .ok (.iload_n 1, 1) := by decide +kernel
theorem dX9_press_1 : decode cX9_press 1 = .ok (.bipush 8, 2) := by decide +kernel
theorem dX9_press_3 : decode cX9_press 3 = .ok (.invokestatic 79, 3) := by decide +kernel
theorem dX9_press_6 : decode cX9_press 6 = .ok (.iload_n 2, 1) := by decide +kernel
theorem dX9_press_7 : decode cX9_press 7 = .ok (.iconst 3, 1) := by decide +kernel
theorem dX9_press_8 : decode cX9_press 8 = .ok (.invokestatic 79, 3) := by decide +kernel
theorem dX9_press_11 : decode cX9_press 11 = .ok (.aload_n 0, 1) := by decide +kernel
theorem dX9_press_12 : decode cX9_press 12 = .ok (.getfield 47, 3) := by decide +kernel
theorem dX9_press_15 : decode cX9_press 15 = .ok (.getfield 197, 3) := by decide +kernel
theorem dX9_press_18 : decode cX9_press 18 = .ok (.iload_n 2, 1) := by decide +kernel
theorem dX9_press_19 : decode cX9_press 19 = .ok (.invokevirtual 200, 3) := by decide +kernel
theorem dX9_press_22 : decode cX9_press 22 = .ok (.iconst 1, 1) := by decide +kernel
theorem dX9_press_23 : decode cX9_press 23 = .ok (.if_icmp .ne 22, 3) := by decide +kernel
theorem dX9_press_26 : decode cX9_press 26 = .ok (.aload_n 0, 1) := by decide +kernel
theorem dX9_press_27 : decode cX9_press 27 = .ok (.getfield 47, 3) := by decide +kernel
theorem dX9_press_30 : decode cX9_press 30 = .ok (.getfield 129, 3) := by decide +kernel
theorem dX9_press_33 : decode cX9_press 33 = .ok (.iload_n 2, 1) := by decide +kernel
theorem dX9_press_34 : decode cX9_press 34 = .ok (.invokevirtual 200, 3) := by decide +kernel
theorem dX9_press_37 : decode cX9_press 37 = .ok (.iconst 1, 1) := by decide +kernel
theorem dX9_press_38 : decode cX9_press 38 = .ok (.if_icmp .ne 7, 3) := by decide +kernel
theorem dX9_press_41 : decode cX9_press 41 = .ok (.iconst 1, 1) := by decide +kernel
theorem dX9_press_42 : decode cX9_press 42 = .ok (.goto 4, 3) := by decide +kernel
theorem dX9_press_45 : decode cX9_press 45 = .ok (.iconst 0, 1) := by decide +kernel
theorem dX9_press_46 : decode cX9_press 46 = .ok (.invokestatic 138, 3) := by decide +kernel
theorem dX9_press_49 : decode cX9_press 49 = .ok (.aload_n 0, 1) := by decide +kernel
theorem dX9_press_50 : decode cX9_press 50 = .ok (.getfield 26, 3) := by decide +kernel
theorem dX9_press_53 : decode cX9_press 53 = .ok (.getfield 132, 3) := by decide +kernel
theorem dX9_press_56 : decode cX9_press 56 = .ok (.iload_n 1, 1) := by decide +kernel
theorem dX9_press_57 : decode cX9_press 57 = .ok (.invokevirtual 200, 3) := by decide +kernel
theorem dX9_press_60 : decode cX9_press 60 = .ok (.iconst 1, 1) := by decide +kernel
theorem dX9_press_61 : decode cX9_press 61 = .ok (.if_icmp .ne 19, 3) := by decide +kernel
theorem dX9_press_64 : decode cX9_press 64 = .ok (.aload_n 0, 1) := by decide +kernel
theorem dX9_press_65 : decode cX9_press 65 = .ok (.getfield 54, 3) := by decide +kernel
theorem dX9_press_68 : decode cX9_press 68 = .ok (.iload_n 2, 1) := by decide +kernel
theorem dX9_press_69 : decode cX9_press 69 = .ok (.iload_n 1, 1) := by decide +kernel
theorem dX9_press_70 : decode cX9_press 70 = .ok (.invokevirtual 203, 3) := by decide +kernel
theorem dX9_press_73 : decode cX9_press 73 = .ok (.ifCond .ne 7, 3) := by decide +kernel
theorem dX9_press_76 : decode cX9_press 76 = .ok (.iconst 1, 1) := by decide +kernel
theorem dX9_press_77 : decode cX9_press 77 = .ok (.goto 4, 3) := by decide +kernel
theorem dX9_press_80 : decode cX9_press 80 = .ok (.iconst 0, 1) := by decide +kernel
theorem dX9_press_81 : decode cX9_press 81 = .ok (.invokestatic 138, 3) := by decide +kernel
theorem dX9_press_84 : decode cX9_press 84 = .ok (.aload_n 0, 1) := by decide +kernel
theorem dX9_press_85 : decode cX9_press 85 = .ok (.getfield 47, 3) := by decide +kernel
theorem dX9_press_88 : decode cX9_press 88 = .ok (.getfield 206, 3) := by decide +kernel
theorem dX9_press_91 : decode cX9_press 91 = .ok (.iload_n 2, 1) := by decide +kernel
theorem dX9_press_92 : decode cX9_press 92 = .ok (.invokevirtual 200, 3) := by decide +kernel
theorem dX9_press_95 : decode cX9_press 95 = .ok (.istore_n 3, 1) := by decide +kernel
theorem dX9_press_96 : decode cX9_press 96 = .ok (.aload_n 0, 1) := by decide +kernel
theorem dX9_press_97 : decode cX9_press 97 = .ok (.getfield 54, 3) := by decide +kernel
theorem dX9_press_100 : decode cX9_press 100 = .ok (.iload_n 2, 1) := by decide +kernel
theorem dX9_press_101 : decode cX9_press 101 = .ok (.iload_n 1, 1) := by decide +kernel
theorem dX9_press_102 : decode cX9_press 102 = .ok (.iload_n 3, 1) := by decide +kernel
theorem dX9_press_103 : decode cX9_press 103 = .ok (.aload_n 0, 1) := by decide +kernel
theorem dX9_press_104 : decode cX9_press 104 = .ok (.getfield 65, 3) := by decide +kernel
theorem dX9_press_107 : decode cX9_press 107 = .ok (.aload_n 0, 1) := by decide +kernel
theorem dX9_press_108 : decode cX9_press 108 = .ok (.getfield 65, 3) := by decide +kernel
theorem dX9_press_111 : decode cX9_press 111 = .ok (.aload_n 0, 1) := by decide +kernel
theorem dX9_press_112 : decode cX9_press 112 = .ok (.getfield 26, 3) := by decide +kernel
theorem dX9_press_115 : decode cX9_press 115 = .ok (.getfield 123, 3) := by decide +kernel
theorem dX9_press_118 : decode cX9_press 118 = .ok (.iload_n 1, 1) := by decide +kernel
theorem dX9_press_119 : decode cX9_press 119 = .ok (.invokevirtual 200, 3) := by decide +kernel
theorem dX9_press_122 : decode cX9_press 122 = .ok (.iadd, 1) := by decide +kernel
theorem dX9_press_123 : decode cX9_press 123 = .ok (.invokevirtual 209, 3) := by decide +kernel
theorem dX9_press_126 : decode cX9_press 126 = .ok (.iload_n 3, 1) := by decide +kernel
theorem dX9_press_127 : decode cX9_press 127 = .ok (.ireturn, 1) := by decide +kernel
theorem dX9_take_0 : decode cX9_take 0 = .ok (.iload_n 1, 1) := by decide +kernel
theorem dX9_take_1 : decode cX9_take 1 = .ok (.bipush 8, 2) := by decide +kernel
theorem dX9_take_3 : decode cX9_take 3 = .ok (.invokestatic 79, 3) := by decide +kernel
theorem dX9_take_6 : decode cX9_take 6 = .ok (.iload_n 2, 1) := by decide +kernel
theorem dX9_take_7 : decode cX9_take 7 = .ok (.iconst 3, 1) := by decide +kernel
theorem dX9_take_8 : decode cX9_take 8 = .ok (.invokestatic 79, 3) := by decide +kernel
theorem dX9_take_11 : decode cX9_take 11 = .ok (.aload_n 0, 1) := by decide +kernel
theorem dX9_take_12 : decode cX9_take 12 = .ok (.getfield 47, 3) := by decide +kernel
theorem dX9_take_15 : decode cX9_take 15 = .ok (.getfield 197, 3) := by decide +kernel
theorem dX9_take_18 : decode cX9_take 18 = .ok (.iload_n 2, 1) := by decide +kernel
theorem dX9_take_19 : decode cX9_take 19 = .ok (.invokevirtual 200, 3) := by decide +kernel
theorem dX9_take_22 : decode cX9_take 22 = .ok (.iconst 3, 1) := by decide +kernel
theorem dX9_take_23 : decode cX9_take 23 = .ok (.if_icmp .ne 22, 3) := by decide +kernel
theorem dX9_take_26 : decode cX9_take 26 = .ok (.aload_n 0, 1) := by decide +kernel
theorem dX9_take_27 : decode cX9_take 27 = .ok (.getfield 47, 3) := by decide +kernel
theorem dX9_take_30 : decode cX9_take 30 = .ok (.getfield 129, 3) := by decide +kernel
theorem dX9_take_33 : decode cX9_take 33 = .ok (.iload_n 2, 1) := by decide +kernel
theorem dX9_take_34 : decode cX9_take 34 = .ok (.invokevirtual 200, 3) := by decide +kernel
theorem dX9_take_37 : decode cX9_take 37 = .ok (.iconst 1, 1) := by decide +kernel
theorem dX9_take_38 : decode cX9_take 38 = .ok (.if_icmp .ne 7, 3) := by decide +kernel
theorem dX9_take_41 : decode cX9_take 41 = .ok (.iconst 1, 1) := by decide +kernel
theorem dX9_take_42 : decode cX9_take 42 = .ok (.goto 4, 3) := by decide +kernel
theorem dX9_take_45 : decode cX9_take 45 = .ok (.iconst 0, 1) := by decide +kernel
theorem dX9_take_46 : decode cX9_take 46 = .ok (.invokestatic 138, 3) := by decide +kernel
theorem dX9_take_49 : decode cX9_take 49 = .ok (.aload_n 0, 1) := by decide +kernel
theorem dX9_take_50 : decode cX9_take 50 = .ok (.getfield 47, 3) := by decide +kernel
theorem dX9_take_53 : decode cX9_take 53 = .ok (.getfield 213, 3) := by decide +kernel
theorem dX9_take_56 : decode cX9_take 56 = .ok (.iload_n 2, 1) := by decide +kernel
theorem dX9_take_57 : decode cX9_take 57 = .ok (.invokevirtual 200, 3) := by decide +kernel
theorem dX9_take_60 : decode cX9_take 60 = .ok (.iload_n 1, 1) := by decide +kernel
theorem dX9_take_61 : decode cX9_take 61 = .ok (.if_icmp .ne 7, 3) := by decide +kernel
theorem dX9_take_64 : decode cX9_take 64 = .ok (.iconst 1, 1) := by decide +kernel
theorem dX9_take_65 : decode cX9_take 65 = .ok (.goto 4, 3) := by decide +kernel
theorem dX9_take_68 : decode cX9_take 68 = .ok (.iconst 0, 1) := by decide +kernel
theorem dX9_take_69 : decode cX9_take 69 = .ok (.invokestatic 138, 3) := by decide +kernel
theorem dX9_take_72 : decode cX9_take 72 = .ok (.iload_n 3, 1) := by decide +kernel
theorem dX9_take_73 : decode cX9_take 73 = .ok (.iconst 1, 1) := by decide +kernel
theorem dX9_take_74 : decode cX9_take 74 = .ok (.if_icmp .lt 29, 3) := by decide +kernel
theorem dX9_take_77 : decode cX9_take 77 = .ok (.iload_n 3, 1) := by decide +kernel
theorem dX9_take_78 : decode cX9_take 78 = .ok (.aload_n 0, 1) := by decide +kernel
theorem dX9_take_79 : decode cX9_take 79 = .ok (.getfield 40, 3) := by decide +kernel
theorem dX9_take_82 : decode cX9_take 82 = .ok (.aload_n 0, 1) := by decide +kernel
theorem dX9_take_83 : decode cX9_take 83 = .ok (.getfield 47, 3) := by decide +kernel
theorem dX9_take_86 : decode cX9_take 86 = .ok (.getfield 216, 3) := by decide +kernel
theorem dX9_take_89 : decode cX9_take 89 = .ok (.iload_n 2, 1) := by decide +kernel
theorem dX9_take_90 : decode cX9_take 90 = .ok (.invokevirtual 200, 3) := by decide +kernel
theorem dX9_take_93 : decode cX9_take 93 = .ok (.invokevirtual 217, 3) := by decide +kernel
theorem dX9_take_96 : decode cX9_take 96 = .ok (.if_icmp .gt 7, 3) := by decide +kernel
theorem dX9_take_99 : decode cX9_take 99 = .ok (.iconst 1, 1) := by decide +kernel
theorem dX9_take_100 : decode cX9_take 100 = .ok (.goto 4, 3) := by decide +kernel
theorem dX9_take_103 : decode cX9_take 103 = .ok (.iconst 0, 1) := by decide +kernel
theorem dX9_take_104 : decode cX9_take 104 = .ok (.invokestatic 138, 3) := by decide +kernel
theorem dX9_take_107 : decode cX9_take 107 = .ok (.aload_n 0, 1) := by decide +kernel
theorem dX9_take_108 : decode cX9_take 108 = .ok (.iload_n 2, 1) := by decide +kernel
theorem dX9_take_109 : decode cX9_take 109 = .ok (.iload_n 3, 1) := by decide +kernel
theorem dX9_take_110 : decode cX9_take 110 = .ok (.invokevirtual 220, 3) := by decide +kernel
theorem dX9_take_113 : decode cX9_take 113 = .ok (.istore 4, 2) := by decide +kernel
theorem dX9_take_115 : decode cX9_take 115 = .ok (.iload 4, 2) := by decide +kernel
theorem dX9_take_117 : decode cX9_take 117 = .ok (.aload_n 0, 1) := by decide +kernel
theorem dX9_take_118 : decode cX9_take 118 = .ok (.getfield 26, 3) := by decide +kernel
theorem dX9_take_121 : decode cX9_take 121 = .ok (.iload_n 1, 1) := by decide +kernel
theorem dX9_take_122 : decode cX9_take 122 = .ok (.invokevirtual 223, 3) := by decide +kernel
theorem dX9_take_125 : decode cX9_take 125 = .ok (.if_icmp .gt 7, 3) := by decide +kernel
theorem dX9_take_128 : decode cX9_take 128 = .ok (.iconst 1, 1) := by decide +kernel
theorem dX9_take_129 : decode cX9_take 129 = .ok (.goto 4, 3) := by decide +kernel
theorem dX9_take_132 : decode cX9_take 132 = .ok (.iconst 0, 1) := by decide +kernel
theorem dX9_take_133 : decode cX9_take 133 = .ok (.invokestatic 138, 3) := by decide +kernel
theorem dX9_take_136 : decode cX9_take 136 = .ok (.aload_n 0, 1) := by decide +kernel
theorem dX9_take_137 : decode cX9_take 137 = .ok (.iload_n 2, 1) := by decide +kernel
theorem dX9_take_138 : decode cX9_take 138 = .ok (.iload_n 3, 1) := by decide +kernel
theorem dX9_take_139 : decode cX9_take 139 = .ok (.invokevirtual 226, 3) := by decide +kernel
theorem dX9_take_142 : decode cX9_take 142 = .ok (.aload_n 0, 1) := by decide +kernel
theorem dX9_take_143 : decode cX9_take 143 = .ok (.iload_n 2, 1) := by decide +kernel
theorem dX9_take_144 : decode cX9_take 144 = .ok (.invokevirtual 229, 3) := by decide +kernel
theorem dX9_take_147 : decode cX9_take 147 = .ok (.iload 4, 2) := by decide +kernel
theorem dX9_take_149 : decode cX9_take 149 = .ok (.ireturn, 1) := by decide +kernel
theorem dX9_pass_0 : decode cX9_pass 0 = .ok (.iload_n 1, 1) := by decide +kernel
theorem dX9_pass_1 : decode cX9_pass 1 = .ok (.iconst 1, 1) := by decide +kernel
theorem dX9_pass_2 : decode cX9_pass 2 = .ok (.sipush 500, 3) := by decide +kernel
theorem dX9_pass_5 : decode cX9_pass 5 = .ok (.invokestatic 84, 3) := by decide +kernel
theorem dX9_pass_8 : decode cX9_pass 8 = .ok (.aload_n 0, 1) := by decide +kernel
theorem dX9_pass_9 : decode cX9_pass 9 = .ok (.getfield 65, 3) := by decide +kernel
theorem dX9_pass_12 : decode cX9_pass 12 = .ok (.iload_n 1, 1) := by decide +kernel
theorem dX9_pass_13 : decode cX9_pass 13 = .ok (.iadd, 1) := by decide +kernel
theorem dX9_pass_14 : decode cX9_pass 14 = .ok (.ldc 83, 2) := by decide +kernel
theorem dX9_pass_16 : decode cX9_pass 16 = .ok (.if_icmp .gt 7, 3) := by decide +kernel
theorem dX9_pass_19 : decode cX9_pass 19 = .ok (.iconst 1, 1) := by decide +kernel
theorem dX9_pass_20 : decode cX9_pass 20 = .ok (.goto 4, 3) := by decide +kernel
theorem dX9_pass_23 : decode cX9_pass 23 = .ok (.iconst 0, 1) := by decide +kernel
theorem dX9_pass_24 : decode cX9_pass 24 = .ok (.invokestatic 138, 3) := by decide +kernel
theorem dX9_pass_27 : decode cX9_pass 27 = .ok (.iconst 0, 1) := by decide +kernel
theorem dX9_pass_28 : decode cX9_pass 28 = .ok (.istore_n 2, 1) := by decide +kernel
theorem dX9_pass_29 : decode cX9_pass 29 = .ok (.iload_n 2, 1) := by decide +kernel
theorem dX9_pass_30 : decode cX9_pass 30 = .ok (.iload_n 1, 1) := by decide +kernel
theorem dX9_pass_31 : decode cX9_pass 31 = .ok (.if_icmp .ge 27, 3) := by decide +kernel
theorem dX9_pass_34 : decode cX9_pass 34 = .ok (.aload_n 0, 1) := by decide +kernel
theorem dX9_pass_35 : decode cX9_pass 35 = .ok (.dup, 1) := by decide +kernel
theorem dX9_pass_36 : decode cX9_pass 36 = .ok (.getfield 65, 3) := by decide +kernel
theorem dX9_pass_39 : decode cX9_pass 39 = .ok (.iconst 1, 1) := by decide +kernel
theorem dX9_pass_40 : decode cX9_pass 40 = .ok (.iadd, 1) := by decide +kernel
theorem dX9_pass_41 : decode cX9_pass 41 = .ok (.putfield 65, 3) := by decide +kernel
theorem dX9_pass_44 : decode cX9_pass 44 = .ok (.aload_n 0, 1) := by decide +kernel
theorem dX9_pass_45 : decode cX9_pass 45 = .ok (.invokevirtual 232, 3) := by decide +kernel
theorem dX9_pass_48 : decode cX9_pass 48 = .ok (.aload_n 0, 1) := by decide +kernel
theorem dX9_pass_49 : decode cX9_pass 49 = .ok (.invokevirtual 235, 3) := by decide +kernel
theorem dX9_pass_52 : decode cX9_pass 52 = .ok (.iinc 2 1, 3) := by decide +kernel
theorem dX9_pass_55 : decode cX9_pass 55 = .ok (.goto (-26), 3) := by decide +kernel
theorem dX9_pass_58 : decode cX9_pass 58 = .ok (.aload_n 0, 1) := by decide +kernel
theorem dX9_pass_59 : decode cX9_pass 59 = .ok (.getfield 65, 3) := by decide +kernel
theorem dX9_pass_62 : decode cX9_pass 62 = .ok (.ireturn, 1) := by decide +kernel
theorem dX9_lorry_0 : decode cX9_lorry 0 = .ok (.iload_n 1, 1) := by decide +kernel
theorem dX9_lorry_1 : decode cX9_lorry 1 = .ok (.bipush 8, 2) := by decide +kernel
theorem dX9_lorry_3 : decode cX9_lorry 3 = .ok (.invokestatic 79, 3) := by decide +kernel
theorem dX9_lorry_6 : decode cX9_lorry 6 = .ok (.iload_n 2, 1) := by decide +kernel
theorem dX9_lorry_7 : decode cX9_lorry 7 = .ok (.aload_n 0, 1) := by decide +kernel
theorem dX9_lorry_8 : decode cX9_lorry 8 = .ok (.getfield 65, 3) := by decide +kernel
theorem dX9_lorry_11 : decode cX9_lorry 11 = .ok (.iconst 1, 1) := by decide +kernel
theorem dX9_lorry_12 : decode cX9_lorry 12 = .ok (.iadd, 1) := by decide +kernel
theorem dX9_lorry_13 : decode cX9_lorry 13 = .ok (.ldc 83, 2) := by decide +kernel
theorem dX9_lorry_15 : decode cX9_lorry 15 = .ok (.invokestatic 84, 3) := by decide +kernel
theorem dX9_lorry_18 : decode cX9_lorry 18 = .ok (.iload_n 3, 1) := by decide +kernel
theorem dX9_lorry_19 : decode cX9_lorry 19 = .ok (.iconst 1, 1) := by decide +kernel
theorem dX9_lorry_20 : decode cX9_lorry 20 = .ok (.bipush 50, 2) := by decide +kernel
theorem dX9_lorry_22 : decode cX9_lorry 22 = .ok (.invokestatic 84, 3) := by decide +kernel
theorem dX9_lorry_25 : decode cX9_lorry 25 = .ok (.aload_n 0, 1) := by decide +kernel
theorem dX9_lorry_26 : decode cX9_lorry 26 = .ok (.getfield 61, 3) := by decide +kernel
theorem dX9_lorry_29 : decode cX9_lorry 29 = .ok (.getfield 238, 3) := by decide +kernel
theorem dX9_lorry_32 : decode cX9_lorry 32 = .ok (.bipush 20, 2) := by decide +kernel
theorem dX9_lorry_34 : decode cX9_lorry 34 = .ok (.if_icmp .ge 7, 3) := by decide +kernel
theorem dX9_lorry_37 : decode cX9_lorry 37 = .ok (.iconst 1, 1) := by decide +kernel
theorem dX9_lorry_38 : decode cX9_lorry 38 = .ok (.goto 4, 3) := by decide +kernel
theorem dX9_lorry_41 : decode cX9_lorry 41 = .ok (.iconst 0, 1) := by decide +kernel
theorem dX9_lorry_42 : decode cX9_lorry 42 = .ok (.invokestatic 138, 3) := by decide +kernel
theorem dX9_lorry_45 : decode cX9_lorry 45 = .ok (.aload_n 0, 1) := by decide +kernel
theorem dX9_lorry_46 : decode cX9_lorry 46 = .ok (.getfield 61, 3) := by decide +kernel
theorem dX9_lorry_49 : decode cX9_lorry 49 = .ok (.iload_n 1, 1) := by decide +kernel
theorem dX9_lorry_50 : decode cX9_lorry 50 = .ok (.iload_n 2, 1) := by decide +kernel
theorem dX9_lorry_51 : decode cX9_lorry 51 = .ok (.iload_n 3, 1) := by decide +kernel
theorem dX9_lorry_52 : decode cX9_lorry 52 = .ok (.invokevirtual 239, 3) := by decide +kernel
theorem dX9_lorry_55 : decode cX9_lorry 55 = .ok (.ireturn, 1) := by decide +kernel
theorem dX9_pay_0 : decode cX9_pay 0 = .ok (.iload_n 1, 1) := by decide +kernel
theorem dX9_pay_1 : decode cX9_pay 1 = .ok (.bipush 8, 2) := by decide +kernel
theorem dX9_pay_3 : decode cX9_pay 3 = .ok (.invokestatic 79, 3) := by decide +kernel
theorem dX9_pay_6 : decode cX9_pay 6 = .ok (.iload_n 2, 1) := by decide +kernel
theorem dX9_pay_7 : decode cX9_pay 7 = .ok (.iconst 1, 1) := by decide +kernel
theorem dX9_pay_8 : decode cX9_pay 8 = .ok (.ldc 122, 2) := by decide +kernel
theorem dX9_pay_10 : decode cX9_pay 10 = .ok (.invokestatic 84, 3) := by decide +kernel
theorem dX9_pay_13 : decode cX9_pay 13 = .ok (.iconst 0, 1) := by decide +kernel
theorem dX9_pay_14 : decode cX9_pay 14 = .ok (.iload_n 2, 1) := by decide +kernel
theorem dX9_pay_15 : decode cX9_pay 15 = .ok (.aload_n 0, 1) := by decide +kernel
theorem dX9_pay_16 : decode cX9_pay 16 = .ok (.getfield 26, 3) := by decide +kernel
theorem dX9_pay_19 : decode cX9_pay 19 = .ok (.getfield 241, 3) := by decide +kernel
theorem dX9_pay_22 : decode cX9_pay 22 = .ok (.iload_n 1, 1) := by decide +kernel
theorem dX9_pay_23 : decode cX9_pay 23 = .ok (.invokevirtual 200, 3) := by decide +kernel
theorem dX9_pay_26 : decode cX9_pay 26 = .ok (.invokestatic 244, 3) := by decide +kernel
theorem dX9_pay_29 : decode cX9_pay 29 = .ok (.invokestatic 249, 3) := by decide +kernel
theorem dX9_pay_32 : decode cX9_pay 32 = .ok (.istore_n 3, 1) := by decide +kernel
theorem dX9_pay_33 : decode cX9_pay 33 = .ok (.aload_n 0, 1) := by decide +kernel
theorem dX9_pay_34 : decode cX9_pay 34 = .ok (.getfield 26, 3) := by decide +kernel
theorem dX9_pay_37 : decode cX9_pay 37 = .ok (.getfield 241, 3) := by decide +kernel
theorem dX9_pay_40 : decode cX9_pay 40 = .ok (.iload_n 1, 1) := by decide +kernel
theorem dX9_pay_41 : decode cX9_pay 41 = .ok (.iload_n 3, 1) := by decide +kernel
theorem dX9_pay_42 : decode cX9_pay 42 = .ok (.ineg, 1) := by decide +kernel
theorem dX9_pay_43 : decode cX9_pay 43 = .ok (.invokevirtual 252, 3) := by decide +kernel
theorem dX9_pay_46 : decode cX9_pay 46 = .ok (.iload_n 3, 1) := by decide +kernel
theorem dX9_pay_47 : decode cX9_pay 47 = .ok (.ireturn, 1) := by decide +kernel
theorem dX9_claim_0 : decode cX9_claim 0 = .ok (.iload_n 1, 1) := by decide +kernel
theorem dX9_claim_1 : decode cX9_claim 1 = .ok (.bipush 8, 2) := by decide +kernel
theorem dX9_claim_3 : decode cX9_claim 3 = .ok (.invokestatic 79, 3) := by decide +kernel
theorem dX9_claim_6 : decode cX9_claim 6 = .ok (.iload_n 2, 1) := by decide +kernel
theorem dX9_claim_7 : decode cX9_claim 7 = .ok (.aload_n 0, 1) := by decide +kernel
theorem dX9_claim_8 : decode cX9_claim 8 = .ok (.getfield 33, 3) := by decide +kernel
theorem dX9_claim_11 : decode cX9_claim 11 = .ok (.getfield 135, 3) := by decide +kernel
theorem dX9_claim_14 : decode cX9_claim 14 = .ok (.invokestatic 79, 3) := by decide +kernel
theorem dX9_claim_17 : decode cX9_claim 17 = .ok (.aload_n 0, 1) := by decide +kernel
theorem dX9_claim_18 : decode cX9_claim 18 = .ok (.getfield 33, 3) := by decide +kernel
theorem dX9_claim_21 : decode cX9_claim 21 = .ok (.getfield 254, 3) := by decide +kernel
theorem dX9_claim_24 : decode cX9_claim 24 = .ok (.iload_n 2, 1) := by decide +kernel
theorem dX9_claim_25 : decode cX9_claim 25 = .ok (.invokevirtual 200, 3) := by decide +kernel
theorem dX9_claim_28 : decode cX9_claim 28 = .ok (.iload_n 1, 1) := by decide +kernel
theorem dX9_claim_29 : decode cX9_claim 29 = .ok (.if_icmp .ne 21, 3) := by decide +kernel
theorem dX9_claim_32 : decode cX9_claim 32 = .ok (.aload_n 0, 1) := by decide +kernel
theorem dX9_claim_33 : decode cX9_claim 33 = .ok (.getfield 33, 3) := by decide +kernel
theorem dX9_claim_36 : decode cX9_claim 36 = .ok (.getfield 257, 3) := by decide +kernel
theorem dX9_claim_39 : decode cX9_claim 39 = .ok (.iload_n 2, 1) := by decide +kernel
theorem dX9_claim_40 : decode cX9_claim 40 = .ok (.invokevirtual 200, 3) := by decide +kernel
theorem dX9_claim_43 : decode cX9_claim 43 = .ok (.ifCond .ne 7, 3) := by decide +kernel
theorem dX9_claim_46 : decode cX9_claim 46 = .ok (.iconst 1, 1) := by decide +kernel
theorem dX9_claim_47 : decode cX9_claim 47 = .ok (.goto 4, 3) := by decide +kernel
theorem dX9_claim_50 : decode cX9_claim 50 = .ok (.iconst 0, 1) := by decide +kernel
theorem dX9_claim_51 : decode cX9_claim 51 = .ok (.invokestatic 138, 3) := by decide +kernel
theorem dX9_claim_54 : decode cX9_claim 54 = .ok (.aload_n 0, 1) := by decide +kernel
theorem dX9_claim_55 : decode cX9_claim 55 = .ok (.getfield 65, 3) := by decide +kernel
theorem dX9_claim_58 : decode cX9_claim 58 = .ok (.aload_n 0, 1) := by decide +kernel
theorem dX9_claim_59 : decode cX9_claim 59 = .ok (.getfield 33, 3) := by decide +kernel
theorem dX9_claim_62 : decode cX9_claim 62 = .ok (.getfield 260, 3) := by decide +kernel
theorem dX9_claim_65 : decode cX9_claim 65 = .ok (.iload_n 2, 1) := by decide +kernel
theorem dX9_claim_66 : decode cX9_claim 66 = .ok (.invokevirtual 200, 3) := by decide +kernel
theorem dX9_claim_69 : decode cX9_claim 69 = .ok (.isub, 1) := by decide +kernel
theorem dX9_claim_70 : decode cX9_claim 70 = .ok (.sipush 240, 3) := by decide +kernel
theorem dX9_claim_73 : decode cX9_claim 73 = .ok (.if_icmp .gt 7, 3) := by decide +kernel
theorem dX9_claim_76 : decode cX9_claim 76 = .ok (.iconst 1, 1) := by decide +kernel
theorem dX9_claim_77 : decode cX9_claim 77 = .ok (.goto 4, 3) := by decide +kernel
theorem dX9_claim_80 : decode cX9_claim 80 = .ok (.iconst 0, 1) := by decide +kernel
theorem dX9_claim_81 : decode cX9_claim 81 = .ok (.invokestatic 138, 3) := by decide +kernel
theorem dX9_claim_84 : decode cX9_claim 84 = .ok (.aload_n 0, 1) := by decide +kernel
theorem dX9_claim_85 : decode cX9_claim 85 = .ok (.getfield 33, 3) := by decide +kernel
theorem dX9_claim_88 : decode cX9_claim 88 = .ok (.iload_n 2, 1) := by decide +kernel
theorem dX9_claim_89 : decode cX9_claim 89 = .ok (.invokevirtual 263, 3) := by decide +kernel
theorem dX9_claim_92 : decode cX9_claim 92 = .ok (.istore_n 3, 1) := by decide +kernel
theorem dX9_claim_93 : decode cX9_claim 93 = .ok (.aload_n 0, 1) := by decide +kernel
theorem dX9_claim_94 : decode cX9_claim 94 = .ok (.getfield 33, 3) := by decide +kernel
theorem dX9_claim_97 : decode cX9_claim 97 = .ok (.getfield 257, 3) := by decide +kernel
theorem dX9_claim_100 : decode cX9_claim 100 = .ok (.iload_n 2, 1) := by decide +kernel
theorem dX9_claim_101 : decode cX9_claim 101 = .ok (.iconst 1, 1) := by decide +kernel
theorem dX9_claim_102 : decode cX9_claim 102 = .ok (.invokevirtual 104, 3) := by decide +kernel
theorem dX9_claim_105 : decode cX9_claim 105 = .ok (.aload_n 0, 1) := by decide +kernel
theorem dX9_claim_106 : decode cX9_claim 106 = .ok (.getfield 26, 3) := by decide +kernel
theorem dX9_claim_109 : decode cX9_claim 109 = .ok (.getfield 241, 3) := by decide +kernel
theorem dX9_claim_112 : decode cX9_claim 112 = .ok (.iload_n 1, 1) := by decide +kernel
theorem dX9_claim_113 : decode cX9_claim 113 = .ok (.iload_n 3, 1) := by decide +kernel
theorem dX9_claim_114 : decode cX9_claim 114 = .ok (.ineg, 1) := by decide +kernel
theorem dX9_claim_115 : decode cX9_claim 115 = .ok (.invokevirtual 252, 3) := by decide +kernel
theorem dX9_claim_118 : decode cX9_claim 118 = .ok (.aload_n 0, 1) := by decide +kernel
theorem dX9_claim_119 : decode cX9_claim 119 = .ok (.getfield 10, 3) := by decide +kernel
theorem dX9_claim_122 : decode cX9_claim 122 = .ok (.getfield 266, 3) := by decide +kernel
theorem dX9_claim_125 : decode cX9_claim 125 = .ok (.aload_n 0, 1) := by decide +kernel
theorem dX9_claim_126 : decode cX9_claim 126 = .ok (.getfield 33, 3) := by decide +kernel
theorem dX9_claim_129 : decode cX9_claim 129 = .ok (.getfield 269, 3) := by decide +kernel
theorem dX9_claim_132 : decode cX9_claim 132 = .ok (.iload_n 2, 1) := by decide +kernel
theorem dX9_claim_133 : decode cX9_claim 133 = .ok (.invokevirtual 200, 3) := by decide +kernel
theorem dX9_claim_136 : decode cX9_claim 136 = .ok (.iload_n 3, 1) := by decide +kernel
theorem dX9_claim_137 : decode cX9_claim 137 = .ok (.ineg, 1) := by decide +kernel
theorem dX9_claim_138 : decode cX9_claim 138 = .ok (.invokevirtual 252, 3) := by decide +kernel
theorem dX9_claim_141 : decode cX9_claim 141 = .ok (.iload_n 3, 1) := by decide +kernel
theorem dX9_claim_142 : decode cX9_claim 142 = .ok (.ireturn, 1) := by decide +kernel
theorem dX9_settle_0 : decode cX9_settle 0 = .ok (.iload_n 1, 1) := by decide +kernel
theorem dX9_settle_1 : decode cX9_settle 1 = .ok (.bipush 8, 2) := by decide +kernel
theorem dX9_settle_3 : decode cX9_settle 3 = .ok (.invokestatic 79, 3) := by decide +kernel
theorem dX9_settle_6 : decode cX9_settle 6 = .ok (.iload_n 2, 1) := by decide +kernel
theorem dX9_settle_7 : decode cX9_settle 7 = .ok (.iconst 0, 1) := by decide +kernel
theorem dX9_settle_8 : decode cX9_settle 8 = .ok (.ldc_w 272, 3) := by decide +kernel
theorem dX9_settle_11 : decode cX9_settle 11 = .ok (.invokestatic 84, 3) := by decide +kernel
theorem dX9_settle_14 : decode cX9_settle 14 = .ok (.iload_n 3, 1) := by decide +kernel
theorem dX9_settle_15 : decode cX9_settle 15 = .ok (.iconst 0, 1) := by decide +kernel
theorem dX9_settle_16 : decode cX9_settle 16 = .ok (.bipush 100, 2) := by decide +kernel
theorem dX9_settle_18 : decode cX9_settle 18 = .ok (.invokestatic 84, 3) := by decide +kernel
theorem dX9_settle_21 : decode cX9_settle 21 = .ok (.aload_n 0, 1) := by decide +kernel
theorem dX9_settle_22 : decode cX9_settle 22 = .ok (.getfield 10, 3) := by decide +kernel
theorem dX9_settle_25 : decode cX9_settle 25 = .ok (.getfield 266, 3) := by decide +kernel
theorem dX9_settle_28 : decode cX9_settle 28 = .ok (.iload_n 1, 1) := by decide +kernel
theorem dX9_settle_29 : decode cX9_settle 29 = .ok (.iconst 0, 1) := by decide +kernel
theorem dX9_settle_30 : decode cX9_settle 30 = .ok (.invokevirtual 96, 3) := by decide +kernel
theorem dX9_settle_33 : decode cX9_settle 33 = .ok (.istore 4, 2) := by decide +kernel
theorem dX9_settle_35 : decode cX9_settle 35 = .ok (.iconst 0, 1) := by decide +kernel
theorem dX9_settle_36 : decode cX9_settle 36 = .ok (.iload 4, 2) := by decide +kernel
theorem dX9_settle_38 : decode cX9_settle 38 = .ok (.invokestatic 249, 3) := by decide +kernel
theorem dX9_settle_41 : decode cX9_settle 41 = .ok (.iconst 3, 1) := by decide +kernel
theorem dX9_settle_42 : decode cX9_settle 42 = .ok (.imul, 1) := by decide +kernel
theorem dX9_settle_43 : decode cX9_settle 43 = .ok (.bipush 100, 2) := by decide +kernel
theorem dX9_settle_45 : decode cX9_settle 45 = .ok (.idiv, 1) := by decide +kernel
theorem dX9_settle_46 : decode cX9_settle 46 = .ok (.istore 5, 2) := by decide +kernel
theorem dX9_settle_48 : decode cX9_settle 48 = .ok (.iload 4, 2) := by decide +kernel
theorem dX9_settle_50 : decode cX9_settle 50 = .ok (.iload 5, 2) := by decide +kernel
theorem dX9_settle_52 : decode cX9_settle 52 = .ok (.isub, 1) := by decide +kernel
theorem dX9_settle_53 : decode cX9_settle 53 = .ok (.iload_n 2, 1) := by decide +kernel
theorem dX9_settle_54 : decode cX9_settle 54 = .ok (.isub, 1) := by decide +kernel
theorem dX9_settle_55 : decode cX9_settle 55 = .ok (.i2l, 1) := by decide +kernel
theorem dX9_settle_56 : decode cX9_settle 56 = .ok (.lstore 6, 2) := by decide +kernel
theorem dX9_settle_58 : decode cX9_settle 58 = .ok (.lconst 0, 1) := by decide +kernel
theorem dX9_settle_59 : decode cX9_settle 59 = .ok (.lload 6, 2) := by decide +kernel
theorem dX9_settle_61 : decode cX9_settle 61 = .ok (.invokestatic 273, 3) := by decide +kernel
theorem dX9_settle_64 : decode cX9_settle 64 = .ok (.iload_n 3, 1) := by decide +kernel
theorem dX9_settle_65 : decode cX9_settle 65 = .ok (.i2l, 1) := by decide +kernel
theorem dX9_settle_66 : decode cX9_settle 66 = .ok (.lmul, 1) := by decide +kernel
theorem dX9_settle_67 : decode cX9_settle 67 = .ok (.ldc2_w 276, 3) := by decide +kernel
theorem dX9_settle_70 : decode cX9_settle 70 = .ok (.ldiv, 1) := by decide +kernel
theorem dX9_settle_71 : decode cX9_settle 71 = .ok (.l2i, 1) := by decide +kernel
theorem dX9_settle_72 : decode cX9_settle 72 = .ok (.ireturn, 1) := by decide +kernel
theorem dX9_now_0 : decode cX9_now 0 = .ok (.aload_n 0, 1) := by decide +kernel
theorem dX9_now_1 : decode cX9_now 1 = .ok (.getfield 65, 3) := by decide +kernel
theorem dX9_now_4 : decode cX9_now 4 = .ok (.ireturn, 1) := by decide +kernel
theorem dX9_day_0 : decode cX9_day 0 = .ok (.aload_n 0, 1) := by decide +kernel
theorem dX9_day_1 : decode cX9_day 1 = .ok (.getfield 69, 3) := by decide +kernel
theorem dX9_day_4 : decode cX9_day 4 = .ok (.ireturn, 1) := by decide +kernel
theorem dX9_isOpen_0 : decode cX9_isOpen 0 = .ok (.aload_n 0, 1) := by decide +kernel
theorem dX9_isOpen_1 : decode cX9_isOpen 1 = .ok (.getfield 72, 3) := by decide +kernel
theorem dX9_isOpen_4 : decode cX9_isOpen 4 = .ok (.ireturn, 1) := by decide +kernel
theorem dX9_told_0 : decode cX9_told 0 = .ok (.iload_n 1, 1) := by decide +kernel
theorem dX9_told_1 : decode cX9_told 1 = .ok (.aload_n 0, 1) := by decide +kernel
theorem dX9_told_2 : decode cX9_told 2 = .ok (.getfield 33, 3) := by decide +kernel
theorem dX9_told_5 : decode cX9_told 5 = .ok (.getfield 135, 3) := by decide +kernel
theorem dX9_told_8 : decode cX9_told 8 = .ok (.invokestatic 79, 3) := by decide +kernel
theorem dX9_told_11 : decode cX9_told 11 = .ok (.iload_n 2, 1) := by decide +kernel
theorem dX9_told_12 : decode cX9_told 12 = .ok (.iconst 0, 1) := by decide +kernel
theorem dX9_told_13 : decode cX9_told 13 = .ok (.iconst 4, 1) := by decide +kernel
theorem dX9_told_14 : decode cX9_told 14 = .ok (.invokestatic 84, 3) := by decide +kernel
theorem dX9_told_17 : decode cX9_told 17 = .ok (.iload_n 2, 1) := by decide +kernel
theorem dX9_told_18 : decode cX9_told 18 = .ok (.tableswitch 81 0 3 #[30, 42, 57, 69], 30) := by decide +kernel
theorem dX9_told_48 : decode cX9_told 48 = .ok (.aload_n 0, 1) := by decide +kernel
theorem dX9_told_49 : decode cX9_told 49 = .ok (.getfield 33, 3) := by decide +kernel
theorem dX9_told_52 : decode cX9_told 52 = .ok (.getfield 278, 3) := by decide +kernel
theorem dX9_told_55 : decode cX9_told 55 = .ok (.iload_n 1, 1) := by decide +kernel
theorem dX9_told_56 : decode cX9_told 56 = .ok (.invokevirtual 200, 3) := by decide +kernel
theorem dX9_told_59 : decode cX9_told 59 = .ok (.ireturn, 1) := by decide +kernel
theorem dX9_told_60 : decode cX9_told 60 = .ok (.aload_n 0, 1) := by decide +kernel
theorem dX9_told_61 : decode cX9_told 61 = .ok (.getfield 33, 3) := by decide +kernel
theorem dX9_told_64 : decode cX9_told 64 = .ok (.getfield 279, 3) := by decide +kernel
theorem dX9_told_67 : decode cX9_told 67 = .ok (.iload_n 1, 1) := by decide +kernel
theorem dX9_told_68 : decode cX9_told 68 = .ok (.invokevirtual 200, 3) := by decide +kernel
theorem dX9_told_71 : decode cX9_told 71 = .ok (.invokestatic 282, 3) := by decide +kernel
theorem dX9_told_74 : decode cX9_told 74 = .ok (.ireturn, 1) := by decide +kernel
theorem dX9_told_75 : decode cX9_told 75 = .ok (.aload_n 0, 1) := by decide +kernel
theorem dX9_told_76 : decode cX9_told 76 = .ok (.getfield 33, 3) := by decide +kernel
theorem dX9_told_79 : decode cX9_told 79 = .ok (.getfield 254, 3) := by decide +kernel
theorem dX9_told_82 : decode cX9_told 82 = .ok (.iload_n 1, 1) := by decide +kernel
theorem dX9_told_83 : decode cX9_told 83 = .ok (.invokevirtual 200, 3) := by decide +kernel
theorem dX9_told_86 : decode cX9_told 86 = .ok (.ireturn, 1) := by decide +kernel
theorem dX9_told_87 : decode cX9_told 87 = .ok (.aload_n 0, 1) := by decide +kernel
theorem dX9_told_88 : decode cX9_told 88 = .ok (.getfield 33, 3) := by decide +kernel
theorem dX9_told_91 : decode cX9_told 91 = .ok (.getfield 285, 3) := by decide +kernel
theorem dX9_told_94 : decode cX9_told 94 = .ok (.iload_n 1, 1) := by decide +kernel
theorem dX9_told_95 : decode cX9_told 95 = .ok (.invokevirtual 200, 3) := by decide +kernel
theorem dX9_told_98 : decode cX9_told 98 = .ok (.ireturn, 1) := by decide +kernel
theorem dX9_told_99 : decode cX9_told 99 = .ok (.aload_n 0, 1) := by decide +kernel
theorem dX9_told_100 : decode cX9_told 100 = .ok (.getfield 33, 3) := by decide +kernel
theorem dX9_told_103 : decode cX9_told 103 = .ok (.getfield 191, 3) := by decide +kernel
theorem dX9_told_106 : decode cX9_told 106 = .ok (.iload_n 1, 1) := by decide +kernel
theorem dX9_told_107 : decode cX9_told 107 = .ok (.invokevirtual 200, 3) := by decide +kernel
theorem dX9_told_110 : decode cX9_told 110 = .ok (.ireturn, 1) := by decide +kernel
theorem dX9_lot_0 : decode cX9_lot 0 = .ok (.iload_n 1, 1) := by decide +kernel
theorem dX9_lot_1 : decode cX9_lot 1 = .ok (.aload_n 0, 1) := by decide +kernel
theorem dX9_lot_2 : decode cX9_lot 2 = .ok (.getfield 40, 3) := by decide +kernel
theorem dX9_lot_5 : decode cX9_lot 5 = .ok (.getfield 184, 3) := by decide +kernel
theorem dX9_lot_8 : decode cX9_lot 8 = .ok (.invokestatic 79, 3) := by decide +kernel
theorem dX9_lot_11 : decode cX9_lot 11 = .ok (.iload_n 2, 1) := by decide +kernel
theorem dX9_lot_12 : decode cX9_lot 12 = .ok (.iconst 0, 1) := by decide +kernel
theorem dX9_lot_13 : decode cX9_lot 13 = .ok (.iconst 5, 1) := by decide +kernel
theorem dX9_lot_14 : decode cX9_lot 14 = .ok (.invokestatic 84, 3) := by decide +kernel
theorem dX9_lot_17 : decode cX9_lot 17 = .ok (.iload_n 2, 1) := by decide +kernel
theorem dX9_lot_18 : decode cX9_lot 18 = .ok (.tableswitch 103 0 4 #[34, 46, 61, 76, 91], 34) := by decide +kernel
theorem dX9_lot_52 : decode cX9_lot 52 = .ok (.aload_n 0, 1) := by decide +kernel
theorem dX9_lot_53 : decode cX9_lot 53 = .ok (.getfield 40, 3) := by decide +kernel
theorem dX9_lot_56 : decode cX9_lot 56 = .ok (.getfield 286, 3) := by decide +kernel
theorem dX9_lot_59 : decode cX9_lot 59 = .ok (.iload_n 1, 1) := by decide +kernel
theorem dX9_lot_60 : decode cX9_lot 60 = .ok (.invokevirtual 200, 3) := by decide +kernel
theorem dX9_lot_63 : decode cX9_lot 63 = .ok (.ireturn, 1) := by decide +kernel
theorem dX9_lot_64 : decode cX9_lot 64 = .ok (.aload_n 0, 1) := by decide +kernel
theorem dX9_lot_65 : decode cX9_lot 65 = .ok (.getfield 40, 3) := by decide +kernel
theorem dX9_lot_68 : decode cX9_lot 68 = .ok (.getfield 287, 3) := by decide +kernel
theorem dX9_lot_71 : decode cX9_lot 71 = .ok (.iload_n 1, 1) := by decide +kernel
theorem dX9_lot_72 : decode cX9_lot 72 = .ok (.invokevirtual 200, 3) := by decide +kernel
theorem dX9_lot_75 : decode cX9_lot 75 = .ok (.invokestatic 288, 3) := by decide +kernel
theorem dX9_lot_78 : decode cX9_lot 78 = .ok (.ireturn, 1) := by decide +kernel
theorem dX9_lot_79 : decode cX9_lot 79 = .ok (.aload_n 0, 1) := by decide +kernel
theorem dX9_lot_80 : decode cX9_lot 80 = .ok (.getfield 40, 3) := by decide +kernel
theorem dX9_lot_83 : decode cX9_lot 83 = .ok (.getfield 287, 3) := by decide +kernel
theorem dX9_lot_86 : decode cX9_lot 86 = .ok (.iload_n 1, 1) := by decide +kernel
theorem dX9_lot_87 : decode cX9_lot 87 = .ok (.invokevirtual 200, 3) := by decide +kernel
theorem dX9_lot_90 : decode cX9_lot 90 = .ok (.invokestatic 291, 3) := by decide +kernel
theorem dX9_lot_93 : decode cX9_lot 93 = .ok (.ireturn, 1) := by decide +kernel
theorem dX9_lot_94 : decode cX9_lot 94 = .ok (.aload_n 0, 1) := by decide +kernel
theorem dX9_lot_95 : decode cX9_lot 95 = .ok (.getfield 40, 3) := by decide +kernel
theorem dX9_lot_98 : decode cX9_lot 98 = .ok (.getfield 287, 3) := by decide +kernel
theorem dX9_lot_101 : decode cX9_lot 101 = .ok (.iload_n 1, 1) := by decide +kernel
theorem dX9_lot_102 : decode cX9_lot 102 = .ok (.invokevirtual 200, 3) := by decide +kernel
theorem dX9_lot_105 : decode cX9_lot 105 = .ok (.invokestatic 282, 3) := by decide +kernel
theorem dX9_lot_108 : decode cX9_lot 108 = .ok (.ireturn, 1) := by decide +kernel
theorem dX9_lot_109 : decode cX9_lot 109 = .ok (.aload_n 0, 1) := by decide +kernel
theorem dX9_lot_110 : decode cX9_lot 110 = .ok (.getfield 40, 3) := by decide +kernel
theorem dX9_lot_113 : decode cX9_lot 113 = .ok (.getfield 294, 3) := by decide +kernel
theorem dX9_lot_116 : decode cX9_lot 116 = .ok (.iload_n 1, 1) := by decide +kernel
theorem dX9_lot_117 : decode cX9_lot 117 = .ok (.invokevirtual 200, 3) := by decide +kernel
theorem dX9_lot_120 : decode cX9_lot 120 = .ok (.ireturn, 1) := by decide +kernel
theorem dX9_lot_121 : decode cX9_lot 121 = .ok (.aload_n 0, 1) := by decide +kernel
theorem dX9_lot_122 : decode cX9_lot 122 = .ok (.getfield 40, 3) := by decide +kernel
theorem dX9_lot_125 : decode cX9_lot 125 = .ok (.iload_n 1, 1) := by decide +kernel
theorem dX9_lot_126 : decode cX9_lot 126 = .ok (.invokevirtual 217, 3) := by decide +kernel
theorem dX9_lot_129 : decode cX9_lot 129 = .ok (.ireturn, 1) := by decide +kernel
theorem dX9_hall_0 : decode cX9_hall 0 = .ok (.iload_n 1, 1) := by decide +kernel
theorem dX9_hall_1 : decode cX9_hall 1 = .ok (.iconst 3, 1) := by decide +kernel
theorem dX9_hall_2 : decode cX9_hall 2 = .ok (.invokestatic 79, 3) := by decide +kernel
theorem dX9_hall_5 : decode cX9_hall 5 = .ok (.iload_n 2, 1) := by decide +kernel
theorem dX9_hall_6 : decode cX9_hall 6 = .ok (.iconst 0, 1) := by decide +kernel
theorem dX9_hall_7 : decode cX9_hall 7 = .ok (.iconst 4, 1) := by decide +kernel
theorem dX9_hall_8 : decode cX9_hall 8 = .ok (.invokestatic 84, 3) := by decide +kernel
theorem dX9_hall_11 : decode cX9_hall 11 = .ok (.iload_n 2, 1) := by decide +kernel
theorem dX9_hall_12 : decode cX9_hall 12 = .ok (.tableswitch 80 0 3 #[32, 44, 56, 68], 32) := by decide +kernel
theorem dX9_hall_44 : decode cX9_hall 44 = .ok (.aload_n 0, 1) := by decide +kernel
theorem dX9_hall_45 : decode cX9_hall 45 = .ok (.getfield 47, 3) := by decide +kernel
theorem dX9_hall_48 : decode cX9_hall 48 = .ok (.getfield 197, 3) := by decide +kernel
theorem dX9_hall_51 : decode cX9_hall 51 = .ok (.iload_n 1, 1) := by decide +kernel
theorem dX9_hall_52 : decode cX9_hall 52 = .ok (.invokevirtual 200, 3) := by decide +kernel
theorem dX9_hall_55 : decode cX9_hall 55 = .ok (.ireturn, 1) := by decide +kernel
theorem dX9_hall_56 : decode cX9_hall 56 = .ok (.aload_n 0, 1) := by decide +kernel
theorem dX9_hall_57 : decode cX9_hall 57 = .ok (.getfield 47, 3) := by decide +kernel
theorem dX9_hall_60 : decode cX9_hall 60 = .ok (.getfield 216, 3) := by decide +kernel
theorem dX9_hall_63 : decode cX9_hall 63 = .ok (.iload_n 1, 1) := by decide +kernel
theorem dX9_hall_64 : decode cX9_hall 64 = .ok (.invokevirtual 200, 3) := by decide +kernel
theorem dX9_hall_67 : decode cX9_hall 67 = .ok (.ireturn, 1) := by decide +kernel
theorem dX9_hall_68 : decode cX9_hall 68 = .ok (.aload_n 0, 1) := by decide +kernel
theorem dX9_hall_69 : decode cX9_hall 69 = .ok (.getfield 47, 3) := by decide +kernel
theorem dX9_hall_72 : decode cX9_hall 72 = .ok (.getfield 206, 3) := by decide +kernel
theorem dX9_hall_75 : decode cX9_hall 75 = .ok (.iload_n 1, 1) := by decide +kernel
theorem dX9_hall_76 : decode cX9_hall 76 = .ok (.invokevirtual 200, 3) := by decide +kernel
theorem dX9_hall_79 : decode cX9_hall 79 = .ok (.ireturn, 1) := by decide +kernel
theorem dX9_hall_80 : decode cX9_hall 80 = .ok (.aload_n 0, 1) := by decide +kernel
theorem dX9_hall_81 : decode cX9_hall 81 = .ok (.getfield 47, 3) := by decide +kernel
theorem dX9_hall_84 : decode cX9_hall 84 = .ok (.getfield 213, 3) := by decide +kernel
theorem dX9_hall_87 : decode cX9_hall 87 = .ok (.iload_n 1, 1) := by decide +kernel
theorem dX9_hall_88 : decode cX9_hall 88 = .ok (.invokevirtual 200, 3) := by decide +kernel
theorem dX9_hall_91 : decode cX9_hall 91 = .ok (.ireturn, 1) := by decide +kernel
theorem dX9_hall_92 : decode cX9_hall 92 = .ok (.aload_n 0, 1) := by decide +kernel
theorem dX9_hall_93 : decode cX9_hall 93 = .ok (.getfield 47, 3) := by decide +kernel
theorem dX9_hall_96 : decode cX9_hall 96 = .ok (.getfield 167, 3) := by decide +kernel
theorem dX9_hall_99 : decode cX9_hall 99 = .ok (.iload_n 1, 1) := by decide +kernel
theorem dX9_hall_100 : decode cX9_hall 100 = .ok (.invokevirtual 200, 3) := by decide +kernel
theorem dX9_hall_103 : decode cX9_hall 103 = .ok (.ireturn, 1) := by decide +kernel
theorem dX9_account_0 : decode cX9_account 0 = .ok (.iload_n 1, 1) := by decide +kernel
theorem dX9_account_1 : decode cX9_account 1 = .ok (.bipush 8, 2) := by decide +kernel
theorem dX9_account_3 : decode cX9_account 3 = .ok (.invokestatic 79, 3) := by decide +kernel
theorem dX9_account_6 : decode cX9_account 6 = .ok (.iload_n 2, 1) := by decide +kernel
theorem dX9_account_7 : decode cX9_account 7 = .ok (.iconst 0, 1) := by decide +kernel
theorem dX9_account_8 : decode cX9_account 8 = .ok (.iconst 2, 1) := by decide +kernel
theorem dX9_account_9 : decode cX9_account 9 = .ok (.invokestatic 84, 3) := by decide +kernel
theorem dX9_account_12 : decode cX9_account 12 = .ok (.iload_n 2, 1) := by decide +kernel
theorem dX9_account_13 : decode cX9_account 13 = .ok (.lookupswitch 51 #[(0, 27), (1, 39)], 27) := by decide +kernel
theorem dX9_account_40 : decode cX9_account 40 = .ok (.aload_n 0, 1) := by decide +kernel
theorem dX9_account_41 : decode cX9_account 41 = .ok (.getfield 26, 3) := by decide +kernel
theorem dX9_account_44 : decode cX9_account 44 = .ok (.getfield 126, 3) := by decide +kernel
theorem dX9_account_47 : decode cX9_account 47 = .ok (.iload_n 1, 1) := by decide +kernel
theorem dX9_account_48 : decode cX9_account 48 = .ok (.invokevirtual 200, 3) := by decide +kernel
theorem dX9_account_51 : decode cX9_account 51 = .ok (.ireturn, 1) := by decide +kernel
theorem dX9_account_52 : decode cX9_account 52 = .ok (.aload_n 0, 1) := by decide +kernel
theorem dX9_account_53 : decode cX9_account 53 = .ok (.getfield 26, 3) := by decide +kernel
theorem dX9_account_56 : decode cX9_account 56 = .ok (.getfield 241, 3) := by decide +kernel
theorem dX9_account_59 : decode cX9_account 59 = .ok (.iload_n 1, 1) := by decide +kernel
theorem dX9_account_60 : decode cX9_account 60 = .ok (.invokevirtual 200, 3) := by decide +kernel
theorem dX9_account_63 : decode cX9_account 63 = .ok (.ireturn, 1) := by decide +kernel
theorem dX9_account_64 : decode cX9_account 64 = .ok (.aload_n 0, 1) := by decide +kernel
theorem dX9_account_65 : decode cX9_account 65 = .ok (.getfield 26, 3) := by decide +kernel
theorem dX9_account_68 : decode cX9_account 68 = .ok (.getfield 295, 3) := by decide +kernel
theorem dX9_account_71 : decode cX9_account 71 = .ok (.iload_n 1, 1) := by decide +kernel
theorem dX9_account_72 : decode cX9_account 72 = .ok (.invokevirtual 200, 3) := by decide +kernel
theorem dX9_account_75 : decode cX9_account 75 = .ok (.ireturn, 1) := by decide +kernel
theorem dX9_ship_0 : decode cX9_ship 0 = .ok (.iload_n 1, 1) := by decide +kernel
theorem dX9_ship_1 : decode cX9_ship 1 = .ok (.bipush 8, 2) := by decide +kernel
theorem dX9_ship_3 : decode cX9_ship 3 = .ok (.invokestatic 79, 3) := by decide +kernel
theorem dX9_ship_6 : decode cX9_ship 6 = .ok (.iload_n 2, 1) := by decide +kernel
theorem dX9_ship_7 : decode cX9_ship 7 = .ok (.iconst 0, 1) := by decide +kernel
theorem dX9_ship_8 : decode cX9_ship 8 = .ok (.iconst 2, 1) := by decide +kernel
theorem dX9_ship_9 : decode cX9_ship 9 = .ok (.invokestatic 84, 3) := by decide +kernel
theorem dX9_ship_12 : decode cX9_ship 12 = .ok (.iload_n 2, 1) := by decide +kernel
theorem dX9_ship_13 : decode cX9_ship 13 = .ok (.lookupswitch 51 #[(0, 27), (1, 39)], 27) := by decide +kernel
theorem dX9_ship_40 : decode cX9_ship 40 = .ok (.aload_n 0, 1) := by decide +kernel
theorem dX9_ship_41 : decode cX9_ship 41 = .ok (.getfield 10, 3) := by decide +kernel
theorem dX9_ship_44 : decode cX9_ship 44 = .ok (.getfield 266, 3) := by decide +kernel
theorem dX9_ship_47 : decode cX9_ship 47 = .ok (.iload_n 1, 1) := by decide +kernel
theorem dX9_ship_48 : decode cX9_ship 48 = .ok (.invokevirtual 200, 3) := by decide +kernel
theorem dX9_ship_51 : decode cX9_ship 51 = .ok (.ireturn, 1) := by decide +kernel
theorem dX9_ship_52 : decode cX9_ship 52 = .ok (.aload_n 0, 1) := by decide +kernel
theorem dX9_ship_53 : decode cX9_ship 53 = .ok (.getfield 10, 3) := by decide +kernel
theorem dX9_ship_56 : decode cX9_ship 56 = .ok (.getfield 107, 3) := by decide +kernel
theorem dX9_ship_59 : decode cX9_ship 59 = .ok (.iload_n 1, 1) := by decide +kernel
theorem dX9_ship_60 : decode cX9_ship 60 = .ok (.invokevirtual 200, 3) := by decide +kernel
theorem dX9_ship_63 : decode cX9_ship 63 = .ok (.ireturn, 1) := by decide +kernel
theorem dX9_ship_64 : decode cX9_ship 64 = .ok (.aload_n 0, 1) := by decide +kernel
theorem dX9_ship_65 : decode cX9_ship 65 = .ok (.getfield 10, 3) := by decide +kernel
theorem dX9_ship_68 : decode cX9_ship 68 = .ok (.getfield 298, 3) := by decide +kernel
theorem dX9_ship_71 : decode cX9_ship 71 = .ok (.iload_n 1, 1) := by decide +kernel
theorem dX9_ship_72 : decode cX9_ship 72 = .ok (.invokevirtual 200, 3) := by decide +kernel
theorem dX9_ship_75 : decode cX9_ship 75 = .ok (.ireturn, 1) := by decide +kernel
theorem dX9_kilos_0 : decode cX9_kilos 0 = .ok (.iload_n 1, 1) := by decide +kernel
theorem dX9_kilos_1 : decode cX9_kilos 1 = .ok (.iconst 0, 1) := by decide +kernel
theorem dX9_kilos_2 : decode cX9_kilos 2 = .ok (.iconst 5, 1) := by decide +kernel
theorem dX9_kilos_3 : decode cX9_kilos 3 = .ok (.invokestatic 84, 3) := by decide +kernel
theorem dX9_kilos_6 : decode cX9_kilos 6 = .ok (.aload_n 0, 1) := by decide +kernel
theorem dX9_kilos_7 : decode cX9_kilos 7 = .ok (.getfield 33, 3) := by decide +kernel
theorem dX9_kilos_10 : decode cX9_kilos 10 = .ok (.getfield 301, 3) := by decide +kernel
theorem dX9_kilos_13 : decode cX9_kilos 13 = .ok (.iload_n 1, 1) := by decide +kernel
theorem dX9_kilos_14 : decode cX9_kilos 14 = .ok (.invokevirtual 200, 3) := by decide +kernel
theorem dX9_kilos_17 : decode cX9_kilos 17 = .ok (.ireturn, 1) := by decide +kernel
theorem dX9_kilosAnew_0 : decode cX9_kilosAnew 0 = .ok (.iload_n 1, 1) := by decide +kernel
theorem dX9_kilosAnew_1 : decode cX9_kilosAnew 1 = .ok (.iconst 0, 1) := by decide +kernel
theorem dX9_kilosAnew_2 : decode cX9_kilosAnew 2 = .ok (.iconst 5, 1) := by decide +kernel
theorem dX9_kilosAnew_3 : decode cX9_kilosAnew 3 = .ok (.invokestatic 84, 3) := by decide +kernel
theorem dX9_kilosAnew_6 : decode cX9_kilosAnew 6 = .ok (.iconst 0, 1) := by decide +kernel
theorem dX9_kilosAnew_7 : decode cX9_kilosAnew 7 = .ok (.istore_n 2, 1) := by decide +kernel
theorem dX9_kilosAnew_8 : decode cX9_kilosAnew 8 = .ok (.iconst 0, 1) := by decide +kernel
theorem dX9_kilosAnew_9 : decode cX9_kilosAnew 9 = .ok (.istore_n 3, 1) := by decide +kernel
theorem dX9_kilosAnew_10 : decode cX9_kilosAnew 10 = .ok (.iload_n 3, 1) := by decide +kernel
theorem dX9_kilosAnew_11 : decode cX9_kilosAnew 11 = .ok (.aload_n 0, 1) := by decide +kernel
theorem dX9_kilosAnew_12 : decode cX9_kilosAnew 12 = .ok (.getfield 33, 3) := by decide +kernel
theorem dX9_kilosAnew_15 : decode cX9_kilosAnew 15 = .ok (.getfield 135, 3) := by decide +kernel
theorem dX9_kilosAnew_18 : decode cX9_kilosAnew 18 = .ok (.if_icmp .ge 45, 3) := by decide +kernel
theorem dX9_kilosAnew_21 : decode cX9_kilosAnew 21 = .ok (.iload_n 1, 1) := by decide +kernel
theorem dX9_kilosAnew_22 : decode cX9_kilosAnew 22 = .ok (.ifCond .eq 21, 3) := by decide +kernel
theorem dX9_kilosAnew_25 : decode cX9_kilosAnew 25 = .ok (.aload_n 0, 1) := by decide +kernel
theorem dX9_kilosAnew_26 : decode cX9_kilosAnew 26 = .ok (.getfield 33, 3) := by decide +kernel
theorem dX9_kilosAnew_29 : decode cX9_kilosAnew 29 = .ok (.getfield 278, 3) := by decide +kernel
theorem dX9_kilosAnew_32 : decode cX9_kilosAnew 32 = .ok (.iload_n 3, 1) := by decide +kernel
theorem dX9_kilosAnew_33 : decode cX9_kilosAnew 33 = .ok (.invokevirtual 200, 3) := by decide +kernel
theorem dX9_kilosAnew_36 : decode cX9_kilosAnew 36 = .ok (.invokestatic 304, 3) := by decide +kernel
theorem dX9_kilosAnew_39 : decode cX9_kilosAnew 39 = .ok (.iload_n 1, 1) := by decide +kernel
theorem dX9_kilosAnew_40 : decode cX9_kilosAnew 40 = .ok (.if_icmp .ne 17, 3) := by decide +kernel
theorem dX9_kilosAnew_43 : decode cX9_kilosAnew 43 = .ok (.iload_n 2, 1) := by decide +kernel
theorem dX9_kilosAnew_44 : decode cX9_kilosAnew 44 = .ok (.aload_n 0, 1) := by decide +kernel
theorem dX9_kilosAnew_45 : decode cX9_kilosAnew 45 = .ok (.getfield 33, 3) := by decide +kernel
theorem dX9_kilosAnew_48 : decode cX9_kilosAnew 48 = .ok (.getfield 307, 3) := by decide +kernel
theorem dX9_kilosAnew_51 : decode cX9_kilosAnew 51 = .ok (.iload_n 3, 1) := by decide +kernel
theorem dX9_kilosAnew_52 : decode cX9_kilosAnew 52 = .ok (.invokevirtual 200, 3) := by decide +kernel
theorem dX9_kilosAnew_55 : decode cX9_kilosAnew 55 = .ok (.iadd, 1) := by decide +kernel
theorem dX9_kilosAnew_56 : decode cX9_kilosAnew 56 = .ok (.istore_n 2, 1) := by decide +kernel
theorem dX9_kilosAnew_57 : decode cX9_kilosAnew 57 = .ok (.iinc 3 1, 3) := by decide +kernel
theorem dX9_kilosAnew_60 : decode cX9_kilosAnew 60 = .ok (.goto (-50), 3) := by decide +kernel
theorem dX9_kilosAnew_63 : decode cX9_kilosAnew 63 = .ok (.iload_n 2, 1) := by decide +kernel
theorem dX9_kilosAnew_64 : decode cX9_kilosAnew 64 = .ok (.ireturn, 1) := by decide +kernel
theorem dX9_average_0 : decode cX9_average 0 = .ok (.iload_n 1, 1) := by decide +kernel
theorem dX9_average_1 : decode cX9_average 1 = .ok (.iconst 4, 1) := by decide +kernel
theorem dX9_average_2 : decode cX9_average 2 = .ok (.invokestatic 79, 3) := by decide +kernel
theorem dX9_average_5 : decode cX9_average 5 = .ok (.iload_n 2, 1) := by decide +kernel
theorem dX9_average_6 : decode cX9_average 6 = .ok (.iconst 0, 1) := by decide +kernel
theorem dX9_average_7 : decode cX9_average 7 = .ok (.aload_n 0, 1) := by decide +kernel
theorem dX9_average_8 : decode cX9_average 8 = .ok (.getfield 69, 3) := by decide +kernel
theorem dX9_average_11 : decode cX9_average 11 = .ok (.invokestatic 84, 3) := by decide +kernel
theorem dX9_average_14 : decode cX9_average 14 = .ok (.iconst 0, 1) := by decide +kernel
theorem dX9_average_15 : decode cX9_average 15 = .ok (.istore_n 3, 1) := by decide +kernel
theorem dX9_average_16 : decode cX9_average 16 = .ok (.iconst 0, 1) := by decide +kernel
theorem dX9_average_17 : decode cX9_average 17 = .ok (.istore 4, 2) := by decide +kernel
theorem dX9_average_19 : decode cX9_average 19 = .ok (.iconst 0, 1) := by decide +kernel
theorem dX9_average_20 : decode cX9_average 20 = .ok (.istore 5, 2) := by decide +kernel
theorem dX9_average_22 : decode cX9_average 22 = .ok (.iload 5, 2) := by decide +kernel
theorem dX9_average_24 : decode cX9_average 24 = .ok (.aload_n 0, 1) := by decide +kernel
theorem dX9_average_25 : decode cX9_average 25 = .ok (.getfield 33, 3) := by decide +kernel
theorem dX9_average_28 : decode cX9_average 28 = .ok (.getfield 135, 3) := by decide +kernel
theorem dX9_average_31 : decode cX9_average 31 = .ok (.if_icmp .ge 89, 3) := by decide +kernel
theorem dX9_average_34 : decode cX9_average 34 = .ok (.aload_n 0, 1) := by decide +kernel
theorem dX9_average_35 : decode cX9_average 35 = .ok (.getfield 33, 3) := by decide +kernel
theorem dX9_average_38 : decode cX9_average 38 = .ok (.getfield 310, 3) := by decide +kernel
theorem dX9_average_41 : decode cX9_average 41 = .ok (.iload 5, 2) := by decide +kernel
theorem dX9_average_43 : decode cX9_average 43 = .ok (.invokevirtual 200, 3) := by decide +kernel
theorem dX9_average_46 : decode cX9_average 46 = .ok (.iload_n 2, 1) := by decide +kernel
theorem dX9_average_47 : decode cX9_average 47 = .ok (.if_icmp .ne 67, 3) := by decide +kernel
theorem dX9_average_50 : decode cX9_average 50 = .ok (.aload_n 0, 1) := by decide +kernel
theorem dX9_average_51 : decode cX9_average 51 = .ok (.getfield 33, 3) := by decide +kernel
theorem dX9_average_54 : decode cX9_average 54 = .ok (.getfield 279, 3) := by decide +kernel
theorem dX9_average_57 : decode cX9_average 57 = .ok (.iload 5, 2) := by decide +kernel
theorem dX9_average_59 : decode cX9_average 59 = .ok (.invokevirtual 200, 3) := by decide +kernel
theorem dX9_average_62 : decode cX9_average 62 = .ok (.invokestatic 288, 3) := by decide +kernel
theorem dX9_average_65 : decode cX9_average 65 = .ok (.iload_n 1, 1) := by decide +kernel
theorem dX9_average_66 : decode cX9_average 66 = .ok (.if_icmp .ne 48, 3) := by decide +kernel
theorem dX9_average_69 : decode cX9_average 69 = .ok (.iload_n 3, 1) := by decide +kernel
theorem dX9_average_70 : decode cX9_average 70 = .ok (.aload_n 0, 1) := by decide +kernel
theorem dX9_average_71 : decode cX9_average 71 = .ok (.getfield 33, 3) := by decide +kernel
theorem dX9_average_74 : decode cX9_average 74 = .ok (.getfield 307, 3) := by decide +kernel
theorem dX9_average_77 : decode cX9_average 77 = .ok (.iload 5, 2) := by decide +kernel
theorem dX9_average_79 : decode cX9_average 79 = .ok (.invokevirtual 200, 3) := by decide +kernel
theorem dX9_average_82 : decode cX9_average 82 = .ok (.aload_n 0, 1) := by decide +kernel
theorem dX9_average_83 : decode cX9_average 83 = .ok (.getfield 33, 3) := by decide +kernel
theorem dX9_average_86 : decode cX9_average 86 = .ok (.getfield 285, 3) := by decide +kernel
theorem dX9_average_89 : decode cX9_average 89 = .ok (.iload 5, 2) := by decide +kernel
theorem dX9_average_91 : decode cX9_average 91 = .ok (.invokevirtual 200, 3) := by decide +kernel
theorem dX9_average_94 : decode cX9_average 94 = .ok (.imul, 1) := by decide +kernel
theorem dX9_average_95 : decode cX9_average 95 = .ok (.iadd, 1) := by decide +kernel
theorem dX9_average_96 : decode cX9_average 96 = .ok (.istore_n 3, 1) := by decide +kernel
theorem dX9_average_97 : decode cX9_average 97 = .ok (.iload 4, 2) := by decide +kernel
theorem dX9_average_99 : decode cX9_average 99 = .ok (.aload_n 0, 1) := by decide +kernel
theorem dX9_average_100 : decode cX9_average 100 = .ok (.getfield 33, 3) := by decide +kernel
theorem dX9_average_103 : decode cX9_average 103 = .ok (.getfield 307, 3) := by decide +kernel
theorem dX9_average_106 : decode cX9_average 106 = .ok (.iload 5, 2) := by decide +kernel
theorem dX9_average_108 : decode cX9_average 108 = .ok (.invokevirtual 200, 3) := by decide +kernel
theorem dX9_average_111 : decode cX9_average 111 = .ok (.iadd, 1) := by decide +kernel
theorem dX9_average_112 : decode cX9_average 112 = .ok (.istore 4, 2) := by decide +kernel
theorem dX9_average_114 : decode cX9_average 114 = .ok (.iinc 5 1, 3) := by decide +kernel
theorem dX9_average_117 : decode cX9_average 117 = .ok (.goto (-95), 3) := by decide +kernel
theorem dX9_average_120 : decode cX9_average 120 = .ok (.iload 4, 2) := by decide +kernel
theorem dX9_average_122 : decode cX9_average 122 = .ok (.ifCond .le 10, 3) := by decide +kernel
theorem dX9_average_125 : decode cX9_average 125 = .ok (.iload_n 3, 1) := by decide +kernel
theorem dX9_average_126 : decode cX9_average 126 = .ok (.iload 4, 2) := by decide +kernel
theorem dX9_average_128 : decode cX9_average 128 = .ok (.idiv, 1) := by decide +kernel
theorem dX9_average_129 : decode cX9_average 129 = .ok (.goto 4, 3) := by decide +kernel
theorem dX9_average_132 : decode cX9_average 132 = .ok (.iconst (-1), 1) := by decide +kernel
theorem dX9_average_133 : decode cX9_average 133 = .ok (.ireturn, 1) := by decide +kernel
theorem dX9_loaded_0 : decode cX9_loaded 0 = .ok (.iload_n 1, 1) := by decide +kernel
theorem dX9_loaded_1 : decode cX9_loaded 1 = .ok (.aload_n 0, 1) := by decide +kernel
theorem dX9_loaded_2 : decode cX9_loaded 2 = .ok (.getfield 61, 3) := by decide +kernel
theorem dX9_loaded_5 : decode cX9_loaded 5 = .ok (.getfield 238, 3) := by decide +kernel
theorem dX9_loaded_8 : decode cX9_loaded 8 = .ok (.invokestatic 79, 3) := by decide +kernel
theorem dX9_loaded_11 : decode cX9_loaded 11 = .ok (.aload_n 0, 1) := by decide +kernel
theorem dX9_loaded_12 : decode cX9_loaded 12 = .ok (.getfield 61, 3) := by decide +kernel
theorem dX9_loaded_15 : decode cX9_loaded 15 = .ok (.getfield 313, 3) := by decide +kernel
theorem dX9_loaded_18 : decode cX9_loaded 18 = .ok (.iload_n 1, 1) := by decide +kernel
theorem dX9_loaded_19 : decode cX9_loaded 19 = .ok (.invokevirtual 200, 3) := by decide +kernel
theorem dX9_loaded_22 : decode cX9_loaded 22 = .ok (.ireturn, 1) := by decide +kernel
theorem dX9_mustExist_0 : decode cX9_mustExist 0 = .ok (.iload_n 0, 1) := by decide +kernel
theorem dX9_mustExist_1 : decode cX9_mustExist 1 = .ok (.ifCond .lt 8, 3) := by decide +kernel
theorem dX9_mustExist_4 : decode cX9_mustExist 4 = .ok (.iload_n 0, 1) := by decide +kernel
theorem dX9_mustExist_5 : decode cX9_mustExist 5 = .ok (.iload_n 1, 1) := by decide +kernel
theorem dX9_mustExist_6 : decode cX9_mustExist 6 = .ok (.if_icmp .lt 14, 3) := by decide +kernel
theorem dX9_mustExist_9 : decode cX9_mustExist 9 = .ok (.new 316, 3) := by decide +kernel
theorem dX9_mustExist_12 : decode cX9_mustExist 12 = .ok (.dup, 1) := by decide +kernel
theorem dX9_mustExist_13 : decode cX9_mustExist 13 = .ok (.ldc_w 318, 3) := by decide +kernel
theorem dX9_mustExist_16 : decode cX9_mustExist 16 = .ok (.invokespecial 320, 3) := by decide +kernel
theorem dX9_mustExist_19 : decode cX9_mustExist 19 = .ok (.athrow, 1) := by decide +kernel
theorem dX9_mustExist_20 : decode cX9_mustExist 20 = .ok (.return_, 1) := by decide +kernel
theorem dX9_mustBeIn_0 : decode cX9_mustBeIn 0 = .ok (.iload_n 0, 1) := by decide +kernel
theorem dX9_mustBeIn_1 : decode cX9_mustBeIn 1 = .ok (.iload_n 1, 1) := by decide +kernel
theorem dX9_mustBeIn_2 : decode cX9_mustBeIn 2 = .ok (.if_icmp .lt 8, 3) := by decide +kernel
theorem dX9_mustBeIn_5 : decode cX9_mustBeIn 5 = .ok (.iload_n 0, 1) := by decide +kernel
theorem dX9_mustBeIn_6 : decode cX9_mustBeIn 6 = .ok (.iload_n 2, 1) := by decide +kernel
theorem dX9_mustBeIn_7 : decode cX9_mustBeIn 7 = .ok (.if_icmp .le 14, 3) := by decide +kernel
theorem dX9_mustBeIn_10 : decode cX9_mustBeIn 10 = .ok (.new 323, 3) := by decide +kernel
theorem dX9_mustBeIn_13 : decode cX9_mustBeIn 13 = .ok (.dup, 1) := by decide +kernel
theorem dX9_mustBeIn_14 : decode cX9_mustBeIn 14 = .ok (.ldc_w 325, 3) := by decide +kernel
theorem dX9_mustBeIn_17 : decode cX9_mustBeIn 17 = .ok (.invokespecial 327, 3) := by decide +kernel
theorem dX9_mustBeIn_20 : decode cX9_mustBeIn 20 = .ok (.athrow, 1) := by decide +kernel
theorem dX9_mustBeIn_21 : decode cX9_mustBeIn 21 = .ok (.return_, 1) := by decide +kernel
theorem dX9_mustHold_0 : decode cX9_mustHold 0 = .ok (.iload_n 0, 1) := by decide +kernel
theorem dX9_mustHold_1 : decode cX9_mustHold 1 = .ok (.ifCond .ne 14, 3) := by decide +kernel
theorem dX9_mustHold_4 : decode cX9_mustHold 4 = .ok (.new 328, 3) := by decide +kernel
theorem dX9_mustHold_7 : decode cX9_mustHold 7 = .ok (.dup, 1) := by decide +kernel
theorem dX9_mustHold_8 : decode cX9_mustHold 8 = .ok (.ldc_w 330, 3) := by decide +kernel
theorem dX9_mustHold_11 : decode cX9_mustHold 11 = .ok (.invokespecial 332, 3) := by decide +kernel
theorem dX9_mustHold_14 : decode cX9_mustHold 14 = .ok (.athrow, 1) := by decide +kernel
theorem dX9_mustHold_15 : decode cX9_mustHold 15 = .ok (.return_, 1) := by decide +kernel
theorem dX9_countWaitingBoxes_0 : decode cX9_countWaitingBoxes 0 = .ok (.iconst 0, 1) := by decide +kernel
theorem dX9_countWaitingBoxes_1 : decode cX9_countWaitingBoxes 1 = .ok (.istore_n 1, 1) := by decide +kernel
theorem dX9_countWaitingBoxes_2 : decode cX9_countWaitingBoxes 2 = .ok (.iload_n 1, 1) := by decide +kernel
theorem dX9_countWaitingBoxes_3 : decode cX9_countWaitingBoxes 3 = .ok (.aload_n 0, 1) := by decide +kernel
theorem dX9_countWaitingBoxes_4 : decode cX9_countWaitingBoxes 4 = .ok (.getfield 33, 3) := by decide +kernel
theorem dX9_countWaitingBoxes_7 : decode cX9_countWaitingBoxes 7 = .ok (.getfield 135, 3) := by decide +kernel
theorem dX9_countWaitingBoxes_10 : decode cX9_countWaitingBoxes 10 = .ok (.if_icmp .ge 42, 3) := by decide +kernel
theorem dX9_countWaitingBoxes_13 : decode cX9_countWaitingBoxes 13 = .ok (.aload_n 0, 1) := by decide +kernel
theorem dX9_countWaitingBoxes_14 : decode cX9_countWaitingBoxes 14 = .ok (.getfield 33, 3) := by decide +kernel
theorem dX9_countWaitingBoxes_17 : decode cX9_countWaitingBoxes 17 = .ok (.iload_n 1, 1) := by decide +kernel
theorem dX9_countWaitingBoxes_18 : decode cX9_countWaitingBoxes 18 = .ok (.invokevirtual 333, 3) := by decide +kernel
theorem dX9_countWaitingBoxes_21 : decode cX9_countWaitingBoxes 21 = .ok (.ifCond .eq 25, 3) := by decide +kernel
theorem dX9_countWaitingBoxes_24 : decode cX9_countWaitingBoxes 24 = .ok (.aload_n 0, 1) := by decide +kernel
theorem dX9_countWaitingBoxes_25 : decode cX9_countWaitingBoxes 25 = .ok (.getfield 10, 3) := by decide +kernel
theorem dX9_countWaitingBoxes_28 : decode cX9_countWaitingBoxes 28 = .ok (.getfield 337, 3) := by decide +kernel
theorem dX9_countWaitingBoxes_31 : decode cX9_countWaitingBoxes 31 = .ok (.aload_n 0, 1) := by decide +kernel
theorem dX9_countWaitingBoxes_32 : decode cX9_countWaitingBoxes 32 = .ok (.getfield 33, 3) := by decide +kernel
theorem dX9_countWaitingBoxes_35 : decode cX9_countWaitingBoxes 35 = .ok (.getfield 269, 3) := by decide +kernel
theorem dX9_countWaitingBoxes_38 : decode cX9_countWaitingBoxes 38 = .ok (.iload_n 1, 1) := by decide +kernel
theorem dX9_countWaitingBoxes_39 : decode cX9_countWaitingBoxes 39 = .ok (.invokevirtual 200, 3) := by decide +kernel
theorem dX9_countWaitingBoxes_42 : decode cX9_countWaitingBoxes 42 = .ok (.iconst 1, 1) := by decide +kernel
theorem dX9_countWaitingBoxes_43 : decode cX9_countWaitingBoxes 43 = .ok (.invokevirtual 252, 3) := by decide +kernel
theorem dX9_countWaitingBoxes_46 : decode cX9_countWaitingBoxes 46 = .ok (.iinc 1 1, 3) := by decide +kernel
theorem dX9_countWaitingBoxes_49 : decode cX9_countWaitingBoxes 49 = .ok (.goto (-47), 3) := by decide +kernel
theorem dX9_countWaitingBoxes_52 : decode cX9_countWaitingBoxes 52 = .ok (.return_, 1) := by decide +kernel
theorem dX9_offerBoats_0 : decode cX9_offerBoats 0 = .ok (.aload_n 0, 1) := by decide +kernel
theorem dX9_offerBoats_1 : decode cX9_offerBoats 1 = .ok (.getfield 10, 3) := by decide +kernel
theorem dX9_offerBoats_4 : decode cX9_offerBoats 4 = .ok (.iload_n 1, 1) := by decide +kernel
theorem dX9_offerBoats_5 : decode cX9_offerBoats 5 = .ok (.invokevirtual 340, 3) := by decide +kernel
theorem dX9_offerBoats_8 : decode cX9_offerBoats 8 = .ok (.istore_n 2, 1) := by decide +kernel
theorem dX9_offerBoats_9 : decode cX9_offerBoats 9 = .ok (.iload_n 2, 1) := by decide +kernel
theorem dX9_offerBoats_10 : decode cX9_offerBoats 10 = .ok (.ifCond .le 46, 3) := by decide +kernel
theorem dX9_offerBoats_13 : decode cX9_offerBoats 13 = .ok (.aload_n 0, 1) := by decide +kernel
theorem dX9_offerBoats_14 : decode cX9_offerBoats 14 = .ok (.aload_n 0, 1) := by decide +kernel
theorem dX9_offerBoats_15 : decode cX9_offerBoats 15 = .ok (.getfield 76, 3) := by decide +kernel
theorem dX9_offerBoats_18 : decode cX9_offerBoats 18 = .ok (.ldc_w 343, 3) := by decide +kernel
theorem dX9_offerBoats_21 : decode cX9_offerBoats 21 = .ok (.imul, 1) := by decide +kernel
theorem dX9_offerBoats_22 : decode cX9_offerBoats 22 = .ok (.sipush 12345, 3) := by decide +kernel
theorem dX9_offerBoats_25 : decode cX9_offerBoats 25 = .ok (.iadd, 1) := by decide +kernel
theorem dX9_offerBoats_26 : decode cX9_offerBoats 26 = .ok (.putfield 76, 3) := by decide +kernel
theorem dX9_offerBoats_29 : decode cX9_offerBoats 29 = .ok (.aload_n 0, 1) := by decide +kernel
theorem dX9_offerBoats_30 : decode cX9_offerBoats 30 = .ok (.aload_n 0, 1) := by decide +kernel
theorem dX9_offerBoats_31 : decode cX9_offerBoats 31 = .ok (.getfield 10, 3) := by decide +kernel
theorem dX9_offerBoats_34 : decode cX9_offerBoats 34 = .ok (.iload_n 1, 1) := by decide +kernel
theorem dX9_offerBoats_35 : decode cX9_offerBoats 35 = .ok (.aload_n 0, 1) := by decide +kernel
theorem dX9_offerBoats_36 : decode cX9_offerBoats 36 = .ok (.getfield 76, 3) := by decide +kernel
theorem dX9_offerBoats_39 : decode cX9_offerBoats 39 = .ok (.bipush 16, 2) := by decide +kernel
theorem dX9_offerBoats_41 : decode cX9_offerBoats 41 = .ok (.iushr, 1) := by decide +kernel
theorem dX9_offerBoats_42 : decode cX9_offerBoats 42 = .ok (.iload_n 2, 1) := by decide +kernel
theorem dX9_offerBoats_43 : decode cX9_offerBoats 43 = .ok (.irem, 1) := by decide +kernel
theorem dX9_offerBoats_44 : decode cX9_offerBoats 44 = .ok (.invokevirtual 344, 3) := by decide +kernel
theorem dX9_offerBoats_47 : decode cX9_offerBoats 47 = .ok (.invokevirtual 348, 3) := by decide +kernel
theorem dX9_offerBoats_50 : decode cX9_offerBoats 50 = .ok (.iinc 2 (-1), 3) := by decide +kernel
theorem dX9_offerBoats_53 : decode cX9_offerBoats 53 = .ok (.goto (-44), 3) := by decide +kernel
theorem dX9_offerBoats_56 : decode cX9_offerBoats 56 = .ok (.return_, 1) := by decide +kernel
theorem dX9_offerBoat_0 : decode cX9_offerBoat 0 = .ok (.aload_n 0, 1) := by decide +kernel
theorem dX9_offerBoat_1 : decode cX9_offerBoat 1 = .ok (.getfield 10, 3) := by decide +kernel
theorem dX9_offerBoat_4 : decode cX9_offerBoat 4 = .ok (.getfield 337, 3) := by decide +kernel
theorem dX9_offerBoat_7 : decode cX9_offerBoat 7 = .ok (.iload_n 1, 1) := by decide +kernel
theorem dX9_offerBoat_8 : decode cX9_offerBoat 8 = .ok (.iconst 0, 1) := by decide +kernel
theorem dX9_offerBoat_9 : decode cX9_offerBoat 9 = .ok (.invokevirtual 104, 3) := by decide +kernel
theorem dX9_offerBoat_12 : decode cX9_offerBoat 12 = .ok (.aload_n 0, 1) := by decide +kernel
theorem dX9_offerBoat_13 : decode cX9_offerBoat 13 = .ok (.getfield 40, 3) := by decide +kernel
theorem dX9_offerBoat_16 : decode cX9_offerBoat 16 = .ok (.getfield 351, 3) := by decide +kernel
theorem dX9_offerBoat_19 : decode cX9_offerBoat 19 = .ok (.iconst 0, 1) := by decide +kernel
theorem dX9_offerBoat_20 : decode cX9_offerBoat 20 = .ok (.invokevirtual 194, 3) := by decide +kernel
theorem dX9_offerBoat_23 : decode cX9_offerBoat 23 = .ok (.iconst 0, 1) := by decide +kernel
theorem dX9_offerBoat_24 : decode cX9_offerBoat 24 = .ok (.istore_n 2, 1) := by decide +kernel
theorem dX9_offerBoat_25 : decode cX9_offerBoat 25 = .ok (.iload_n 2, 1) := by decide +kernel
theorem dX9_offerBoat_26 : decode cX9_offerBoat 26 = .ok (.aload_n 0, 1) := by decide +kernel
theorem dX9_offerBoat_27 : decode cX9_offerBoat 27 = .ok (.getfield 33, 3) := by decide +kernel
theorem dX9_offerBoat_30 : decode cX9_offerBoat 30 = .ok (.getfield 135, 3) := by decide +kernel
theorem dX9_offerBoat_33 : decode cX9_offerBoat 33 = .ok (.if_icmp .ge 57, 3) := by decide +kernel
theorem dX9_offerBoat_36 : decode cX9_offerBoat 36 = .ok (.aload_n 0, 1) := by decide +kernel
theorem dX9_offerBoat_37 : decode cX9_offerBoat 37 = .ok (.getfield 33, 3) := by decide +kernel
theorem dX9_offerBoat_40 : decode cX9_offerBoat 40 = .ok (.getfield 269, 3) := by decide +kernel
theorem dX9_offerBoat_43 : decode cX9_offerBoat 43 = .ok (.iload_n 2, 1) := by decide +kernel
theorem dX9_offerBoat_44 : decode cX9_offerBoat 44 = .ok (.invokevirtual 200, 3) := by decide +kernel
theorem dX9_offerBoat_47 : decode cX9_offerBoat 47 = .ok (.iload_n 1, 1) := by decide +kernel
theorem dX9_offerBoat_48 : decode cX9_offerBoat 48 = .ok (.if_icmp .ne 36, 3) := by decide +kernel
theorem dX9_offerBoat_51 : decode cX9_offerBoat 51 = .ok (.aload_n 0, 1) := by decide +kernel
theorem dX9_offerBoat_52 : decode cX9_offerBoat 52 = .ok (.getfield 33, 3) := by decide +kernel
theorem dX9_offerBoat_55 : decode cX9_offerBoat 55 = .ok (.iload_n 2, 1) := by decide +kernel
theorem dX9_offerBoat_56 : decode cX9_offerBoat 56 = .ok (.invokevirtual 333, 3) := by decide +kernel
theorem dX9_offerBoat_59 : decode cX9_offerBoat 59 = .ok (.ifCond .eq 25, 3) := by decide +kernel
theorem dX9_offerBoat_62 : decode cX9_offerBoat 62 = .ok (.aload_n 0, 1) := by decide +kernel
theorem dX9_offerBoat_63 : decode cX9_offerBoat 63 = .ok (.getfield 40, 3) := by decide +kernel
theorem dX9_offerBoat_66 : decode cX9_offerBoat 66 = .ok (.getfield 351, 3) := by decide +kernel
theorem dX9_offerBoat_69 : decode cX9_offerBoat 69 = .ok (.aload_n 0, 1) := by decide +kernel
theorem dX9_offerBoat_70 : decode cX9_offerBoat 70 = .ok (.getfield 33, 3) := by decide +kernel
theorem dX9_offerBoat_73 : decode cX9_offerBoat 73 = .ok (.getfield 279, 3) := by decide +kernel
theorem dX9_offerBoat_76 : decode cX9_offerBoat 76 = .ok (.iload_n 2, 1) := by decide +kernel
theorem dX9_offerBoat_77 : decode cX9_offerBoat 77 = .ok (.invokevirtual 200, 3) := by decide +kernel
theorem dX9_offerBoat_80 : decode cX9_offerBoat 80 = .ok (.iconst 1, 1) := by decide +kernel
theorem dX9_offerBoat_81 : decode cX9_offerBoat 81 = .ok (.invokevirtual 252, 3) := by decide +kernel
theorem dX9_offerBoat_84 : decode cX9_offerBoat 84 = .ok (.iinc 2 1, 3) := by decide +kernel
theorem dX9_offerBoat_87 : decode cX9_offerBoat 87 = .ok (.goto (-62), 3) := by decide +kernel
theorem dX9_offerBoat_90 : decode cX9_offerBoat 90 = .ok (.iconst 0, 1) := by decide +kernel
theorem dX9_offerBoat_91 : decode cX9_offerBoat 91 = .ok (.istore_n 2, 1) := by decide +kernel
theorem dX9_offerBoat_92 : decode cX9_offerBoat 92 = .ok (.iload_n 2, 1) := by decide +kernel
theorem dX9_offerBoat_93 : decode cX9_offerBoat 93 = .ok (.bipush 108, 2) := by decide +kernel
theorem dX9_offerBoat_95 : decode cX9_offerBoat 95 = .ok (.if_icmp .ge 46, 3) := by decide +kernel
theorem dX9_offerBoat_98 : decode cX9_offerBoat 98 = .ok (.aload_n 0, 1) := by decide +kernel
theorem dX9_offerBoat_99 : decode cX9_offerBoat 99 = .ok (.getfield 40, 3) := by decide +kernel
theorem dX9_offerBoat_102 : decode cX9_offerBoat 102 = .ok (.getfield 351, 3) := by decide +kernel
theorem dX9_offerBoat_105 : decode cX9_offerBoat 105 = .ok (.iload_n 2, 1) := by decide +kernel
theorem dX9_offerBoat_106 : decode cX9_offerBoat 106 = .ok (.invokevirtual 200, 3) := by decide +kernel
theorem dX9_offerBoat_109 : decode cX9_offerBoat 109 = .ok (.ifCond .le 26, 3) := by decide +kernel
theorem dX9_offerBoat_112 : decode cX9_offerBoat 112 = .ok (.aload_n 0, 1) := by decide +kernel
theorem dX9_offerBoat_113 : decode cX9_offerBoat 113 = .ok (.getfield 40, 3) := by decide +kernel
theorem dX9_offerBoat_116 : decode cX9_offerBoat 116 = .ok (.iload_n 1, 1) := by decide +kernel
theorem dX9_offerBoat_117 : decode cX9_offerBoat 117 = .ok (.iload_n 2, 1) := by decide +kernel
theorem dX9_offerBoat_118 : decode cX9_offerBoat 118 = .ok (.aload_n 0, 1) := by decide +kernel
theorem dX9_offerBoat_119 : decode cX9_offerBoat 119 = .ok (.getfield 19, 3) := by decide +kernel
theorem dX9_offerBoat_122 : decode cX9_offerBoat 122 = .ok (.getfield 116, 3) := by decide +kernel
theorem dX9_offerBoat_125 : decode cX9_offerBoat 125 = .ok (.iload_n 2, 1) := by decide +kernel
theorem dX9_offerBoat_126 : decode cX9_offerBoat 126 = .ok (.invokestatic 288, 3) := by decide +kernel
theorem dX9_offerBoat_129 : decode cX9_offerBoat 129 = .ok (.invokevirtual 200, 3) := by decide +kernel
theorem dX9_offerBoat_132 : decode cX9_offerBoat 132 = .ok (.invokevirtual 354, 3) := by decide +kernel
theorem dX9_offerBoat_135 : decode cX9_offerBoat 135 = .ok (.iinc 2 1, 3) := by decide +kernel
theorem dX9_offerBoat_138 : decode cX9_offerBoat 138 = .ok (.goto (-46), 3) := by decide +kernel
theorem dX9_offerBoat_141 : decode cX9_offerBoat 141 = .ok (.iconst 0, 1) := by decide +kernel
theorem dX9_offerBoat_142 : decode cX9_offerBoat 142 = .ok (.istore_n 2, 1) := by decide +kernel
theorem dX9_offerBoat_143 : decode cX9_offerBoat 143 = .ok (.iload_n 2, 1) := by decide +kernel
theorem dX9_offerBoat_144 : decode cX9_offerBoat 144 = .ok (.aload_n 0, 1) := by decide +kernel
theorem dX9_offerBoat_145 : decode cX9_offerBoat 145 = .ok (.getfield 33, 3) := by decide +kernel
theorem dX9_offerBoat_148 : decode cX9_offerBoat 148 = .ok (.getfield 135, 3) := by decide +kernel
theorem dX9_offerBoat_151 : decode cX9_offerBoat 151 = .ok (.if_icmp .ge 74, 3) := by decide +kernel
theorem dX9_offerBoat_154 : decode cX9_offerBoat 154 = .ok (.aload_n 0, 1) := by decide +kernel
theorem dX9_offerBoat_155 : decode cX9_offerBoat 155 = .ok (.getfield 33, 3) := by decide +kernel
theorem dX9_offerBoat_158 : decode cX9_offerBoat 158 = .ok (.getfield 269, 3) := by decide +kernel
theorem dX9_offerBoat_161 : decode cX9_offerBoat 161 = .ok (.iload_n 2, 1) := by decide +kernel
theorem dX9_offerBoat_162 : decode cX9_offerBoat 162 = .ok (.invokevirtual 200, 3) := by decide +kernel
theorem dX9_offerBoat_165 : decode cX9_offerBoat 165 = .ok (.iload_n 1, 1) := by decide +kernel
theorem dX9_offerBoat_166 : decode cX9_offerBoat 166 = .ok (.if_icmp .ne 53, 3) := by decide +kernel
theorem dX9_offerBoat_169 : decode cX9_offerBoat 169 = .ok (.aload_n 0, 1) := by decide +kernel
theorem dX9_offerBoat_170 : decode cX9_offerBoat 170 = .ok (.getfield 33, 3) := by decide +kernel
theorem dX9_offerBoat_173 : decode cX9_offerBoat 173 = .ok (.iload_n 2, 1) := by decide +kernel
theorem dX9_offerBoat_174 : decode cX9_offerBoat 174 = .ok (.invokevirtual 333, 3) := by decide +kernel
theorem dX9_offerBoat_177 : decode cX9_offerBoat 177 = .ok (.ifCond .eq 42, 3) := by decide +kernel
theorem dX9_offerBoat_180 : decode cX9_offerBoat 180 = .ok (.aload_n 0, 1) := by decide +kernel
theorem dX9_offerBoat_181 : decode cX9_offerBoat 181 = .ok (.getfield 33, 3) := by decide +kernel
theorem dX9_offerBoat_184 : decode cX9_offerBoat 184 = .ok (.getfield 191, 3) := by decide +kernel
theorem dX9_offerBoat_187 : decode cX9_offerBoat 187 = .ok (.iload_n 2, 1) := by decide +kernel
theorem dX9_offerBoat_188 : decode cX9_offerBoat 188 = .ok (.aload_n 0, 1) := by decide +kernel
theorem dX9_offerBoat_189 : decode cX9_offerBoat 189 = .ok (.getfield 40, 3) := by decide +kernel
theorem dX9_offerBoat_192 : decode cX9_offerBoat 192 = .ok (.aload_n 0, 1) := by decide +kernel
theorem dX9_offerBoat_193 : decode cX9_offerBoat 193 = .ok (.getfield 33, 3) := by decide +kernel
theorem dX9_offerBoat_196 : decode cX9_offerBoat 196 = .ok (.getfield 279, 3) := by decide +kernel
theorem dX9_offerBoat_199 : decode cX9_offerBoat 199 = .ok (.iload_n 2, 1) := by decide +kernel
theorem dX9_offerBoat_200 : decode cX9_offerBoat 200 = .ok (.invokevirtual 200, 3) := by decide +kernel
theorem dX9_offerBoat_203 : decode cX9_offerBoat 203 = .ok (.iload_n 2, 1) := by decide +kernel
theorem dX9_offerBoat_204 : decode cX9_offerBoat 204 = .ok (.invokevirtual 356, 3) := by decide +kernel
theorem dX9_offerBoat_207 : decode cX9_offerBoat 207 = .ok (.invokevirtual 104, 3) := by decide +kernel
theorem dX9_offerBoat_210 : decode cX9_offerBoat 210 = .ok (.aload_n 0, 1) := by decide +kernel
theorem dX9_offerBoat_211 : decode cX9_offerBoat 211 = .ok (.getfield 33, 3) := by decide +kernel
theorem dX9_offerBoat_214 : decode cX9_offerBoat 214 = .ok (.iload_n 2, 1) := by decide +kernel
theorem dX9_offerBoat_215 : decode cX9_offerBoat 215 = .ok (.iconst 2, 1) := by decide +kernel
theorem dX9_offerBoat_216 : decode cX9_offerBoat 216 = .ok (.invokevirtual 359, 3) := by decide +kernel
theorem dX9_offerBoat_219 : decode cX9_offerBoat 219 = .ok (.iinc 2 1, 3) := by decide +kernel
theorem dX9_offerBoat_222 : decode cX9_offerBoat 222 = .ok (.goto (-79), 3) := by decide +kernel
theorem dX9_offerBoat_225 : decode cX9_offerBoat 225 = .ok (.return_, 1) := by decide +kernel
theorem dX9_tickHalls_0 : decode cX9_tickHalls 0 = .ok (.iconst 0, 1) := by decide +kernel
theorem dX9_tickHalls_1 : decode cX9_tickHalls 1 = .ok (.istore_n 1, 1) := by decide +kernel
theorem dX9_tickHalls_2 : decode cX9_tickHalls 2 = .ok (.iload_n 1, 1) := by decide +kernel
theorem dX9_tickHalls_3 : decode cX9_tickHalls 3 = .ok (.iconst 3, 1) := by decide +kernel
theorem dX9_tickHalls_4 : decode cX9_tickHalls 4 = .ok (.if_icmp .ge 86, 3) := by decide +kernel
theorem dX9_tickHalls_7 : decode cX9_tickHalls 7 = .ok (.aload_n 0, 1) := by decide +kernel
theorem dX9_tickHalls_8 : decode cX9_tickHalls 8 = .ok (.getfield 47, 3) := by decide +kernel
theorem dX9_tickHalls_11 : decode cX9_tickHalls 11 = .ok (.getfield 129, 3) := by decide +kernel
theorem dX9_tickHalls_14 : decode cX9_tickHalls 14 = .ok (.iload_n 1, 1) := by decide +kernel
theorem dX9_tickHalls_15 : decode cX9_tickHalls 15 = .ok (.invokevirtual 200, 3) := by decide +kernel
theorem dX9_tickHalls_18 : decode cX9_tickHalls 18 = .ok (.ifCond .ne 6, 3) := by decide +kernel
theorem dX9_tickHalls_21 : decode cX9_tickHalls 21 = .ok (.goto 63, 3) := by decide +kernel
theorem dX9_tickHalls_24 : decode cX9_tickHalls 24 = .ok (.aload_n 0, 1) := by decide +kernel
theorem dX9_tickHalls_25 : decode cX9_tickHalls 25 = .ok (.getfield 47, 3) := by decide +kernel
theorem dX9_tickHalls_28 : decode cX9_tickHalls 28 = .ok (.getfield 197, 3) := by decide +kernel
theorem dX9_tickHalls_31 : decode cX9_tickHalls 31 = .ok (.iload_n 1, 1) := by decide +kernel
theorem dX9_tickHalls_32 : decode cX9_tickHalls 32 = .ok (.invokevirtual 200, 3) := by decide +kernel
theorem dX9_tickHalls_35 : decode cX9_tickHalls 35 = .ok (.tableswitch 49 1 3 #[25, 33, 41], 25) := by decide +kernel
theorem dX9_tickHalls_60 : decode cX9_tickHalls 60 = .ok (.aload_n 0, 1) := by decide +kernel
theorem dX9_tickHalls_61 : decode cX9_tickHalls 61 = .ok (.iload_n 1, 1) := by decide +kernel
theorem dX9_tickHalls_62 : decode cX9_tickHalls 62 = .ok (.invokevirtual 362, 3) := by decide +kernel
theorem dX9_tickHalls_65 : decode cX9_tickHalls 65 = .ok (.goto 19, 3) := by decide +kernel
theorem dX9_tickHalls_68 : decode cX9_tickHalls 68 = .ok (.aload_n 0, 1) := by decide +kernel
theorem dX9_tickHalls_69 : decode cX9_tickHalls 69 = .ok (.iload_n 1, 1) := by decide +kernel
theorem dX9_tickHalls_70 : decode cX9_tickHalls 70 = .ok (.invokevirtual 365, 3) := by decide +kernel
theorem dX9_tickHalls_73 : decode cX9_tickHalls 73 = .ok (.goto 11, 3) := by decide +kernel
theorem dX9_tickHalls_76 : decode cX9_tickHalls 76 = .ok (.aload_n 0, 1) := by decide +kernel
theorem dX9_tickHalls_77 : decode cX9_tickHalls 77 = .ok (.iload_n 1, 1) := by decide +kernel
theorem dX9_tickHalls_78 : decode cX9_tickHalls 78 = .ok (.invokevirtual 368, 3) := by decide +kernel
theorem dX9_tickHalls_81 : decode cX9_tickHalls 81 = .ok (.goto 3, 3) := by decide +kernel
theorem dX9_tickHalls_84 : decode cX9_tickHalls 84 = .ok (.iinc 1 1, 3) := by decide +kernel
theorem dX9_tickHalls_87 : decode cX9_tickHalls 87 = .ok (.goto (-85), 3) := by decide +kernel
theorem dX9_tickHalls_90 : decode cX9_tickHalls 90 = .ok (.return_, 1) := by decide +kernel
theorem dX9_tickFalling_0 : decode cX9_tickFalling 0 = .ok (.aload_n 0, 1) := by decide +kernel
theorem dX9_tickFalling_1 : decode cX9_tickFalling 1 = .ok (.getfield 54, 3) := by decide +kernel
theorem dX9_tickFalling_4 : decode cX9_tickFalling 4 = .ok (.iload_n 1, 1) := by decide +kernel
theorem dX9_tickFalling_5 : decode cX9_tickFalling 5 = .ok (.aload_n 0, 1) := by decide +kernel
theorem dX9_tickFalling_6 : decode cX9_tickFalling 6 = .ok (.getfield 65, 3) := by decide +kernel
theorem dX9_tickFalling_9 : decode cX9_tickFalling 9 = .ok (.invokevirtual 371, 3) := by decide +kernel
theorem dX9_tickFalling_12 : decode cX9_tickFalling 12 = .ok (.ifCond .eq 39, 3) := by decide +kernel
theorem dX9_tickFalling_15 : decode cX9_tickFalling 15 = .ok (.aload_n 0, 1) := by decide +kernel
theorem dX9_tickFalling_16 : decode cX9_tickFalling 16 = .ok (.getfield 47, 3) := by decide +kernel
theorem dX9_tickFalling_19 : decode cX9_tickFalling 19 = .ok (.getfield 197, 3) := by decide +kernel
theorem dX9_tickFalling_22 : decode cX9_tickFalling 22 = .ok (.iload_n 1, 1) := by decide +kernel
theorem dX9_tickFalling_23 : decode cX9_tickFalling 23 = .ok (.iconst 2, 1) := by decide +kernel
theorem dX9_tickFalling_24 : decode cX9_tickFalling 24 = .ok (.invokevirtual 104, 3) := by decide +kernel
theorem dX9_tickFalling_27 : decode cX9_tickFalling 27 = .ok (.aload_n 0, 1) := by decide +kernel
theorem dX9_tickFalling_28 : decode cX9_tickFalling 28 = .ok (.getfield 47, 3) := by decide +kernel
theorem dX9_tickFalling_31 : decode cX9_tickFalling 31 = .ok (.getfield 374, 3) := by decide +kernel
theorem dX9_tickFalling_34 : decode cX9_tickFalling 34 = .ok (.iload_n 1, 1) := by decide +kernel
theorem dX9_tickFalling_35 : decode cX9_tickFalling 35 = .ok (.aload_n 0, 1) := by decide +kernel
theorem dX9_tickFalling_36 : decode cX9_tickFalling 36 = .ok (.getfield 65, 3) := by decide +kernel
theorem dX9_tickFalling_39 : decode cX9_tickFalling 39 = .ok (.aload_n 0, 1) := by decide +kernel
theorem dX9_tickFalling_40 : decode cX9_tickFalling 40 = .ok (.getfield 26, 3) := by decide +kernel
theorem dX9_tickFalling_43 : decode cX9_tickFalling 43 = .ok (.invokevirtual 377, 3) := by decide +kernel
theorem dX9_tickFalling_46 : decode cX9_tickFalling 46 = .ok (.iadd, 1) := by decide +kernel
theorem dX9_tickFalling_47 : decode cX9_tickFalling 47 = .ok (.invokevirtual 104, 3) := by decide +kernel
theorem dX9_tickFalling_50 : decode cX9_tickFalling 50 = .ok (.return_, 1) := by decide +kernel
theorem dX9_tickFalling_51 : decode cX9_tickFalling 51 = .ok (.aload_n 0, 1) := by decide +kernel
theorem dX9_tickFalling_52 : decode cX9_tickFalling 52 = .ok (.getfield 47, 3) := by decide +kernel
theorem dX9_tickFalling_55 : decode cX9_tickFalling 55 = .ok (.getfield 206, 3) := by decide +kernel
theorem dX9_tickFalling_58 : decode cX9_tickFalling 58 = .ok (.iload_n 1, 1) := by decide +kernel
theorem dX9_tickFalling_59 : decode cX9_tickFalling 59 = .ok (.aload_n 0, 1) := by decide +kernel
theorem dX9_tickFalling_60 : decode cX9_tickFalling 60 = .ok (.getfield 47, 3) := by decide +kernel
theorem dX9_tickFalling_63 : decode cX9_tickFalling 63 = .ok (.getfield 119, 3) := by decide +kernel
theorem dX9_tickFalling_66 : decode cX9_tickFalling 66 = .ok (.iload_n 1, 1) := by decide +kernel
theorem dX9_tickFalling_67 : decode cX9_tickFalling 67 = .ok (.invokevirtual 200, 3) := by decide +kernel
theorem dX9_tickFalling_70 : decode cX9_tickFalling 70 = .ok (.ineg, 1) := by decide +kernel
theorem dX9_tickFalling_71 : decode cX9_tickFalling 71 = .ok (.invokevirtual 252, 3) := by decide +kernel
theorem dX9_tickFalling_74 : decode cX9_tickFalling 74 = .ok (.aload_n 0, 1) := by decide +kernel
theorem dX9_tickFalling_75 : decode cX9_tickFalling 75 = .ok (.getfield 47, 3) := by decide +kernel
theorem dX9_tickFalling_78 : decode cX9_tickFalling 78 = .ok (.getfield 216, 3) := by decide +kernel
theorem dX9_tickFalling_81 : decode cX9_tickFalling 81 = .ok (.iload_n 1, 1) := by decide +kernel
theorem dX9_tickFalling_82 : decode cX9_tickFalling 82 = .ok (.invokevirtual 200, 3) := by decide +kernel
theorem dX9_tickFalling_85 : decode cX9_tickFalling 85 = .ok (.istore_n 2, 1) := by decide +kernel
theorem dX9_tickFalling_86 : decode cX9_tickFalling 86 = .ok (.aload_n 0, 1) := by decide +kernel
theorem dX9_tickFalling_87 : decode cX9_tickFalling 87 = .ok (.getfield 47, 3) := by decide +kernel
theorem dX9_tickFalling_90 : decode cX9_tickFalling 90 = .ok (.getfield 206, 3) := by decide +kernel
theorem dX9_tickFalling_93 : decode cX9_tickFalling 93 = .ok (.iload_n 1, 1) := by decide +kernel
theorem dX9_tickFalling_94 : decode cX9_tickFalling 94 = .ok (.invokevirtual 200, 3) := by decide +kernel
theorem dX9_tickFalling_97 : decode cX9_tickFalling 97 = .ok (.aload_n 0, 1) := by decide +kernel
theorem dX9_tickFalling_98 : decode cX9_tickFalling 98 = .ok (.getfield 19, 3) := by decide +kernel
theorem dX9_tickFalling_101 : decode cX9_tickFalling 101 = .ok (.aload_n 0, 1) := by decide +kernel
theorem dX9_tickFalling_102 : decode cX9_tickFalling 102 = .ok (.getfield 40, 3) := by decide +kernel
theorem dX9_tickFalling_105 : decode cX9_tickFalling 105 = .ok (.getfield 287, 3) := by decide +kernel
theorem dX9_tickFalling_108 : decode cX9_tickFalling 108 = .ok (.iload_n 2, 1) := by decide +kernel
theorem dX9_tickFalling_109 : decode cX9_tickFalling 109 = .ok (.invokevirtual 200, 3) := by decide +kernel
theorem dX9_tickFalling_112 : decode cX9_tickFalling 112 = .ok (.invokevirtual 380, 3) := by decide +kernel
theorem dX9_tickFalling_115 : decode cX9_tickFalling 115 = .ok (.if_icmp .ge 14, 3) := by decide +kernel
theorem dX9_tickFalling_118 : decode cX9_tickFalling 118 = .ok (.aload_n 0, 1) := by decide +kernel
theorem dX9_tickFalling_119 : decode cX9_tickFalling 119 = .ok (.iload_n 2, 1) := by decide +kernel
theorem dX9_tickFalling_120 : decode cX9_tickFalling 120 = .ok (.invokevirtual 185, 3) := by decide +kernel
theorem dX9_tickFalling_123 : decode cX9_tickFalling 123 = .ok (.pop, 1) := by decide +kernel
theorem dX9_tickFalling_124 : decode cX9_tickFalling 124 = .ok (.aload_n 0, 1) := by decide +kernel
theorem dX9_tickFalling_125 : decode cX9_tickFalling 125 = .ok (.iload_n 1, 1) := by decide +kernel
theorem dX9_tickFalling_126 : decode cX9_tickFalling 126 = .ok (.invokevirtual 229, 3) := by decide +kernel
theorem dX9_tickFalling_129 : decode cX9_tickFalling 129 = .ok (.return_, 1) := by decide +kernel
theorem dX9_tickStanding_0 : decode cX9_tickStanding 0 = .ok (.aload_n 0, 1) := by decide +kernel
theorem dX9_tickStanding_1 : decode cX9_tickStanding 1 = .ok (.getfield 65, 3) := by decide +kernel
theorem dX9_tickStanding_4 : decode cX9_tickStanding 4 = .ok (.aload_n 0, 1) := by decide +kernel
theorem dX9_tickStanding_5 : decode cX9_tickStanding 5 = .ok (.getfield 47, 3) := by decide +kernel
theorem dX9_tickStanding_8 : decode cX9_tickStanding 8 = .ok (.getfield 374, 3) := by decide +kernel
theorem dX9_tickStanding_11 : decode cX9_tickStanding 11 = .ok (.iload_n 1, 1) := by decide +kernel
theorem dX9_tickStanding_12 : decode cX9_tickStanding 12 = .ok (.invokevirtual 200, 3) := by decide +kernel
theorem dX9_tickStanding_15 : decode cX9_tickStanding 15 = .ok (.if_icmp .ge 4, 3) := by decide +kernel
theorem dX9_tickStanding_18 : decode cX9_tickStanding 18 = .ok (.return_, 1) := by decide +kernel
theorem dX9_tickStanding_19 : decode cX9_tickStanding 19 = .ok (.aload_n 0, 1) := by decide +kernel
theorem dX9_tickStanding_20 : decode cX9_tickStanding 20 = .ok (.iload_n 1, 1) := by decide +kernel
theorem dX9_tickStanding_21 : decode cX9_tickStanding 21 = .ok (.invokevirtual 383, 3) := by decide +kernel
theorem dX9_tickStanding_24 : decode cX9_tickStanding 24 = .ok (.istore_n 2, 1) := by decide +kernel
theorem dX9_tickStanding_25 : decode cX9_tickStanding 25 = .ok (.iload_n 2, 1) := by decide +kernel
theorem dX9_tickStanding_26 : decode cX9_tickStanding 26 = .ok (.iconst (-1), 1) := by decide +kernel
theorem dX9_tickStanding_27 : decode cX9_tickStanding 27 = .ok (.if_icmp .ne 9, 3) := by decide +kernel
theorem dX9_tickStanding_30 : decode cX9_tickStanding 30 = .ok (.aload_n 0, 1) := by decide +kernel
theorem dX9_tickStanding_31 : decode cX9_tickStanding 31 = .ok (.iload_n 1, 1) := by decide +kernel
theorem dX9_tickStanding_32 : decode cX9_tickStanding 32 = .ok (.invokevirtual 180, 3) := by decide +kernel
theorem dX9_tickStanding_35 : decode cX9_tickStanding 35 = .ok (.return_, 1) := by decide +kernel
theorem dX9_tickStanding_36 : decode cX9_tickStanding 36 = .ok (.aload_n 0, 1) := by decide +kernel
theorem dX9_tickStanding_37 : decode cX9_tickStanding 37 = .ok (.getfield 47, 3) := by decide +kernel
theorem dX9_tickStanding_40 : decode cX9_tickStanding 40 = .ok (.getfield 197, 3) := by decide +kernel
theorem dX9_tickStanding_43 : decode cX9_tickStanding 43 = .ok (.iload_n 1, 1) := by decide +kernel
theorem dX9_tickStanding_44 : decode cX9_tickStanding 44 = .ok (.iconst 3, 1) := by decide +kernel
theorem dX9_tickStanding_45 : decode cX9_tickStanding 45 = .ok (.invokevirtual 104, 3) := by decide +kernel
theorem dX9_tickStanding_48 : decode cX9_tickStanding 48 = .ok (.aload_n 0, 1) := by decide +kernel
theorem dX9_tickStanding_49 : decode cX9_tickStanding 49 = .ok (.getfield 47, 3) := by decide +kernel
theorem dX9_tickStanding_52 : decode cX9_tickStanding 52 = .ok (.getfield 213, 3) := by decide +kernel
theorem dX9_tickStanding_55 : decode cX9_tickStanding 55 = .ok (.iload_n 1, 1) := by decide +kernel
theorem dX9_tickStanding_56 : decode cX9_tickStanding 56 = .ok (.iload_n 2, 1) := by decide +kernel
theorem dX9_tickStanding_57 : decode cX9_tickStanding 57 = .ok (.invokevirtual 104, 3) := by decide +kernel
theorem dX9_tickStanding_60 : decode cX9_tickStanding 60 = .ok (.aload_n 0, 1) := by decide +kernel
theorem dX9_tickStanding_61 : decode cX9_tickStanding 61 = .ok (.getfield 47, 3) := by decide +kernel
theorem dX9_tickStanding_64 : decode cX9_tickStanding 64 = .ok (.getfield 206, 3) := by decide +kernel
theorem dX9_tickStanding_67 : decode cX9_tickStanding 67 = .ok (.iload_n 1, 1) := by decide +kernel
theorem dX9_tickStanding_68 : decode cX9_tickStanding 68 = .ok (.aload_n 0, 1) := by decide +kernel
theorem dX9_tickStanding_69 : decode cX9_tickStanding 69 = .ok (.getfield 54, 3) := by decide +kernel
theorem dX9_tickStanding_72 : decode cX9_tickStanding 72 = .ok (.iload_n 1, 1) := by decide +kernel
theorem dX9_tickStanding_73 : decode cX9_tickStanding 73 = .ok (.iload_n 2, 1) := by decide +kernel
theorem dX9_tickStanding_74 : decode cX9_tickStanding 74 = .ok (.invokevirtual 386, 3) := by decide +kernel
theorem dX9_tickStanding_77 : decode cX9_tickStanding 77 = .ok (.invokevirtual 104, 3) := by decide +kernel
theorem dX9_tickStanding_80 : decode cX9_tickStanding 80 = .ok (.aload_n 0, 1) := by decide +kernel
theorem dX9_tickStanding_81 : decode cX9_tickStanding 81 = .ok (.getfield 47, 3) := by decide +kernel
theorem dX9_tickStanding_84 : decode cX9_tickStanding 84 = .ok (.getfield 374, 3) := by decide +kernel
theorem dX9_tickStanding_87 : decode cX9_tickStanding 87 = .ok (.iload_n 1, 1) := by decide +kernel
theorem dX9_tickStanding_88 : decode cX9_tickStanding 88 = .ok (.aload_n 0, 1) := by decide +kernel
theorem dX9_tickStanding_89 : decode cX9_tickStanding 89 = .ok (.getfield 65, 3) := by decide +kernel
theorem dX9_tickStanding_92 : decode cX9_tickStanding 92 = .ok (.iconst 3, 1) := by decide +kernel
theorem dX9_tickStanding_93 : decode cX9_tickStanding 93 = .ok (.iadd, 1) := by decide +kernel
theorem dX9_tickStanding_94 : decode cX9_tickStanding 94 = .ok (.invokevirtual 104, 3) := by decide +kernel
theorem dX9_tickStanding_97 : decode cX9_tickStanding 97 = .ok (.return_, 1) := by decide +kernel
theorem dX9_tickTaking_0 : decode cX9_tickTaking 0 = .ok (.aload_n 0, 1) := by decide +kernel
theorem dX9_tickTaking_1 : decode cX9_tickTaking 1 = .ok (.getfield 65, 3) := by decide +kernel
theorem dX9_tickTaking_4 : decode cX9_tickTaking 4 = .ok (.aload_n 0, 1) := by decide +kernel
theorem dX9_tickTaking_5 : decode cX9_tickTaking 5 = .ok (.getfield 47, 3) := by decide +kernel
theorem dX9_tickTaking_8 : decode cX9_tickTaking 8 = .ok (.getfield 374, 3) := by decide +kernel
theorem dX9_tickTaking_11 : decode cX9_tickTaking 11 = .ok (.iload_n 1, 1) := by decide +kernel
theorem dX9_tickTaking_12 : decode cX9_tickTaking 12 = .ok (.invokevirtual 200, 3) := by decide +kernel
theorem dX9_tickTaking_15 : decode cX9_tickTaking 15 = .ok (.if_icmp .ge 4, 3) := by decide +kernel
theorem dX9_tickTaking_18 : decode cX9_tickTaking 18 = .ok (.return_, 1) := by decide +kernel
theorem dX9_tickTaking_19 : decode cX9_tickTaking 19 = .ok (.aload_n 0, 1) := by decide +kernel
theorem dX9_tickTaking_20 : decode cX9_tickTaking 20 = .ok (.iload_n 1, 1) := by decide +kernel
theorem dX9_tickTaking_21 : decode cX9_tickTaking 21 = .ok (.iconst 1, 1) := by decide +kernel
theorem dX9_tickTaking_22 : decode cX9_tickTaking 22 = .ok (.invokevirtual 220, 3) := by decide +kernel
theorem dX9_tickTaking_25 : decode cX9_tickTaking 25 = .ok (.aload_n 0, 1) := by decide +kernel
theorem dX9_tickTaking_26 : decode cX9_tickTaking 26 = .ok (.getfield 26, 3) := by decide +kernel
theorem dX9_tickTaking_29 : decode cX9_tickTaking 29 = .ok (.aload_n 0, 1) := by decide +kernel
theorem dX9_tickTaking_30 : decode cX9_tickTaking 30 = .ok (.getfield 47, 3) := by decide +kernel
theorem dX9_tickTaking_33 : decode cX9_tickTaking 33 = .ok (.getfield 213, 3) := by decide +kernel
theorem dX9_tickTaking_36 : decode cX9_tickTaking 36 = .ok (.iload_n 1, 1) := by decide +kernel
theorem dX9_tickTaking_37 : decode cX9_tickTaking 37 = .ok (.invokevirtual 200, 3) := by decide +kernel
theorem dX9_tickTaking_40 : decode cX9_tickTaking 40 = .ok (.invokevirtual 223, 3) := by decide +kernel
theorem dX9_tickTaking_43 : decode cX9_tickTaking 43 = .ok (.if_icmp .gt 9, 3) := by decide +kernel
theorem dX9_tickTaking_46 : decode cX9_tickTaking 46 = .ok (.aload_n 0, 1) := by decide +kernel
theorem dX9_tickTaking_47 : decode cX9_tickTaking 47 = .ok (.iload_n 1, 1) := by decide +kernel
theorem dX9_tickTaking_48 : decode cX9_tickTaking 48 = .ok (.iconst 1, 1) := by decide +kernel
theorem dX9_tickTaking_49 : decode cX9_tickTaking 49 = .ok (.invokevirtual 226, 3) := by decide +kernel
theorem dX9_tickTaking_52 : decode cX9_tickTaking 52 = .ok (.aload_n 0, 1) := by decide +kernel
theorem dX9_tickTaking_53 : decode cX9_tickTaking 53 = .ok (.iload_n 1, 1) := by decide +kernel
theorem dX9_tickTaking_54 : decode cX9_tickTaking 54 = .ok (.invokevirtual 229, 3) := by decide +kernel
theorem dX9_tickTaking_57 : decode cX9_tickTaking 57 = .ok (.return_, 1) := by decide +kernel
theorem dX9_findWinner_0 : decode cX9_findWinner 0 = .ok (.aload_n 0, 1) := by decide +kernel
theorem dX9_findWinner_1 : decode cX9_findWinner 1 = .ok (.getfield 33, 3) := by decide +kernel
theorem dX9_findWinner_4 : decode cX9_findWinner 4 = .ok (.getfield 307, 3) := by decide +kernel
theorem dX9_findWinner_7 : decode cX9_findWinner 7 = .ok (.aload_n 0, 1) := by decide +kernel
theorem dX9_findWinner_8 : decode cX9_findWinner 8 = .ok (.getfield 40, 3) := by decide +kernel
theorem dX9_findWinner_11 : decode cX9_findWinner 11 = .ok (.aload_n 0, 1) := by decide +kernel
theorem dX9_findWinner_12 : decode cX9_findWinner 12 = .ok (.getfield 47, 3) := by decide +kernel
theorem dX9_findWinner_15 : decode cX9_findWinner 15 = .ok (.getfield 216, 3) := by decide +kernel
theorem dX9_findWinner_18 : decode cX9_findWinner 18 = .ok (.iload_n 1, 1) := by decide +kernel
theorem dX9_findWinner_19 : decode cX9_findWinner 19 = .ok (.invokevirtual 200, 3) := by decide +kernel
theorem dX9_findWinner_22 : decode cX9_findWinner 22 = .ok (.iconst 0, 1) := by decide +kernel
theorem dX9_findWinner_23 : decode cX9_findWinner 23 = .ok (.invokevirtual 389, 3) := by decide +kernel
theorem dX9_findWinner_26 : decode cX9_findWinner 26 = .ok (.invokevirtual 200, 3) := by decide +kernel
theorem dX9_findWinner_29 : decode cX9_findWinner 29 = .ok (.istore_n 2, 1) := by decide +kernel
theorem dX9_findWinner_30 : decode cX9_findWinner 30 = .ok (.iconst (-1), 1) := by decide +kernel
theorem dX9_findWinner_31 : decode cX9_findWinner 31 = .ok (.istore_n 3, 1) := by decide +kernel
theorem dX9_findWinner_32 : decode cX9_findWinner 32 = .ok (.iconst 0, 1) := by decide +kernel
theorem dX9_findWinner_33 : decode cX9_findWinner 33 = .ok (.istore 4, 2) := by decide +kernel
theorem dX9_findWinner_35 : decode cX9_findWinner 35 = .ok (.iload 4, 2) := by decide +kernel
theorem dX9_findWinner_37 : decode cX9_findWinner 37 = .ok (.bipush 8, 2) := by decide +kernel
theorem dX9_findWinner_39 : decode cX9_findWinner 39 = .ok (.if_icmp .ge 78, 3) := by decide +kernel
theorem dX9_findWinner_42 : decode cX9_findWinner 42 = .ok (.aload_n 0, 1) := by decide +kernel
theorem dX9_findWinner_43 : decode cX9_findWinner 43 = .ok (.getfield 54, 3) := by decide +kernel
theorem dX9_findWinner_46 : decode cX9_findWinner 46 = .ok (.iload_n 1, 1) := by decide +kernel
theorem dX9_findWinner_47 : decode cX9_findWinner 47 = .ok (.iload 4, 2) := by decide +kernel
theorem dX9_findWinner_49 : decode cX9_findWinner 49 = .ok (.aload_n 0, 1) := by decide +kernel
theorem dX9_findWinner_50 : decode cX9_findWinner 50 = .ok (.getfield 65, 3) := by decide +kernel
theorem dX9_findWinner_53 : decode cX9_findWinner 53 = .ok (.invokevirtual 392, 3) := by decide +kernel
theorem dX9_findWinner_56 : decode cX9_findWinner 56 = .ok (.ifCond .ne 6, 3) := by decide +kernel
theorem dX9_findWinner_59 : decode cX9_findWinner 59 = .ok (.goto 52, 3) := by decide +kernel
theorem dX9_findWinner_62 : decode cX9_findWinner 62 = .ok (.iload_n 2, 1) := by decide +kernel
theorem dX9_findWinner_63 : decode cX9_findWinner 63 = .ok (.aload_n 0, 1) := by decide +kernel
theorem dX9_findWinner_64 : decode cX9_findWinner 64 = .ok (.getfield 54, 3) := by decide +kernel
theorem dX9_findWinner_67 : decode cX9_findWinner 67 = .ok (.iload_n 1, 1) := by decide +kernel
theorem dX9_findWinner_68 : decode cX9_findWinner 68 = .ok (.iload 4, 2) := by decide +kernel
theorem dX9_findWinner_70 : decode cX9_findWinner 70 = .ok (.invokevirtual 386, 3) := by decide +kernel
theorem dX9_findWinner_73 : decode cX9_findWinner 73 = .ok (.imul, 1) := by decide +kernel
theorem dX9_findWinner_74 : decode cX9_findWinner 74 = .ok (.aload_n 0, 1) := by decide +kernel
theorem dX9_findWinner_75 : decode cX9_findWinner 75 = .ok (.getfield 26, 3) := by decide +kernel
theorem dX9_findWinner_78 : decode cX9_findWinner 78 = .ok (.iload 4, 2) := by decide +kernel
theorem dX9_findWinner_80 : decode cX9_findWinner 80 = .ok (.invokevirtual 223, 3) := by decide +kernel
theorem dX9_findWinner_83 : decode cX9_findWinner 83 = .ok (.if_icmp .le 6, 3) := by decide +kernel
theorem dX9_findWinner_86 : decode cX9_findWinner 86 = .ok (.goto 25, 3) := by decide +kernel
theorem dX9_findWinner_89 : decode cX9_findWinner 89 = .ok (.iload_n 3, 1) := by decide +kernel
theorem dX9_findWinner_90 : decode cX9_findWinner 90 = .ok (.iconst (-1), 1) := by decide +kernel
theorem dX9_findWinner_91 : decode cX9_findWinner 91 = .ok (.if_icmp .eq 17, 3) := by decide +kernel
theorem dX9_findWinner_94 : decode cX9_findWinner 94 = .ok (.aload_n 0, 1) := by decide +kernel
theorem dX9_findWinner_95 : decode cX9_findWinner 95 = .ok (.getfield 54, 3) := by decide +kernel
theorem dX9_findWinner_98 : decode cX9_findWinner 98 = .ok (.iload_n 1, 1) := by decide +kernel
theorem dX9_findWinner_99 : decode cX9_findWinner 99 = .ok (.iload 4, 2) := by decide +kernel
theorem dX9_findWinner_101 : decode cX9_findWinner 101 = .ok (.iload_n 3, 1) := by decide +kernel
theorem dX9_findWinner_102 : decode cX9_findWinner 102 = .ok (.invokevirtual 396, 3) := by decide +kernel
theorem dX9_findWinner_105 : decode cX9_findWinner 105 = .ok (.ifCond .eq 6, 3) := by decide +kernel
theorem dX9_findWinner_108 : decode cX9_findWinner 108 = .ok (.iload 4, 2) := by decide +kernel
theorem dX9_findWinner_110 : decode cX9_findWinner 110 = .ok (.istore_n 3, 1) := by decide +kernel
theorem dX9_findWinner_111 : decode cX9_findWinner 111 = .ok (.iinc 4 1, 3) := by decide +kernel
theorem dX9_findWinner_114 : decode cX9_findWinner 114 = .ok (.goto (-79), 3) := by decide +kernel
theorem dX9_findWinner_117 : decode cX9_findWinner 117 = .ok (.iload_n 3, 1) := by decide +kernel
theorem dX9_findWinner_118 : decode cX9_findWinner 118 = .ok (.ireturn, 1) := by decide +kernel
theorem dX9_bringToClock_0 : decode cX9_bringToClock 0 = .ok (.aload_n 0, 1) := by decide +kernel
theorem dX9_bringToClock_1 : decode cX9_bringToClock 1 = .ok (.getfield 47, 3) := by decide +kernel
theorem dX9_bringToClock_4 : decode cX9_bringToClock 4 = .ok (.getfield 216, 3) := by decide +kernel
theorem dX9_bringToClock_7 : decode cX9_bringToClock 7 = .ok (.iload_n 1, 1) := by decide +kernel
theorem dX9_bringToClock_8 : decode cX9_bringToClock 8 = .ok (.iload_n 2, 1) := by decide +kernel
theorem dX9_bringToClock_9 : decode cX9_bringToClock 9 = .ok (.invokevirtual 104, 3) := by decide +kernel
theorem dX9_bringToClock_12 : decode cX9_bringToClock 12 = .ok (.aload_n 0, 1) := by decide +kernel
theorem dX9_bringToClock_13 : decode cX9_bringToClock 13 = .ok (.getfield 47, 3) := by decide +kernel
theorem dX9_bringToClock_16 : decode cX9_bringToClock 16 = .ok (.getfield 206, 3) := by decide +kernel
theorem dX9_bringToClock_19 : decode cX9_bringToClock 19 = .ok (.iload_n 1, 1) := by decide +kernel
theorem dX9_bringToClock_20 : decode cX9_bringToClock 20 = .ok (.iload_n 2, 1) := by decide +kernel
theorem dX9_bringToClock_21 : decode cX9_bringToClock 21 = .ok (.iconst (-1), 1) := by decide +kernel
theorem dX9_bringToClock_22 : decode cX9_bringToClock 22 = .ok (.if_icmp .ne 7, 3) := by decide +kernel
theorem dX9_bringToClock_25 : decode cX9_bringToClock 25 = .ok (.iconst 0, 1) := by decide +kernel
theorem dX9_bringToClock_26 : decode cX9_bringToClock 26 = .ok (.goto 27, 3) := by decide +kernel
theorem dX9_bringToClock_29 : decode cX9_bringToClock 29 = .ok (.aload_n 0, 1) := by decide +kernel
theorem dX9_bringToClock_30 : decode cX9_bringToClock 30 = .ok (.getfield 19, 3) := by decide +kernel
theorem dX9_bringToClock_33 : decode cX9_bringToClock 33 = .ok (.getfield 110, 3) := by decide +kernel
theorem dX9_bringToClock_36 : decode cX9_bringToClock 36 = .ok (.aload_n 0, 1) := by decide +kernel
theorem dX9_bringToClock_37 : decode cX9_bringToClock 37 = .ok (.getfield 40, 3) := by decide +kernel
theorem dX9_bringToClock_40 : decode cX9_bringToClock 40 = .ok (.getfield 287, 3) := by decide +kernel
theorem dX9_bringToClock_43 : decode cX9_bringToClock 43 = .ok (.iload_n 2, 1) := by decide +kernel
theorem dX9_bringToClock_44 : decode cX9_bringToClock 44 = .ok (.invokevirtual 200, 3) := by decide +kernel
theorem dX9_bringToClock_47 : decode cX9_bringToClock 47 = .ok (.invokestatic 288, 3) := by decide +kernel
theorem dX9_bringToClock_50 : decode cX9_bringToClock 50 = .ok (.invokevirtual 200, 3) := by decide +kernel
theorem dX9_bringToClock_53 : decode cX9_bringToClock 53 = .ok (.invokevirtual 104, 3) := by decide +kernel
theorem dX9_bringToClock_56 : decode cX9_bringToClock 56 = .ok (.return_, 1) := by decide +kernel
theorem dX9_beginRound_0 : decode cX9_beginRound 0 = .ok (.aload_n 0, 1) := by decide +kernel
theorem dX9_beginRound_1 : decode cX9_beginRound 1 = .ok (.getfield 47, 3) := by decide +kernel
theorem dX9_beginRound_4 : decode cX9_beginRound 4 = .ok (.getfield 197, 3) := by decide +kernel
theorem dX9_beginRound_7 : decode cX9_beginRound 7 = .ok (.iload_n 1, 1) := by decide +kernel
theorem dX9_beginRound_8 : decode cX9_beginRound 8 = .ok (.aload_n 0, 1) := by decide +kernel
theorem dX9_beginRound_9 : decode cX9_beginRound 9 = .ok (.getfield 47, 3) := by decide +kernel
theorem dX9_beginRound_12 : decode cX9_beginRound 12 = .ok (.getfield 216, 3) := by decide +kernel
theorem dX9_beginRound_15 : decode cX9_beginRound 15 = .ok (.iload_n 1, 1) := by decide +kernel
theorem dX9_beginRound_16 : decode cX9_beginRound 16 = .ok (.invokevirtual 200, 3) := by decide +kernel
theorem dX9_beginRound_19 : decode cX9_beginRound 19 = .ok (.iconst (-1), 1) := by decide +kernel
theorem dX9_beginRound_20 : decode cX9_beginRound 20 = .ok (.if_icmp .ne 7, 3) := by decide +kernel
theorem dX9_beginRound_23 : decode cX9_beginRound 23 = .ok (.iconst 0, 1) := by decide +kernel
theorem dX9_beginRound_24 : decode cX9_beginRound 24 = .ok (.goto 4, 3) := by decide +kernel
theorem dX9_beginRound_27 : decode cX9_beginRound 27 = .ok (.iconst 1, 1) := by decide +kernel
theorem dX9_beginRound_28 : decode cX9_beginRound 28 = .ok (.invokevirtual 104, 3) := by decide +kernel
theorem dX9_beginRound_31 : decode cX9_beginRound 31 = .ok (.aload_n 0, 1) := by decide +kernel
theorem dX9_beginRound_32 : decode cX9_beginRound 32 = .ok (.getfield 47, 3) := by decide +kernel
theorem dX9_beginRound_35 : decode cX9_beginRound 35 = .ok (.getfield 213, 3) := by decide +kernel
theorem dX9_beginRound_38 : decode cX9_beginRound 38 = .ok (.iload_n 1, 1) := by decide +kernel
theorem dX9_beginRound_39 : decode cX9_beginRound 39 = .ok (.iconst (-1), 1) := by decide +kernel
theorem dX9_beginRound_40 : decode cX9_beginRound 40 = .ok (.invokevirtual 104, 3) := by decide +kernel
theorem dX9_beginRound_43 : decode cX9_beginRound 43 = .ok (.aload_n 0, 1) := by decide +kernel
theorem dX9_beginRound_44 : decode cX9_beginRound 44 = .ok (.getfield 54, 3) := by decide +kernel
theorem dX9_beginRound_47 : decode cX9_beginRound 47 = .ok (.iload_n 1, 1) := by decide +kernel
theorem dX9_beginRound_48 : decode cX9_beginRound 48 = .ok (.invokevirtual 399, 3) := by decide +kernel
theorem dX9_beginRound_51 : decode cX9_beginRound 51 = .ok (.return_, 1) := by decide +kernel
theorem dX9_goOn_0 : decode cX9_goOn 0 = .ok (.aload_n 0, 1) := by decide +kernel
theorem dX9_goOn_1 : decode cX9_goOn 1 = .ok (.getfield 47, 3) := by decide +kernel
theorem dX9_goOn_4 : decode cX9_goOn 4 = .ok (.getfield 216, 3) := by decide +kernel
theorem dX9_goOn_7 : decode cX9_goOn 7 = .ok (.iload_n 1, 1) := by decide +kernel
theorem dX9_goOn_8 : decode cX9_goOn 8 = .ok (.invokevirtual 200, 3) := by decide +kernel
theorem dX9_goOn_11 : decode cX9_goOn 11 = .ok (.istore_n 2, 1) := by decide +kernel
theorem dX9_goOn_12 : decode cX9_goOn 12 = .ok (.aload_n 0, 1) := by decide +kernel
theorem dX9_goOn_13 : decode cX9_goOn 13 = .ok (.getfield 40, 3) := by decide +kernel
theorem dX9_goOn_16 : decode cX9_goOn 16 = .ok (.iload_n 2, 1) := by decide +kernel
theorem dX9_goOn_17 : decode cX9_goOn 17 = .ok (.invokevirtual 217, 3) := by decide +kernel
theorem dX9_goOn_20 : decode cX9_goOn 20 = .ok (.ifCond .ne 29, 3) := by decide +kernel
theorem dX9_goOn_23 : decode cX9_goOn 23 = .ok (.aload_n 0, 1) := by decide +kernel
theorem dX9_goOn_24 : decode cX9_goOn 24 = .ok (.getfield 47, 3) := by decide +kernel
theorem dX9_goOn_27 : decode cX9_goOn 27 = .ok (.getfield 167, 3) := by decide +kernel
theorem dX9_goOn_30 : decode cX9_goOn 30 = .ok (.iload_n 1, 1) := by decide +kernel
theorem dX9_goOn_31 : decode cX9_goOn 31 = .ok (.iconst (-1), 1) := by decide +kernel
theorem dX9_goOn_32 : decode cX9_goOn 32 = .ok (.invokevirtual 252, 3) := by decide +kernel
theorem dX9_goOn_35 : decode cX9_goOn 35 = .ok (.aload_n 0, 1) := by decide +kernel
theorem dX9_goOn_36 : decode cX9_goOn 36 = .ok (.iload_n 1, 1) := by decide +kernel
theorem dX9_goOn_37 : decode cX9_goOn 37 = .ok (.aload_n 0, 1) := by decide +kernel
theorem dX9_goOn_38 : decode cX9_goOn 38 = .ok (.getfield 40, 3) := by decide +kernel
theorem dX9_goOn_41 : decode cX9_goOn 41 = .ok (.iload_n 1, 1) := by decide +kernel
theorem dX9_goOn_42 : decode cX9_goOn 42 = .ok (.iload_n 2, 1) := by decide +kernel
theorem dX9_goOn_43 : decode cX9_goOn 43 = .ok (.invokevirtual 174, 3) := by decide +kernel
theorem dX9_goOn_46 : decode cX9_goOn 46 = .ok (.invokevirtual 177, 3) := by decide +kernel
theorem dX9_goOn_49 : decode cX9_goOn 49 = .ok (.aload_n 0, 1) := by decide +kernel
theorem dX9_goOn_50 : decode cX9_goOn 50 = .ok (.iload_n 1, 1) := by decide +kernel
theorem dX9_goOn_51 : decode cX9_goOn 51 = .ok (.invokevirtual 180, 3) := by decide +kernel
theorem dX9_goOn_54 : decode cX9_goOn 54 = .ok (.return_, 1) := by decide +kernel
theorem dX9_costOfFirst_0 : decode cX9_costOfFirst 0 = .ok (.aload_n 0, 1) := by decide +kernel
theorem dX9_costOfFirst_1 : decode cX9_costOfFirst 1 = .ok (.getfield 47, 3) := by decide +kernel
theorem dX9_costOfFirst_4 : decode cX9_costOfFirst 4 = .ok (.getfield 216, 3) := by decide +kernel
theorem dX9_costOfFirst_7 : decode cX9_costOfFirst 7 = .ok (.iload_n 1, 1) := by decide +kernel
theorem dX9_costOfFirst_8 : decode cX9_costOfFirst 8 = .ok (.invokevirtual 200, 3) := by decide +kernel
theorem dX9_costOfFirst_11 : decode cX9_costOfFirst 11 = .ok (.istore_n 3, 1) := by decide +kernel
theorem dX9_costOfFirst_12 : decode cX9_costOfFirst 12 = .ok (.iconst 0, 1) := by decide +kernel
theorem dX9_costOfFirst_13 : decode cX9_costOfFirst 13 = .ok (.istore 4, 2) := by decide +kernel
theorem dX9_costOfFirst_15 : decode cX9_costOfFirst 15 = .ok (.iconst 0, 1) := by decide +kernel
theorem dX9_costOfFirst_16 : decode cX9_costOfFirst 16 = .ok (.istore 5, 2) := by decide +kernel
theorem dX9_costOfFirst_18 : decode cX9_costOfFirst 18 = .ok (.iload 5, 2) := by decide +kernel
theorem dX9_costOfFirst_20 : decode cX9_costOfFirst 20 = .ok (.iload_n 2, 1) := by decide +kernel
theorem dX9_costOfFirst_21 : decode cX9_costOfFirst 21 = .ok (.if_icmp .ge 34, 3) := by decide +kernel
theorem dX9_costOfFirst_24 : decode cX9_costOfFirst 24 = .ok (.iload 4, 2) := by decide +kernel
theorem dX9_costOfFirst_26 : decode cX9_costOfFirst 26 = .ok (.aload_n 0, 1) := by decide +kernel
theorem dX9_costOfFirst_27 : decode cX9_costOfFirst 27 = .ok (.getfield 33, 3) := by decide +kernel
theorem dX9_costOfFirst_30 : decode cX9_costOfFirst 30 = .ok (.getfield 307, 3) := by decide +kernel
theorem dX9_costOfFirst_33 : decode cX9_costOfFirst 33 = .ok (.aload_n 0, 1) := by decide +kernel
theorem dX9_costOfFirst_34 : decode cX9_costOfFirst 34 = .ok (.getfield 40, 3) := by decide +kernel
theorem dX9_costOfFirst_37 : decode cX9_costOfFirst 37 = .ok (.iload_n 3, 1) := by decide +kernel
theorem dX9_costOfFirst_38 : decode cX9_costOfFirst 38 = .ok (.iload 5, 2) := by decide +kernel
theorem dX9_costOfFirst_40 : decode cX9_costOfFirst 40 = .ok (.invokevirtual 389, 3) := by decide +kernel
theorem dX9_costOfFirst_43 : decode cX9_costOfFirst 43 = .ok (.invokevirtual 200, 3) := by decide +kernel
theorem dX9_costOfFirst_46 : decode cX9_costOfFirst 46 = .ok (.iadd, 1) := by decide +kernel
theorem dX9_costOfFirst_47 : decode cX9_costOfFirst 47 = .ok (.istore 4, 2) := by decide +kernel
theorem dX9_costOfFirst_49 : decode cX9_costOfFirst 49 = .ok (.iinc 5 1, 3) := by decide +kernel
theorem dX9_costOfFirst_52 : decode cX9_costOfFirst 52 = .ok (.goto (-34), 3) := by decide +kernel
theorem dX9_costOfFirst_55 : decode cX9_costOfFirst 55 = .ok (.iload 4, 2) := by decide +kernel
theorem dX9_costOfFirst_57 : decode cX9_costOfFirst 57 = .ok (.aload_n 0, 1) := by decide +kernel
theorem dX9_costOfFirst_58 : decode cX9_costOfFirst 58 = .ok (.getfield 47, 3) := by decide +kernel
theorem dX9_costOfFirst_61 : decode cX9_costOfFirst 61 = .ok (.getfield 206, 3) := by decide +kernel
theorem dX9_costOfFirst_64 : decode cX9_costOfFirst 64 = .ok (.iload_n 1, 1) := by decide +kernel
theorem dX9_costOfFirst_65 : decode cX9_costOfFirst 65 = .ok (.invokevirtual 200, 3) := by decide +kernel
theorem dX9_costOfFirst_68 : decode cX9_costOfFirst 68 = .ok (.imul, 1) := by decide +kernel
theorem dX9_costOfFirst_69 : decode cX9_costOfFirst 69 = .ok (.ireturn, 1) := by decide +kernel
theorem dX9_sellFirst_0 : decode cX9_sellFirst 0 = .ok (.aload_n 0, 1) := by decide +kernel
theorem dX9_sellFirst_1 : decode cX9_sellFirst 1 = .ok (.getfield 47, 3) := by decide +kernel
theorem dX9_sellFirst_4 : decode cX9_sellFirst 4 = .ok (.getfield 216, 3) := by decide +kernel
theorem dX9_sellFirst_7 : decode cX9_sellFirst 7 = .ok (.iload_n 1, 1) := by decide +kernel
theorem dX9_sellFirst_8 : decode cX9_sellFirst 8 = .ok (.invokevirtual 200, 3) := by decide +kernel
theorem dX9_sellFirst_11 : decode cX9_sellFirst 11 = .ok (.istore_n 3, 1) := by decide +kernel
theorem dX9_sellFirst_12 : decode cX9_sellFirst 12 = .ok (.aload_n 0, 1) := by decide +kernel
theorem dX9_sellFirst_13 : decode cX9_sellFirst 13 = .ok (.getfield 47, 3) := by decide +kernel
theorem dX9_sellFirst_16 : decode cX9_sellFirst 16 = .ok (.getfield 213, 3) := by decide +kernel
theorem dX9_sellFirst_19 : decode cX9_sellFirst 19 = .ok (.iload_n 1, 1) := by decide +kernel
theorem dX9_sellFirst_20 : decode cX9_sellFirst 20 = .ok (.invokevirtual 200, 3) := by decide +kernel
theorem dX9_sellFirst_23 : decode cX9_sellFirst 23 = .ok (.istore 4, 2) := by decide +kernel
theorem dX9_sellFirst_25 : decode cX9_sellFirst 25 = .ok (.aload_n 0, 1) := by decide +kernel
theorem dX9_sellFirst_26 : decode cX9_sellFirst 26 = .ok (.getfield 47, 3) := by decide +kernel
theorem dX9_sellFirst_29 : decode cX9_sellFirst 29 = .ok (.getfield 206, 3) := by decide +kernel
theorem dX9_sellFirst_32 : decode cX9_sellFirst 32 = .ok (.iload_n 1, 1) := by decide +kernel
theorem dX9_sellFirst_33 : decode cX9_sellFirst 33 = .ok (.invokevirtual 200, 3) := by decide +kernel
theorem dX9_sellFirst_36 : decode cX9_sellFirst 36 = .ok (.istore 5, 2) := by decide +kernel
theorem dX9_sellFirst_38 : decode cX9_sellFirst 38 = .ok (.iconst 0, 1) := by decide +kernel
theorem dX9_sellFirst_39 : decode cX9_sellFirst 39 = .ok (.istore 6, 2) := by decide +kernel
theorem dX9_sellFirst_41 : decode cX9_sellFirst 41 = .ok (.iload 6, 2) := by decide +kernel
theorem dX9_sellFirst_43 : decode cX9_sellFirst 43 = .ok (.iload_n 2, 1) := by decide +kernel
theorem dX9_sellFirst_44 : decode cX9_sellFirst 44 = .ok (.if_icmp .ge 134, 3) := by decide +kernel
theorem dX9_sellFirst_47 : decode cX9_sellFirst 47 = .ok (.aload_n 0, 1) := by decide +kernel
theorem dX9_sellFirst_48 : decode cX9_sellFirst 48 = .ok (.getfield 40, 3) := by decide +kernel
theorem dX9_sellFirst_51 : decode cX9_sellFirst 51 = .ok (.iload_n 3, 1) := by decide +kernel
theorem dX9_sellFirst_52 : decode cX9_sellFirst 52 = .ok (.iload 6, 2) := by decide +kernel
theorem dX9_sellFirst_54 : decode cX9_sellFirst 54 = .ok (.invokevirtual 389, 3) := by decide +kernel
theorem dX9_sellFirst_57 : decode cX9_sellFirst 57 = .ok (.istore 7, 2) := by decide +kernel
theorem dX9_sellFirst_59 : decode cX9_sellFirst 59 = .ok (.aload_n 0, 1) := by decide +kernel
theorem dX9_sellFirst_60 : decode cX9_sellFirst 60 = .ok (.getfield 33, 3) := by decide +kernel
theorem dX9_sellFirst_63 : decode cX9_sellFirst 63 = .ok (.getfield 307, 3) := by decide +kernel
theorem dX9_sellFirst_66 : decode cX9_sellFirst 66 = .ok (.iload 7, 2) := by decide +kernel
theorem dX9_sellFirst_68 : decode cX9_sellFirst 68 = .ok (.invokevirtual 200, 3) := by decide +kernel
theorem dX9_sellFirst_71 : decode cX9_sellFirst 71 = .ok (.iload 5, 2) := by decide +kernel
theorem dX9_sellFirst_73 : decode cX9_sellFirst 73 = .ok (.imul, 1) := by decide +kernel
theorem dX9_sellFirst_74 : decode cX9_sellFirst 74 = .ok (.istore 8, 2) := by decide +kernel
theorem dX9_sellFirst_76 : decode cX9_sellFirst 76 = .ok (.aload_n 0, 1) := by decide +kernel
theorem dX9_sellFirst_77 : decode cX9_sellFirst 77 = .ok (.getfield 33, 3) := by decide +kernel
theorem dX9_sellFirst_80 : decode cX9_sellFirst 80 = .ok (.iload 7, 2) := by decide +kernel
theorem dX9_sellFirst_82 : decode cX9_sellFirst 82 = .ok (.iload 4, 2) := by decide +kernel
theorem dX9_sellFirst_84 : decode cX9_sellFirst 84 = .ok (.iload 5, 2) := by decide +kernel
theorem dX9_sellFirst_86 : decode cX9_sellFirst 86 = .ok (.invokevirtual 402, 3) := by decide +kernel
theorem dX9_sellFirst_89 : decode cX9_sellFirst 89 = .ok (.aload_n 0, 1) := by decide +kernel
theorem dX9_sellFirst_90 : decode cX9_sellFirst 90 = .ok (.getfield 33, 3) := by decide +kernel
theorem dX9_sellFirst_93 : decode cX9_sellFirst 93 = .ok (.getfield 260, 3) := by decide +kernel
theorem dX9_sellFirst_96 : decode cX9_sellFirst 96 = .ok (.iload 7, 2) := by decide +kernel
theorem dX9_sellFirst_98 : decode cX9_sellFirst 98 = .ok (.aload_n 0, 1) := by decide +kernel
theorem dX9_sellFirst_99 : decode cX9_sellFirst 99 = .ok (.getfield 65, 3) := by decide +kernel
theorem dX9_sellFirst_102 : decode cX9_sellFirst 102 = .ok (.invokevirtual 104, 3) := by decide +kernel
theorem dX9_sellFirst_105 : decode cX9_sellFirst 105 = .ok (.aload_n 0, 1) := by decide +kernel
theorem dX9_sellFirst_106 : decode cX9_sellFirst 106 = .ok (.getfield 33, 3) := by decide +kernel
theorem dX9_sellFirst_109 : decode cX9_sellFirst 109 = .ok (.getfield 310, 3) := by decide +kernel
theorem dX9_sellFirst_112 : decode cX9_sellFirst 112 = .ok (.iload 7, 2) := by decide +kernel
theorem dX9_sellFirst_114 : decode cX9_sellFirst 114 = .ok (.aload_n 0, 1) := by decide +kernel
theorem dX9_sellFirst_115 : decode cX9_sellFirst 115 = .ok (.getfield 69, 3) := by decide +kernel
theorem dX9_sellFirst_118 : decode cX9_sellFirst 118 = .ok (.invokevirtual 104, 3) := by decide +kernel
theorem dX9_sellFirst_121 : decode cX9_sellFirst 121 = .ok (.aload_n 0, 1) := by decide +kernel
theorem dX9_sellFirst_122 : decode cX9_sellFirst 122 = .ok (.getfield 26, 3) := by decide +kernel
theorem dX9_sellFirst_125 : decode cX9_sellFirst 125 = .ok (.getfield 241, 3) := by decide +kernel
theorem dX9_sellFirst_128 : decode cX9_sellFirst 128 = .ok (.iload 4, 2) := by decide +kernel
theorem dX9_sellFirst_130 : decode cX9_sellFirst 130 = .ok (.iload 8, 2) := by decide +kernel
theorem dX9_sellFirst_132 : decode cX9_sellFirst 132 = .ok (.invokevirtual 252, 3) := by decide +kernel
theorem dX9_sellFirst_135 : decode cX9_sellFirst 135 = .ok (.aload_n 0, 1) := by decide +kernel
theorem dX9_sellFirst_136 : decode cX9_sellFirst 136 = .ok (.getfield 26, 3) := by decide +kernel
theorem dX9_sellFirst_139 : decode cX9_sellFirst 139 = .ok (.getfield 295, 3) := by decide +kernel
theorem dX9_sellFirst_142 : decode cX9_sellFirst 142 = .ok (.iload 4, 2) := by decide +kernel
theorem dX9_sellFirst_144 : decode cX9_sellFirst 144 = .ok (.iconst 1, 1) := by decide +kernel
theorem dX9_sellFirst_145 : decode cX9_sellFirst 145 = .ok (.invokevirtual 252, 3) := by decide +kernel
theorem dX9_sellFirst_148 : decode cX9_sellFirst 148 = .ok (.aload_n 0, 1) := by decide +kernel
theorem dX9_sellFirst_149 : decode cX9_sellFirst 149 = .ok (.getfield 10, 3) := by decide +kernel
theorem dX9_sellFirst_152 : decode cX9_sellFirst 152 = .ok (.getfield 266, 3) := by decide +kernel
theorem dX9_sellFirst_155 : decode cX9_sellFirst 155 = .ok (.aload_n 0, 1) := by decide +kernel
theorem dX9_sellFirst_156 : decode cX9_sellFirst 156 = .ok (.getfield 33, 3) := by decide +kernel
theorem dX9_sellFirst_159 : decode cX9_sellFirst 159 = .ok (.getfield 269, 3) := by decide +kernel
theorem dX9_sellFirst_162 : decode cX9_sellFirst 162 = .ok (.iload 7, 2) := by decide +kernel
theorem dX9_sellFirst_164 : decode cX9_sellFirst 164 = .ok (.invokevirtual 200, 3) := by decide +kernel
theorem dX9_sellFirst_167 : decode cX9_sellFirst 167 = .ok (.iload 8, 2) := by decide +kernel
theorem dX9_sellFirst_169 : decode cX9_sellFirst 169 = .ok (.invokevirtual 252, 3) := by decide +kernel
theorem dX9_sellFirst_172 : decode cX9_sellFirst 172 = .ok (.iinc 6 1, 3) := by decide +kernel
theorem dX9_sellFirst_175 : decode cX9_sellFirst 175 = .ok (.goto (-134), 3) := by decide +kernel
theorem dX9_sellFirst_178 : decode cX9_sellFirst 178 = .ok (.aload_n 0, 1) := by decide +kernel
theorem dX9_sellFirst_179 : decode cX9_sellFirst 179 = .ok (.getfield 40, 3) := by decide +kernel
theorem dX9_sellFirst_182 : decode cX9_sellFirst 182 = .ok (.getfield 405, 3) := by decide +kernel
theorem dX9_sellFirst_185 : decode cX9_sellFirst 185 = .ok (.iload_n 3, 1) := by decide +kernel
theorem dX9_sellFirst_186 : decode cX9_sellFirst 186 = .ok (.iload_n 2, 1) := by decide +kernel
theorem dX9_sellFirst_187 : decode cX9_sellFirst 187 = .ok (.invokevirtual 252, 3) := by decide +kernel
theorem dX9_sellFirst_190 : decode cX9_sellFirst 190 = .ok (.return_, 1) := by decide +kernel
theorem dX9_withdrawRest_0 : decode cX9_withdrawRest 0 = .ok (.aload_n 0, 1) := by decide +kernel
theorem dX9_withdrawRest_1 : decode cX9_withdrawRest 1 = .ok (.getfield 40, 3) := by decide +kernel
theorem dX9_withdrawRest_4 : decode cX9_withdrawRest 4 = .ok (.iload_n 1, 1) := by decide +kernel
theorem dX9_withdrawRest_5 : decode cX9_withdrawRest 5 = .ok (.invokevirtual 217, 3) := by decide +kernel
theorem dX9_withdrawRest_8 : decode cX9_withdrawRest 8 = .ok (.istore_n 2, 1) := by decide +kernel
theorem dX9_withdrawRest_9 : decode cX9_withdrawRest 9 = .ok (.iconst 0, 1) := by decide +kernel
theorem dX9_withdrawRest_10 : decode cX9_withdrawRest 10 = .ok (.istore_n 3, 1) := by decide +kernel
theorem dX9_withdrawRest_11 : decode cX9_withdrawRest 11 = .ok (.iload_n 3, 1) := by decide +kernel
theorem dX9_withdrawRest_12 : decode cX9_withdrawRest 12 = .ok (.iload_n 2, 1) := by decide +kernel
theorem dX9_withdrawRest_13 : decode cX9_withdrawRest 13 = .ok (.if_icmp .ge 22, 3) := by decide +kernel
theorem dX9_withdrawRest_16 : decode cX9_withdrawRest 16 = .ok (.aload_n 0, 1) := by decide +kernel
theorem dX9_withdrawRest_17 : decode cX9_withdrawRest 17 = .ok (.aload_n 0, 1) := by decide +kernel
theorem dX9_withdrawRest_18 : decode cX9_withdrawRest 18 = .ok (.getfield 40, 3) := by decide +kernel
theorem dX9_withdrawRest_21 : decode cX9_withdrawRest 21 = .ok (.iload_n 1, 1) := by decide +kernel
theorem dX9_withdrawRest_22 : decode cX9_withdrawRest 22 = .ok (.iload_n 3, 1) := by decide +kernel
theorem dX9_withdrawRest_23 : decode cX9_withdrawRest 23 = .ok (.invokevirtual 389, 3) := by decide +kernel
theorem dX9_withdrawRest_26 : decode cX9_withdrawRest 26 = .ok (.invokevirtual 408, 3) := by decide +kernel
theorem dX9_withdrawRest_29 : decode cX9_withdrawRest 29 = .ok (.iinc 3 1, 3) := by decide +kernel
theorem dX9_withdrawRest_32 : decode cX9_withdrawRest 32 = .ok (.goto (-21), 3) := by decide +kernel
theorem dX9_withdrawRest_35 : decode cX9_withdrawRest 35 = .ok (.aload_n 0, 1) := by decide +kernel
theorem dX9_withdrawRest_36 : decode cX9_withdrawRest 36 = .ok (.getfield 40, 3) := by decide +kernel
theorem dX9_withdrawRest_39 : decode cX9_withdrawRest 39 = .ok (.getfield 405, 3) := by decide +kernel
theorem dX9_withdrawRest_42 : decode cX9_withdrawRest 42 = .ok (.iload_n 1, 1) := by decide +kernel
theorem dX9_withdrawRest_43 : decode cX9_withdrawRest 43 = .ok (.iload_n 2, 1) := by decide +kernel
theorem dX9_withdrawRest_44 : decode cX9_withdrawRest 44 = .ok (.invokevirtual 252, 3) := by decide +kernel
theorem dX9_withdrawRest_47 : decode cX9_withdrawRest 47 = .ok (.iload_n 2, 1) := by decide +kernel
theorem dX9_withdrawRest_48 : decode cX9_withdrawRest 48 = .ok (.ireturn, 1) := by decide +kernel
theorem dX9_withdraw_0 : decode cX9_withdraw 0 = .ok (.aload_n 0, 1) := by decide +kernel
theorem dX9_withdraw_1 : decode cX9_withdraw 1 = .ok (.getfield 33, 3) := by decide +kernel
theorem dX9_withdraw_4 : decode cX9_withdraw 4 = .ok (.getfield 269, 3) := by decide +kernel
theorem dX9_withdraw_7 : decode cX9_withdraw 7 = .ok (.iload_n 1, 1) := by decide +kernel
theorem dX9_withdraw_8 : decode cX9_withdraw 8 = .ok (.invokevirtual 200, 3) := by decide +kernel
theorem dX9_withdraw_11 : decode cX9_withdraw 11 = .ok (.istore_n 2, 1) := by decide +kernel
theorem dX9_withdraw_12 : decode cX9_withdraw 12 = .ok (.aload_n 0, 1) := by decide +kernel
theorem dX9_withdraw_13 : decode cX9_withdraw 13 = .ok (.getfield 33, 3) := by decide +kernel
theorem dX9_withdraw_16 : decode cX9_withdraw 16 = .ok (.getfield 307, 3) := by decide +kernel
theorem dX9_withdraw_19 : decode cX9_withdraw 19 = .ok (.iload_n 1, 1) := by decide +kernel
theorem dX9_withdraw_20 : decode cX9_withdraw 20 = .ok (.invokevirtual 200, 3) := by decide +kernel
theorem dX9_withdraw_23 : decode cX9_withdraw 23 = .ok (.istore_n 3, 1) := by decide +kernel
theorem dX9_withdraw_24 : decode cX9_withdraw 24 = .ok (.aload_n 0, 1) := by decide +kernel
theorem dX9_withdraw_25 : decode cX9_withdraw 25 = .ok (.getfield 10, 3) := by decide +kernel
theorem dX9_withdraw_28 : decode cX9_withdraw 28 = .ok (.getfield 107, 3) := by decide +kernel
theorem dX9_withdraw_31 : decode cX9_withdraw 31 = .ok (.iload_n 2, 1) := by decide +kernel
theorem dX9_withdraw_32 : decode cX9_withdraw 32 = .ok (.invokevirtual 200, 3) := by decide +kernel
theorem dX9_withdraw_35 : decode cX9_withdraw 35 = .ok (.iload_n 3, 1) := by decide +kernel
theorem dX9_withdraw_36 : decode cX9_withdraw 36 = .ok (.if_icmp .lt 43, 3) := by decide +kernel
theorem dX9_withdraw_39 : decode cX9_withdraw 39 = .ok (.aload_n 0, 1) := by decide +kernel
theorem dX9_withdraw_40 : decode cX9_withdraw 40 = .ok (.getfield 10, 3) := by decide +kernel
theorem dX9_withdraw_43 : decode cX9_withdraw 43 = .ok (.getfield 107, 3) := by decide +kernel
theorem dX9_withdraw_46 : decode cX9_withdraw 46 = .ok (.iload_n 2, 1) := by decide +kernel
theorem dX9_withdraw_47 : decode cX9_withdraw 47 = .ok (.iload_n 3, 1) := by decide +kernel
theorem dX9_withdraw_48 : decode cX9_withdraw 48 = .ok (.ineg, 1) := by decide +kernel
theorem dX9_withdraw_49 : decode cX9_withdraw 49 = .ok (.invokevirtual 252, 3) := by decide +kernel
theorem dX9_withdraw_52 : decode cX9_withdraw 52 = .ok (.aload_n 0, 1) := by decide +kernel
theorem dX9_withdraw_53 : decode cX9_withdraw 53 = .ok (.getfield 10, 3) := by decide +kernel
theorem dX9_withdraw_56 : decode cX9_withdraw 56 = .ok (.getfield 266, 3) := by decide +kernel
theorem dX9_withdraw_59 : decode cX9_withdraw 59 = .ok (.iload_n 2, 1) := by decide +kernel
theorem dX9_withdraw_60 : decode cX9_withdraw 60 = .ok (.iload_n 3, 1) := by decide +kernel
theorem dX9_withdraw_61 : decode cX9_withdraw 61 = .ok (.bipush 20, 2) := by decide +kernel
theorem dX9_withdraw_63 : decode cX9_withdraw 63 = .ok (.imul, 1) := by decide +kernel
theorem dX9_withdraw_64 : decode cX9_withdraw 64 = .ok (.invokevirtual 252, 3) := by decide +kernel
theorem dX9_withdraw_67 : decode cX9_withdraw 67 = .ok (.aload_n 0, 1) := by decide +kernel
theorem dX9_withdraw_68 : decode cX9_withdraw 68 = .ok (.getfield 33, 3) := by decide +kernel
theorem dX9_withdraw_71 : decode cX9_withdraw 71 = .ok (.iload_n 1, 1) := by decide +kernel
theorem dX9_withdraw_72 : decode cX9_withdraw 72 = .ok (.iconst 5, 1) := by decide +kernel
theorem dX9_withdraw_73 : decode cX9_withdraw 73 = .ok (.invokevirtual 359, 3) := by decide +kernel
theorem dX9_withdraw_76 : decode cX9_withdraw 76 = .ok (.goto 35, 3) := by decide +kernel
theorem dX9_withdraw_79 : decode cX9_withdraw 79 = .ok (.aload_n 0, 1) := by decide +kernel
theorem dX9_withdraw_80 : decode cX9_withdraw 80 = .ok (.getfield 33, 3) := by decide +kernel
theorem dX9_withdraw_83 : decode cX9_withdraw 83 = .ok (.iload_n 1, 1) := by decide +kernel
theorem dX9_withdraw_84 : decode cX9_withdraw 84 = .ok (.invokevirtual 411, 3) := by decide +kernel
theorem dX9_withdraw_87 : decode cX9_withdraw 87 = .ok (.ifCond .eq 14, 3) := by decide +kernel
theorem dX9_withdraw_90 : decode cX9_withdraw 90 = .ok (.aload_n 0, 1) := by decide +kernel
theorem dX9_withdraw_91 : decode cX9_withdraw 91 = .ok (.getfield 33, 3) := by decide +kernel
theorem dX9_withdraw_94 : decode cX9_withdraw 94 = .ok (.iload_n 1, 1) := by decide +kernel
theorem dX9_withdraw_95 : decode cX9_withdraw 95 = .ok (.invokevirtual 414, 3) := by decide +kernel
theorem dX9_withdraw_98 : decode cX9_withdraw 98 = .ok (.goto 13, 3) := by decide +kernel
theorem dX9_withdraw_101 : decode cX9_withdraw 101 = .ok (.aload_n 0, 1) := by decide +kernel
theorem dX9_withdraw_102 : decode cX9_withdraw 102 = .ok (.getfield 33, 3) := by decide +kernel
theorem dX9_withdraw_105 : decode cX9_withdraw 105 = .ok (.iload_n 1, 1) := by decide +kernel
theorem dX9_withdraw_106 : decode cX9_withdraw 106 = .ok (.bipush 7, 2) := by decide +kernel
theorem dX9_withdraw_108 : decode cX9_withdraw 108 = .ok (.invokevirtual 359, 3) := by decide +kernel
theorem dX9_withdraw_111 : decode cX9_withdraw 111 = .ok (.return_, 1) := by decide +kernel
theorem dX9_sendLorries_0 : decode cX9_sendLorries 0 = .ok (.iconst 0, 1) := by decide +kernel
theorem dX9_sendLorries_1 : decode cX9_sendLorries 1 = .ok (.istore_n 1, 1) := by decide +kernel
theorem dX9_sendLorries_2 : decode cX9_sendLorries 2 = .ok (.iload_n 1, 1) := by decide +kernel
theorem dX9_sendLorries_3 : decode cX9_sendLorries 3 = .ok (.aload_n 0, 1) := by decide +kernel
theorem dX9_sendLorries_4 : decode cX9_sendLorries 4 = .ok (.getfield 61, 3) := by decide +kernel
theorem dX9_sendLorries_7 : decode cX9_sendLorries 7 = .ok (.getfield 238, 3) := by decide +kernel
theorem dX9_sendLorries_10 : decode cX9_sendLorries 10 = .ok (.if_icmp .ge 32, 3) := by decide +kernel
theorem dX9_sendLorries_13 : decode cX9_sendLorries 13 = .ok (.aload_n 0, 1) := by decide +kernel
theorem dX9_sendLorries_14 : decode cX9_sendLorries 14 = .ok (.getfield 61, 3) := by decide +kernel
theorem dX9_sendLorries_17 : decode cX9_sendLorries 17 = .ok (.getfield 417, 3) := by decide +kernel
theorem dX9_sendLorries_20 : decode cX9_sendLorries 20 = .ok (.iload_n 1, 1) := by decide +kernel
theorem dX9_sendLorries_21 : decode cX9_sendLorries 21 = .ok (.invokevirtual 200, 3) := by decide +kernel
theorem dX9_sendLorries_24 : decode cX9_sendLorries 24 = .ok (.aload_n 0, 1) := by decide +kernel
theorem dX9_sendLorries_25 : decode cX9_sendLorries 25 = .ok (.getfield 65, 3) := by decide +kernel
theorem dX9_sendLorries_28 : decode cX9_sendLorries 28 = .ok (.if_icmp .ne 8, 3) := by decide +kernel
theorem dX9_sendLorries_31 : decode cX9_sendLorries 31 = .ok (.aload_n 0, 1) := by decide +kernel
theorem dX9_sendLorries_32 : decode cX9_sendLorries 32 = .ok (.iload_n 1, 1) := by decide +kernel
theorem dX9_sendLorries_33 : decode cX9_sendLorries 33 = .ok (.invokevirtual 420, 3) := by decide +kernel
theorem dX9_sendLorries_36 : decode cX9_sendLorries 36 = .ok (.iinc 1 1, 3) := by decide +kernel
theorem dX9_sendLorries_39 : decode cX9_sendLorries 39 = .ok (.goto (-37), 3) := by decide +kernel
theorem dX9_sendLorries_42 : decode cX9_sendLorries 42 = .ok (.return_, 1) := by decide +kernel
theorem dX9_fetch_0 : decode cX9_fetch 0 = .ok (.aload_n 0, 1) := by decide +kernel
theorem dX9_fetch_1 : decode cX9_fetch 1 = .ok (.getfield 61, 3) := by decide +kernel
theorem dX9_fetch_4 : decode cX9_fetch 4 = .ok (.getfield 423, 3) := by decide +kernel
theorem dX9_fetch_7 : decode cX9_fetch 7 = .ok (.iload_n 1, 1) := by decide +kernel
theorem dX9_fetch_8 : decode cX9_fetch 8 = .ok (.invokevirtual 200, 3) := by decide +kernel
theorem dX9_fetch_11 : decode cX9_fetch 11 = .ok (.istore_n 2, 1) := by decide +kernel
theorem dX9_fetch_12 : decode cX9_fetch 12 = .ok (.iconst 0, 1) := by decide +kernel
theorem dX9_fetch_13 : decode cX9_fetch 13 = .ok (.istore_n 3, 1) := by decide +kernel
theorem dX9_fetch_14 : decode cX9_fetch 14 = .ok (.iconst 0, 1) := by decide +kernel
theorem dX9_fetch_15 : decode cX9_fetch 15 = .ok (.istore 4, 2) := by decide +kernel
theorem dX9_fetch_17 : decode cX9_fetch 17 = .ok (.iload 4, 2) := by decide +kernel
theorem dX9_fetch_19 : decode cX9_fetch 19 = .ok (.aload_n 0, 1) := by decide +kernel
theorem dX9_fetch_20 : decode cX9_fetch 20 = .ok (.getfield 33, 3) := by decide +kernel
theorem dX9_fetch_23 : decode cX9_fetch 23 = .ok (.getfield 135, 3) := by decide +kernel
theorem dX9_fetch_26 : decode cX9_fetch 26 = .ok (.if_icmp .ge 69, 3) := by decide +kernel
theorem dX9_fetch_29 : decode cX9_fetch 29 = .ok (.iload_n 3, 1) := by decide +kernel
theorem dX9_fetch_30 : decode cX9_fetch 30 = .ok (.iload_n 2, 1) := by decide +kernel
theorem dX9_fetch_31 : decode cX9_fetch 31 = .ok (.if_icmp .ge 64, 3) := by decide +kernel
theorem dX9_fetch_34 : decode cX9_fetch 34 = .ok (.aload_n 0, 1) := by decide +kernel
theorem dX9_fetch_35 : decode cX9_fetch 35 = .ok (.getfield 33, 3) := by decide +kernel
theorem dX9_fetch_38 : decode cX9_fetch 38 = .ok (.getfield 278, 3) := by decide +kernel
theorem dX9_fetch_41 : decode cX9_fetch 41 = .ok (.iload 4, 2) := by decide +kernel
theorem dX9_fetch_43 : decode cX9_fetch 43 = .ok (.invokevirtual 200, 3) := by decide +kernel
theorem dX9_fetch_46 : decode cX9_fetch 46 = .ok (.iconst 3, 1) := by decide +kernel
theorem dX9_fetch_47 : decode cX9_fetch 47 = .ok (.if_icmp .ne 42, 3) := by decide +kernel
theorem dX9_fetch_50 : decode cX9_fetch 50 = .ok (.aload_n 0, 1) := by decide +kernel
theorem dX9_fetch_51 : decode cX9_fetch 51 = .ok (.getfield 33, 3) := by decide +kernel
theorem dX9_fetch_54 : decode cX9_fetch 54 = .ok (.getfield 254, 3) := by decide +kernel
theorem dX9_fetch_57 : decode cX9_fetch 57 = .ok (.iload 4, 2) := by decide +kernel
theorem dX9_fetch_59 : decode cX9_fetch 59 = .ok (.invokevirtual 200, 3) := by decide +kernel
theorem dX9_fetch_62 : decode cX9_fetch 62 = .ok (.aload_n 0, 1) := by decide +kernel
theorem dX9_fetch_63 : decode cX9_fetch 63 = .ok (.getfield 61, 3) := by decide +kernel
theorem dX9_fetch_66 : decode cX9_fetch 66 = .ok (.getfield 426, 3) := by decide +kernel
theorem dX9_fetch_69 : decode cX9_fetch 69 = .ok (.iload_n 1, 1) := by decide +kernel
theorem dX9_fetch_70 : decode cX9_fetch 70 = .ok (.invokevirtual 200, 3) := by decide +kernel
theorem dX9_fetch_73 : decode cX9_fetch 73 = .ok (.if_icmp .ne 16, 3) := by decide +kernel
theorem dX9_fetch_76 : decode cX9_fetch 76 = .ok (.aload_n 0, 1) := by decide +kernel
theorem dX9_fetch_77 : decode cX9_fetch 77 = .ok (.getfield 33, 3) := by decide +kernel
theorem dX9_fetch_80 : decode cX9_fetch 80 = .ok (.iload 4, 2) := by decide +kernel
theorem dX9_fetch_82 : decode cX9_fetch 82 = .ok (.iconst 4, 1) := by decide +kernel
theorem dX9_fetch_83 : decode cX9_fetch 83 = .ok (.invokevirtual 359, 3) := by decide +kernel
theorem dX9_fetch_86 : decode cX9_fetch 86 = .ok (.iinc 3 1, 3) := by decide +kernel
theorem dX9_fetch_89 : decode cX9_fetch 89 = .ok (.iinc 4 1, 3) := by decide +kernel
theorem dX9_fetch_92 : decode cX9_fetch 92 = .ok (.goto (-75), 3) := by decide +kernel
theorem dX9_fetch_95 : decode cX9_fetch 95 = .ok (.aload_n 0, 1) := by decide +kernel
theorem dX9_fetch_96 : decode cX9_fetch 96 = .ok (.getfield 61, 3) := by decide +kernel
theorem dX9_fetch_99 : decode cX9_fetch 99 = .ok (.getfield 313, 3) := by decide +kernel
theorem dX9_fetch_102 : decode cX9_fetch 102 = .ok (.iload_n 1, 1) := by decide +kernel
theorem dX9_fetch_103 : decode cX9_fetch 103 = .ok (.iload_n 3, 1) := by decide +kernel
theorem dX9_fetch_104 : decode cX9_fetch 104 = .ok (.invokevirtual 104, 3) := by decide +kernel
theorem dX9_fetch_107 : decode cX9_fetch 107 = .ok (.return_, 1) := by decide +kernel
end
section
theorem dX10_init_0 : decode cX10_init 0 = .ok (.aload_n 0, 1) := by decide +kernel
theorem dX10_init_1 : decode cX10_init 1 = .ok (.invokespecial 1, 3) := by decide +kernel
theorem dX10_init_4 : decode cX10_init 4 = .ok (.aload_n 0, 1) := by decide +kernel
theorem dX10_init_5 : decode cX10_init 5 = .ok (.iconst 1, 1) := by decide +kernel
theorem dX10_init_6 : decode cX10_init 6 = .ok (.putfield 7, 3) := by decide +kernel
theorem dX10_init_9 : decode cX10_init 9 = .ok (.aload_n 0, 1) := by decide +kernel
theorem dX10_init_10 : decode cX10_init 10 = .ok (.bipush 32, 2) := by decide +kernel
theorem dX10_init_12 : decode cX10_init 12 = .ok (.newarray .int, 2) := by decide +kernel
theorem dX10_init_14 : decode cX10_init 14 = .ok (.putfield 13, 3) := by decide +kernel
theorem dX10_init_17 : decode cX10_init 17 = .ok (.aload_n 0, 1) := by decide +kernel
theorem dX10_init_18 : decode cX10_init 18 = .ok (.bipush 32, 2) := by decide +kernel
theorem dX10_init_20 : decode cX10_init 20 = .ok (.newarray .int, 2) := by decide +kernel
theorem dX10_init_22 : decode cX10_init 22 = .ok (.putfield 17, 3) := by decide +kernel
theorem dX10_init_25 : decode cX10_init 25 = .ok (.aload_n 0, 1) := by decide +kernel
theorem dX10_init_26 : decode cX10_init 26 = .ok (.bipush 8, 2) := by decide +kernel
theorem dX10_init_28 : decode cX10_init 28 = .ok (.newarray .int, 2) := by decide +kernel
theorem dX10_init_30 : decode cX10_init 30 = .ok (.putfield 20, 3) := by decide +kernel
theorem dX10_init_33 : decode cX10_init 33 = .ok (.aload_n 0, 1) := by decide +kernel
theorem dX10_init_34 : decode cX10_init 34 = .ok (.bipush 8, 2) := by decide +kernel
theorem dX10_init_36 : decode cX10_init 36 = .ok (.newarray .boolean, 2) := by decide +kernel
theorem dX10_init_38 : decode cX10_init 38 = .ok (.putfield 23, 3) := by decide +kernel
theorem dX10_init_41 : decode cX10_init 41 = .ok (.aload_n 0, 1) := by decide +kernel
theorem dX10_init_42 : decode cX10_init 42 = .ok (.bipush 8, 2) := by decide +kernel
theorem dX10_init_44 : decode cX10_init 44 = .ok (.newarray .int, 2) := by decide +kernel
theorem dX10_init_46 : decode cX10_init 46 = .ok (.putfield 27, 3) := by decide +kernel
theorem dX10_init_49 : decode cX10_init 49 = .ok (.aload_n 0, 1) := by decide +kernel
theorem dX10_init_50 : decode cX10_init 50 = .ok (.iconst 4, 1) := by decide +kernel
theorem dX10_init_51 : decode cX10_init 51 = .ok (.newarray .int, 2) := by decide +kernel
theorem dX10_init_53 : decode cX10_init 53 = .ok (.putfield 30, 3) := by decide +kernel
theorem dX10_init_56 : decode cX10_init 56 = .ok (.aload_n 0, 1) := by decide +kernel
theorem dX10_init_57 : decode cX10_init 57 = .ok (.iconst 4, 1) := by decide +kernel
theorem dX10_init_58 : decode cX10_init 58 = .ok (.newarray .int, 2) := by decide +kernel
theorem dX10_init_60 : decode cX10_init 60 = .ok (.putfield 33, 3) := by decide +kernel
theorem dX10_init_63 : decode cX10_init 63 = .ok (.aload_n 0, 1) := by decide +kernel
theorem dX10_init_64 : decode cX10_init 64 = .ok (.iconst 4, 1) := by decide +kernel
theorem dX10_init_65 : decode cX10_init 65 = .ok (.newarray .int, 2) := by decide +kernel
theorem dX10_init_67 : decode cX10_init 67 = .ok (.putfield 36, 3) := by decide +kernel
theorem dX10_init_70 : decode cX10_init 70 = .ok (.aload_n 0, 1) := by decide +kernel
theorem dX10_init_71 : decode cX10_init 71 = .ok (.bipush 8, 2) := by decide +kernel
theorem dX10_init_73 : decode cX10_init 73 = .ok (.newarray .int, 2) := by decide +kernel
theorem dX10_init_75 : decode cX10_init 75 = .ok (.putfield 39, 3) := by decide +kernel
theorem dX10_init_78 : decode cX10_init 78 = .ok (.aload_n 0, 1) := by decide +kernel
theorem dX10_init_79 : decode cX10_init 79 = .ok (.bipush 8, 2) := by decide +kernel
theorem dX10_init_81 : decode cX10_init 81 = .ok (.newarray .int, 2) := by decide +kernel
theorem dX10_init_83 : decode cX10_init 83 = .ok (.putfield 42, 3) := by decide +kernel
theorem dX10_init_86 : decode cX10_init 86 = .ok (.aload_n 0, 1) := by decide +kernel
theorem dX10_init_87 : decode cX10_init 87 = .ok (.bipush 8, 2) := by decide +kernel
theorem dX10_init_89 : decode cX10_init 89 = .ok (.newarray .int, 2) := by decide +kernel
theorem dX10_init_91 : decode cX10_init 91 = .ok (.putfield 45, 3) := by decide +kernel
theorem dX10_init_94 : decode cX10_init 94 = .ok (.aload_n 0, 1) := by decide +kernel
theorem dX10_init_95 : decode cX10_init 95 = .ok (.bipush 8, 2) := by decide +kernel
theorem dX10_init_97 : decode cX10_init 97 = .ok (.newarray .boolean, 2) := by decide +kernel
theorem dX10_init_99 : decode cX10_init 99 = .ok (.putfield 48, 3) := by decide +kernel
theorem dX10_init_102 : decode cX10_init 102 = .ok (.aload_n 0, 1) := by decide +kernel
theorem dX10_init_103 : decode cX10_init 103 = .ok (.sipush 150, 3) := by decide +kernel
theorem dX10_init_106 : decode cX10_init 106 = .ok (.newarray .int, 2) := by decide +kernel
theorem dX10_init_108 : decode cX10_init 108 = .ok (.putfield 51, 3) := by decide +kernel
theorem dX10_init_111 : decode cX10_init 111 = .ok (.aload_n 0, 1) := by decide +kernel
theorem dX10_init_112 : decode cX10_init 112 = .ok (.sipush 150, 3) := by decide +kernel
theorem dX10_init_115 : decode cX10_init 115 = .ok (.newarray .int, 2) := by decide +kernel
theorem dX10_init_117 : decode cX10_init 117 = .ok (.putfield 54, 3) := by decide +kernel
theorem dX10_init_120 : decode cX10_init 120 = .ok (.aload_n 0, 1) := by decide +kernel
theorem dX10_init_121 : decode cX10_init 121 = .ok (.sipush 150, 3) := by decide +kernel
theorem dX10_init_124 : decode cX10_init 124 = .ok (.newarray .int, 2) := by decide +kernel
theorem dX10_init_126 : decode cX10_init 126 = .ok (.putfield 57, 3) := by decide +kernel
theorem dX10_init_129 : decode cX10_init 129 = .ok (.aload_n 0, 1) := by decide +kernel
theorem dX10_init_130 : decode cX10_init 130 = .ok (.sipush 150, 3) := by decide +kernel
theorem dX10_init_133 : decode cX10_init 133 = .ok (.newarray .int, 2) := by decide +kernel
theorem dX10_init_135 : decode cX10_init 135 = .ok (.putfield 60, 3) := by decide +kernel
theorem dX10_init_138 : decode cX10_init 138 = .ok (.aload_n 0, 1) := by decide +kernel
theorem dX10_init_139 : decode cX10_init 139 = .ok (.sipush 150, 3) := by decide +kernel
theorem dX10_init_142 : decode cX10_init 142 = .ok (.newarray .int, 2) := by decide +kernel
theorem dX10_init_144 : decode cX10_init 144 = .ok (.putfield 63, 3) := by decide +kernel
theorem dX10_init_147 : decode cX10_init 147 = .ok (.aload_n 0, 1) := by decide +kernel
theorem dX10_init_148 : decode cX10_init 148 = .ok (.sipush 150, 3) := by decide +kernel
theorem dX10_init_151 : decode cX10_init 151 = .ok (.newarray .int, 2) := by decide +kernel
theorem dX10_init_153 : decode cX10_init 153 = .ok (.putfield 66, 3) := by decide +kernel
theorem dX10_init_156 : decode cX10_init 156 = .ok (.aload_n 0, 1) := by decide +kernel
theorem dX10_init_157 : decode cX10_init 157 = .ok (.sipush 150, 3) := by decide +kernel
theorem dX10_init_160 : decode cX10_init 160 = .ok (.newarray .int, 2) := by decide +kernel
theorem dX10_init_162 : decode cX10_init 162 = .ok (.putfield 69, 3) := by decide +kernel
theorem dX10_init_165 : decode cX10_init 165 = .ok (.aload_n 0, 1) := by decide +kernel
theorem dX10_init_166 : decode cX10_init 166 = .ok (.sipush 150, 3) := by decide +kernel
theorem dX10_init_169 : decode cX10_init 169 = .ok (.newarray .boolean, 2) := by decide +kernel
theorem dX10_init_171 : decode cX10_init 171 = .ok (.putfield 72, 3) := by decide +kernel
theorem dX10_init_174 : decode cX10_init 174 = .ok (.aload_n 0, 1) := by decide +kernel
theorem dX10_init_175 : decode cX10_init 175 = .ok (.sipush 150, 3) := by decide +kernel
theorem dX10_init_178 : decode cX10_init 178 = .ok (.newarray .int, 2) := by decide +kernel
theorem dX10_init_180 : decode cX10_init 180 = .ok (.putfield 75, 3) := by decide +kernel
theorem dX10_init_183 : decode cX10_init 183 = .ok (.aload_n 0, 1) := by decide +kernel
theorem dX10_init_184 : decode cX10_init 184 = .ok (.sipush 150, 3) := by decide +kernel
theorem dX10_init_187 : decode cX10_init 187 = .ok (.newarray .int, 2) := by decide +kernel
theorem dX10_init_189 : decode cX10_init 189 = .ok (.putfield 78, 3) := by decide +kernel
theorem dX10_init_192 : decode cX10_init 192 = .ok (.aload_n 0, 1) := by decide +kernel
theorem dX10_init_193 : decode cX10_init 193 = .ok (.sipush 150, 3) := by decide +kernel
theorem dX10_init_196 : decode cX10_init 196 = .ok (.newarray .int, 2) := by decide +kernel
theorem dX10_init_198 : decode cX10_init 198 = .ok (.putfield 81, 3) := by decide +kernel
theorem dX10_init_201 : decode cX10_init 201 = .ok (.aload_n 0, 1) := by decide +kernel
theorem dX10_init_202 : decode cX10_init 202 = .ok (.sipush 150, 3) := by decide +kernel
theorem dX10_init_205 : decode cX10_init 205 = .ok (.newarray .int, 2) := by decide +kernel
theorem dX10_init_207 : decode cX10_init 207 = .ok (.putfield 84, 3) := by decide +kernel
theorem dX10_init_210 : decode cX10_init 210 = .ok (.aload_n 0, 1) := by decide +kernel
theorem dX10_init_211 : decode cX10_init 211 = .ok (.sipush 150, 3) := by decide +kernel
theorem dX10_init_214 : decode cX10_init 214 = .ok (.newarray .boolean, 2) := by decide +kernel
theorem dX10_init_216 : decode cX10_init 216 = .ok (.putfield 87, 3) := by decide +kernel
theorem dX10_init_219 : decode cX10_init 219 = .ok (.aload_n 0, 1) := by decide +kernel
theorem dX10_init_220 : decode cX10_init 220 = .ok (.sipush 150, 3) := by decide +kernel
theorem dX10_init_223 : decode cX10_init 223 = .ok (.newarray .int, 2) := by decide +kernel
theorem dX10_init_225 : decode cX10_init 225 = .ok (.putfield 90, 3) := by decide +kernel
theorem dX10_init_228 : decode cX10_init 228 = .ok (.aload_n 0, 1) := by decide +kernel
theorem dX10_init_229 : decode cX10_init 229 = .ok (.sipush 150, 3) := by decide +kernel
theorem dX10_init_232 : decode cX10_init 232 = .ok (.newarray .int, 2) := by decide +kernel
theorem dX10_init_234 : decode cX10_init 234 = .ok (.putfield 93, 3) := by decide +kernel
theorem dX10_init_237 : decode cX10_init 237 = .ok (.aload_n 0, 1) := by decide +kernel
theorem dX10_init_238 : decode cX10_init 238 = .ok (.sipush 150, 3) := by decide +kernel
theorem dX10_init_241 : decode cX10_init 241 = .ok (.newarray .int, 2) := by decide +kernel
theorem dX10_init_243 : decode cX10_init 243 = .ok (.putfield 96, 3) := by decide +kernel
theorem dX10_init_246 : decode cX10_init 246 = .ok (.aload_n 0, 1) := by decide +kernel
theorem dX10_init_247 : decode cX10_init 247 = .ok (.sipush 150, 3) := by decide +kernel
theorem dX10_init_250 : decode cX10_init 250 = .ok (.newarray .int, 2) := by decide +kernel
theorem dX10_init_252 : decode cX10_init 252 = .ok (.putfield 99, 3) := by decide +kernel
theorem dX10_init_255 : decode cX10_init 255 = .ok (.aload_n 0, 1) := by decide +kernel
theorem dX10_init_256 : decode cX10_init 256 = .ok (.sipush 150, 3) := by decide +kernel
theorem dX10_init_259 : decode cX10_init 259 = .ok (.newarray .int, 2) := by decide +kernel
theorem dX10_init_261 : decode cX10_init 261 = .ok (.putfield 102, 3) := by decide +kernel
theorem dX10_init_264 : decode cX10_init 264 = .ok (.aload_n 0, 1) := by decide +kernel
theorem dX10_init_265 : decode cX10_init 265 = .ok (.sipush 150, 3) := by decide +kernel
theorem dX10_init_268 : decode cX10_init 268 = .ok (.newarray .int, 2) := by decide +kernel
theorem dX10_init_270 : decode cX10_init 270 = .ok (.putfield 105, 3) := by decide +kernel
theorem dX10_init_273 : decode cX10_init 273 = .ok (.aload_n 0, 1) := by decide +kernel
theorem dX10_init_274 : decode cX10_init 274 = .ok (.sipush 150, 3) := by decide +kernel
theorem dX10_init_277 : decode cX10_init 277 = .ok (.newarray .boolean, 2) := by decide +kernel
theorem dX10_init_279 : decode cX10_init 279 = .ok (.putfield 108, 3) := by decide +kernel
theorem dX10_init_282 : decode cX10_init 282 = .ok (.aload_n 0, 1) := by decide +kernel
theorem dX10_init_283 : decode cX10_init 283 = .ok (.iconst 3, 1) := by decide +kernel
theorem dX10_init_284 : decode cX10_init 284 = .ok (.newarray .int, 2) := by decide +kernel
theorem dX10_init_286 : decode cX10_init 286 = .ok (.putfield 111, 3) := by decide +kernel
theorem dX10_init_289 : decode cX10_init 289 = .ok (.aload_n 0, 1) := by decide +kernel
theorem dX10_init_290 : decode cX10_init 290 = .ok (.iconst 3, 1) := by decide +kernel
theorem dX10_init_291 : decode cX10_init 291 = .ok (.newarray .boolean, 2) := by decide +kernel
theorem dX10_init_293 : decode cX10_init 293 = .ok (.putfield 114, 3) := by decide +kernel
theorem dX10_init_296 : decode cX10_init 296 = .ok (.aload_n 0, 1) := by decide +kernel
theorem dX10_init_297 : decode cX10_init 297 = .ok (.iconst 3, 1) := by decide +kernel
theorem dX10_init_298 : decode cX10_init 298 = .ok (.newarray .int, 2) := by decide +kernel
theorem dX10_init_300 : decode cX10_init 300 = .ok (.putfield 117, 3) := by decide +kernel
theorem dX10_init_303 : decode cX10_init 303 = .ok (.aload_n 0, 1) := by decide +kernel
theorem dX10_init_304 : decode cX10_init 304 = .ok (.iconst 3, 1) := by decide +kernel
theorem dX10_init_305 : decode cX10_init 305 = .ok (.newarray .int, 2) := by decide +kernel
theorem dX10_init_307 : decode cX10_init 307 = .ok (.putfield 120, 3) := by decide +kernel
theorem dX10_init_310 : decode cX10_init 310 = .ok (.aload_n 0, 1) := by decide +kernel
theorem dX10_init_311 : decode cX10_init 311 = .ok (.iconst 3, 1) := by decide +kernel
theorem dX10_init_312 : decode cX10_init 312 = .ok (.newarray .int, 2) := by decide +kernel
theorem dX10_init_314 : decode cX10_init 314 = .ok (.putfield 123, 3) := by decide +kernel
theorem dX10_init_317 : decode cX10_init 317 = .ok (.aload_n 0, 1) := by decide +kernel
theorem dX10_init_318 : decode cX10_init 318 = .ok (.iconst 3, 1) := by decide +kernel
theorem dX10_init_319 : decode cX10_init 319 = .ok (.newarray .int, 2) := by decide +kernel
theorem dX10_init_321 : decode cX10_init 321 = .ok (.putfield 126, 3) := by decide +kernel
theorem dX10_init_324 : decode cX10_init 324 = .ok (.aload_n 0, 1) := by decide +kernel
theorem dX10_init_325 : decode cX10_init 325 = .ok (.iconst 3, 1) := by decide +kernel
theorem dX10_init_326 : decode cX10_init 326 = .ok (.newarray .int, 2) := by decide +kernel
theorem dX10_init_328 : decode cX10_init 328 = .ok (.putfield 129, 3) := by decide +kernel
theorem dX10_init_331 : decode cX10_init 331 = .ok (.aload_n 0, 1) := by decide +kernel
theorem dX10_init_332 : decode cX10_init 332 = .ok (.bipush 24, 2) := by decide +kernel
theorem dX10_init_334 : decode cX10_init 334 = .ok (.newarray .int, 2) := by decide +kernel
theorem dX10_init_336 : decode cX10_init 336 = .ok (.putfield 132, 3) := by decide +kernel
theorem dX10_init_339 : decode cX10_init 339 = .ok (.aload_n 0, 1) := by decide +kernel
theorem dX10_init_340 : decode cX10_init 340 = .ok (.bipush 24, 2) := by decide +kernel
theorem dX10_init_342 : decode cX10_init 342 = .ok (.newarray .int, 2) := by decide +kernel
theorem dX10_init_344 : decode cX10_init 344 = .ok (.putfield 135, 3) := by decide +kernel
theorem dX10_init_347 : decode cX10_init 347 = .ok (.aload_n 0, 1) := by decide +kernel
theorem dX10_init_348 : decode cX10_init 348 = .ok (.bipush 24, 2) := by decide +kernel
theorem dX10_init_350 : decode cX10_init 350 = .ok (.newarray .int, 2) := by decide +kernel
theorem dX10_init_352 : decode cX10_init 352 = .ok (.putfield 138, 3) := by decide +kernel
theorem dX10_init_355 : decode cX10_init 355 = .ok (.aload_n 0, 1) := by decide +kernel
theorem dX10_init_356 : decode cX10_init 356 = .ok (.bipush 24, 2) := by decide +kernel
theorem dX10_init_358 : decode cX10_init 358 = .ok (.newarray .boolean, 2) := by decide +kernel
theorem dX10_init_360 : decode cX10_init 360 = .ok (.putfield 141, 3) := by decide +kernel
theorem dX10_init_363 : decode cX10_init 363 = .ok (.aload_n 0, 1) := by decide +kernel
theorem dX10_init_364 : decode cX10_init 364 = .ok (.bipush 20, 2) := by decide +kernel
theorem dX10_init_366 : decode cX10_init 366 = .ok (.newarray .int, 2) := by decide +kernel
theorem dX10_init_368 : decode cX10_init 368 = .ok (.putfield 144, 3) := by decide +kernel
theorem dX10_init_371 : decode cX10_init 371 = .ok (.aload_n 0, 1) := by decide +kernel
theorem dX10_init_372 : decode cX10_init 372 = .ok (.bipush 20, 2) := by decide +kernel
theorem dX10_init_374 : decode cX10_init 374 = .ok (.newarray .int, 2) := by decide +kernel
theorem dX10_init_376 : decode cX10_init 376 = .ok (.putfield 147, 3) := by decide +kernel
theorem dX10_init_379 : decode cX10_init 379 = .ok (.aload_n 0, 1) := by decide +kernel
theorem dX10_init_380 : decode cX10_init 380 = .ok (.bipush 20, 2) := by decide +kernel
theorem dX10_init_382 : decode cX10_init 382 = .ok (.newarray .int, 2) := by decide +kernel
theorem dX10_init_384 : decode cX10_init 384 = .ok (.putfield 150, 3) := by decide +kernel
theorem dX10_init_387 : decode cX10_init 387 = .ok (.aload_n 0, 1) := by decide +kernel
theorem dX10_init_388 : decode cX10_init 388 = .ok (.bipush 20, 2) := by decide +kernel
theorem dX10_init_390 : decode cX10_init 390 = .ok (.newarray .int, 2) := by decide +kernel
theorem dX10_init_392 : decode cX10_init 392 = .ok (.putfield 153, 3) := by decide +kernel
theorem dX10_init_395 : decode cX10_init 395 = .ok (.iconst 0, 1) := by decide +kernel
theorem dX10_init_396 : decode cX10_init 396 = .ok (.istore_n 1, 1) := by decide +kernel
theorem dX10_init_397 : decode cX10_init 397 = .ok (.iload_n 1, 1) := by decide +kernel
theorem dX10_init_398 : decode cX10_init 398 = .ok (.bipush 32, 2) := by decide +kernel
theorem dX10_init_400 : decode cX10_init 400 = .ok (.if_icmp .ge 18, 3) := by decide +kernel
theorem dX10_init_403 : decode cX10_init 403 = .ok (.aload_n 0, 1) := by decide +kernel
theorem dX10_init_404 : decode cX10_init 404 = .ok (.getfield 13, 3) := by decide +kernel
theorem dX10_init_407 : decode cX10_init 407 = .ok (.iload_n 1, 1) := by decide +kernel
theorem dX10_init_408 : decode cX10_init 408 = .ok (.sipush 10000, 3) := by decide +kernel
theorem dX10_init_411 : decode cX10_init 411 = .ok (.iastore, 1) := by decide +kernel
theorem dX10_init_412 : decode cX10_init 412 = .ok (.iinc 1 1, 3) := by decide +kernel
theorem dX10_init_415 : decode cX10_init 415 = .ok (.goto (-18), 3) := by decide +kernel
theorem dX10_init_418 : decode cX10_init 418 = .ok (.iconst 0, 1) := by decide +kernel
theorem dX10_init_419 : decode cX10_init 419 = .ok (.istore_n 1, 1) := by decide +kernel
theorem dX10_init_420 : decode cX10_init 420 = .ok (.iload_n 1, 1) := by decide +kernel
theorem dX10_init_421 : decode cX10_init 421 = .ok (.iconst 4, 1) := by decide +kernel
theorem dX10_init_422 : decode cX10_init 422 = .ok (.if_icmp .ge 35, 3) := by decide +kernel
theorem dX10_init_425 : decode cX10_init 425 = .ok (.aload_n 0, 1) := by decide +kernel
theorem dX10_init_426 : decode cX10_init 426 = .ok (.getfield 30, 3) := by decide +kernel
theorem dX10_init_429 : decode cX10_init 429 = .ok (.iload_n 1, 1) := by decide +kernel
theorem dX10_init_430 : decode cX10_init 430 = .ok (.sipush 1000, 3) := by decide +kernel
theorem dX10_init_433 : decode cX10_init 433 = .ok (.iastore, 1) := by decide +kernel
theorem dX10_init_434 : decode cX10_init 434 = .ok (.aload_n 0, 1) := by decide +kernel
theorem dX10_init_435 : decode cX10_init 435 = .ok (.getfield 33, 3) := by decide +kernel
theorem dX10_init_438 : decode cX10_init 438 = .ok (.iload_n 1, 1) := by decide +kernel
theorem dX10_init_439 : decode cX10_init 439 = .ok (.bipush 100, 2) := by decide +kernel
theorem dX10_init_441 : decode cX10_init 441 = .ok (.iastore, 1) := by decide +kernel
theorem dX10_init_442 : decode cX10_init 442 = .ok (.aload_n 0, 1) := by decide +kernel
theorem dX10_init_443 : decode cX10_init 443 = .ok (.getfield 36, 3) := by decide +kernel
theorem dX10_init_446 : decode cX10_init 446 = .ok (.iload_n 1, 1) := by decide +kernel
theorem dX10_init_447 : decode cX10_init 447 = .ok (.iload_n 1, 1) := by decide +kernel
theorem dX10_init_448 : decode cX10_init 448 = .ok (.iconst 3, 1) := by decide +kernel
theorem dX10_init_449 : decode cX10_init 449 = .ok (.irem, 1) := by decide +kernel
theorem dX10_init_450 : decode cX10_init 450 = .ok (.iastore, 1) := by decide +kernel
theorem dX10_init_451 : decode cX10_init 451 = .ok (.iinc 1 1, 3) := by decide +kernel
theorem dX10_init_454 : decode cX10_init 454 = .ok (.goto (-34), 3) := by decide +kernel
theorem dX10_init_457 : decode cX10_init 457 = .ok (.iconst 0, 1) := by decide +kernel
theorem dX10_init_458 : decode cX10_init 458 = .ok (.istore_n 1, 1) := by decide +kernel
theorem dX10_init_459 : decode cX10_init 459 = .ok (.iload_n 1, 1) := by decide +kernel
theorem dX10_init_460 : decode cX10_init 460 = .ok (.bipush 8, 2) := by decide +kernel
theorem dX10_init_462 : decode cX10_init 462 = .ok (.if_icmp .ge 23, 3) := by decide +kernel
theorem dX10_init_465 : decode cX10_init 465 = .ok (.aload_n 0, 1) := by decide +kernel
theorem dX10_init_466 : decode cX10_init 466 = .ok (.getfield 42, 3) := by decide +kernel
theorem dX10_init_469 : decode cX10_init 469 = .ok (.iload_n 1, 1) := by decide +kernel
theorem dX10_init_470 : decode cX10_init 470 = .ok (.iconst 1, 1) := by decide +kernel
theorem dX10_init_471 : decode cX10_init 471 = .ok (.iastore, 1) := by decide +kernel
theorem dX10_init_472 : decode cX10_init 472 = .ok (.aload_n 0, 1) := by decide +kernel
theorem dX10_init_473 : decode cX10_init 473 = .ok (.getfield 48, 3) := by decide +kernel
theorem dX10_init_476 : decode cX10_init 476 = .ok (.iload_n 1, 1) := by decide +kernel
theorem dX10_init_477 : decode cX10_init 477 = .ok (.iconst 1, 1) := by decide +kernel
theorem dX10_init_478 : decode cX10_init 478 = .ok (.bastore, 1) := by decide +kernel
theorem dX10_init_479 : decode cX10_init 479 = .ok (.iinc 1 1, 3) := by decide +kernel
theorem dX10_init_482 : decode cX10_init 482 = .ok (.goto (-23), 3) := by decide +kernel
theorem dX10_init_485 : decode cX10_init 485 = .ok (.iconst 0, 1) := by decide +kernel
theorem dX10_init_486 : decode cX10_init 486 = .ok (.istore_n 1, 1) := by decide +kernel
theorem dX10_init_487 : decode cX10_init 487 = .ok (.iload_n 1, 1) := by decide +kernel
theorem dX10_init_488 : decode cX10_init 488 = .ok (.iconst 3, 1) := by decide +kernel
theorem dX10_init_489 : decode cX10_init 489 = .ok (.if_icmp .ge 43, 3) := by decide +kernel
theorem dX10_init_492 : decode cX10_init 492 = .ok (.aload_n 0, 1) := by decide +kernel
theorem dX10_init_493 : decode cX10_init 493 = .ok (.getfield 111, 3) := by decide +kernel
theorem dX10_init_496 : decode cX10_init 496 = .ok (.iload_n 1, 1) := by decide +kernel
theorem dX10_init_497 : decode cX10_init 497 = .ok (.bipush 10, 2) := by decide +kernel
theorem dX10_init_499 : decode cX10_init 499 = .ok (.iastore, 1) := by decide +kernel
theorem dX10_init_500 : decode cX10_init 500 = .ok (.aload_n 0, 1) := by decide +kernel
theorem dX10_init_501 : decode cX10_init 501 = .ok (.getfield 114, 3) := by decide +kernel
theorem dX10_init_504 : decode cX10_init 504 = .ok (.iload_n 1, 1) := by decide +kernel
theorem dX10_init_505 : decode cX10_init 505 = .ok (.iconst 1, 1) := by decide +kernel
theorem dX10_init_506 : decode cX10_init 506 = .ok (.bastore, 1) := by decide +kernel
theorem dX10_init_507 : decode cX10_init 507 = .ok (.aload_n 0, 1) := by decide +kernel
theorem dX10_init_508 : decode cX10_init 508 = .ok (.getfield 120, 3) := by decide +kernel
theorem dX10_init_511 : decode cX10_init 511 = .ok (.iload_n 1, 1) := by decide +kernel
theorem dX10_init_512 : decode cX10_init 512 = .ok (.iconst (-1), 1) := by decide +kernel
theorem dX10_init_513 : decode cX10_init 513 = .ok (.iastore, 1) := by decide +kernel
theorem dX10_init_514 : decode cX10_init 514 = .ok (.aload_n 0, 1) := by decide +kernel
theorem dX10_init_515 : decode cX10_init 515 = .ok (.getfield 129, 3) := by decide +kernel
theorem dX10_init_518 : decode cX10_init 518 = .ok (.iload_n 1, 1) := by decide +kernel
theorem dX10_init_519 : decode cX10_init 519 = .ok (.iconst (-1), 1) := by decide +kernel
theorem dX10_init_520 : decode cX10_init 520 = .ok (.iastore, 1) := by decide +kernel
theorem dX10_init_521 : decode cX10_init 521 = .ok (.aload_n 0, 1) := by decide +kernel
theorem dX10_init_522 : decode cX10_init 522 = .ok (.iload_n 1, 1) := by decide +kernel
theorem dX10_init_523 : decode cX10_init 523 = .ok (.invokevirtual 156, 3) := by decide +kernel
theorem dX10_init_526 : decode cX10_init 526 = .ok (.iinc 1 1, 3) := by decide +kernel
theorem dX10_init_529 : decode cX10_init 529 = .ok (.goto (-42), 3) := by decide +kernel
theorem dX10_init_532 : decode cX10_init 532 = .ok (.return_, 1) := by decide +kernel
theorem dX10_thrown_0 : decode cX10_thrown 0 = .ok (.aload_n 0, 1) := by decide +kernel
theorem dX10_thrown_1 : decode cX10_thrown 1 = .ok (.getfield 160, 3) := by decide +kernel
theorem dX10_thrown_4 : decode cX10_thrown 4 = .ok (.ireturn, 1) := by decide +kernel
theorem dX10_fails_0 : decode cX10_fails 0 = .ok (.aload_n 0, 1) := by decide +kernel
theorem dX10_fails_1 : decode cX10_fails 1 = .ok (.iload_n 1, 1) := by decide +kernel
theorem dX10_fails_2 : decode cX10_fails 2 = .ok (.putfield 160, 3) := by decide +kernel
theorem dX10_fails_5 : decode cX10_fails 5 = .ok (.iload_n 1, 1) := by decide +kernel
theorem dX10_fails_6 : decode cX10_fails 6 = .ok (.ifCond .le 7, 3) := by decide +kernel
theorem dX10_fails_9 : decode cX10_fails 9 = .ok (.iconst 1, 1) := by decide +kernel
theorem dX10_fails_10 : decode cX10_fails 10 = .ok (.goto 4, 3) := by decide +kernel
theorem dX10_fails_13 : decode cX10_fails 13 = .ok (.iconst 0, 1) := by decide +kernel
theorem dX10_fails_14 : decode cX10_fails 14 = .ok (.ireturn, 1) := by decide +kernel
theorem dX10_isIn_0 : decode cX10_isIn 0 = .ok (.iload_n 0, 1) := by decide +kernel
theorem dX10_isIn_1 : decode cX10_isIn 1 = .ok (.iload_n 1, 1) := by decide +kernel
theorem dX10_isIn_2 : decode cX10_isIn 2 = .ok (.if_icmp .lt 12, 3) := by decide +kernel
theorem dX10_isIn_5 : decode cX10_isIn 5 = .ok (.iload_n 0, 1) := by decide +kernel
theorem dX10_isIn_6 : decode cX10_isIn 6 = .ok (.iload_n 2, 1) := by decide +kernel
theorem dX10_isIn_7 : decode cX10_isIn 7 = .ok (.if_icmp .gt 7, 3) := by decide +kernel
theorem dX10_isIn_10 : decode cX10_isIn 10 = .ok (.iconst 1, 1) := by decide +kernel
theorem dX10_isIn_11 : decode cX10_isIn 11 = .ok (.goto 4, 3) := by decide +kernel
theorem dX10_isIn_14 : decode cX10_isIn 14 = .ok (.iconst 0, 1) := by decide +kernel
theorem dX10_isIn_15 : decode cX10_isIn 15 = .ok (.ireturn, 1) := by decide +kernel
theorem dX10_isEight_0 : decode cX10_isEight 0 = .ok (.iload_n 0, 1) := by decide +kernel
theorem dX10_isEight_1 : decode cX10_isEight 1 = .ok (.iconst 0, 1) := by decide +kernel
theorem dX10_isEight_2 : decode cX10_isEight 2 = .ok (.bipush 7, 2) := by decide +kernel
theorem dX10_isEight_4 : decode cX10_isEight 4 = .ok (.invokestatic 163, 3) := by decide +kernel
theorem dX10_isEight_7 : decode cX10_isEight 7 = .ok (.ireturn, 1) := by decide +kernel
theorem dX10_isKind_0 : decode cX10_isKind 0 = .ok (.iload_n 0, 1) := by decide +kernel
theorem dX10_isKind_1 : decode cX10_isKind 1 = .ok (.iconst 0, 1) := by decide +kernel
theorem dX10_isKind_2 : decode cX10_isKind 2 = .ok (.iconst 3, 1) := by decide +kernel
theorem dX10_isKind_3 : decode cX10_isKind 3 = .ok (.invokestatic 163, 3) := by decide +kernel
theorem dX10_isKind_6 : decode cX10_isKind 6 = .ok (.ireturn, 1) := by decide +kernel
theorem dX10_isHall_0 : decode cX10_isHall 0 = .ok (.iload_n 0, 1) := by decide +kernel
theorem dX10_isHall_1 : decode cX10_isHall 1 = .ok (.iconst 0, 1) := by decide +kernel
theorem dX10_isHall_2 : decode cX10_isHall 2 = .ok (.iconst 2, 1) := by decide +kernel
theorem dX10_isHall_3 : decode cX10_isHall 3 = .ok (.invokestatic 163, 3) := by decide +kernel
theorem dX10_isHall_6 : decode cX10_isHall 6 = .ok (.ireturn, 1) := by decide +kernel
theorem dX10_isBox_0 : decode cX10_isBox 0 = .ok (.iload_n 1, 1) := by decide +kernel
theorem dX10_isBox_1 : decode cX10_isBox 1 = .ok (.iconst 0, 1) := by decide +kernel
theorem dX10_isBox_2 : decode cX10_isBox 2 = .ok (.aload_n 0, 1) := by decide +kernel
theorem dX10_isBox_3 : decode cX10_isBox 3 = .ok (.getfield 167, 3) := by decide +kernel
theorem dX10_isBox_6 : decode cX10_isBox 6 = .ok (.iconst 1, 1) := by decide +kernel
theorem dX10_isBox_7 : decode cX10_isBox 7 = .ok (.isub, 1) := by decide +kernel
theorem dX10_isBox_8 : decode cX10_isBox 8 = .ok (.invokestatic 163, 3) := by decide +kernel
theorem dX10_isBox_11 : decode cX10_isBox 11 = .ok (.ireturn, 1) := by decide +kernel
theorem dX10_quota_0 : decode cX10_quota 0 = .ok (.iload_n 1, 1) := by decide +kernel
theorem dX10_quota_1 : decode cX10_quota 1 = .ok (.invokestatic 170, 3) := by decide +kernel
theorem dX10_quota_4 : decode cX10_quota 4 = .ok (.ifCond .eq 14, 3) := by decide +kernel
theorem dX10_quota_7 : decode cX10_quota 7 = .ok (.iload_n 2, 1) := by decide +kernel
theorem dX10_quota_8 : decode cX10_quota 8 = .ok (.invokestatic 174, 3) := by decide +kernel
theorem dX10_quota_11 : decode cX10_quota 11 = .ok (.ifCond .eq 7, 3) := by decide +kernel
theorem dX10_quota_14 : decode cX10_quota 14 = .ok (.iconst 1, 1) := by decide +kernel
theorem dX10_quota_15 : decode cX10_quota 15 = .ok (.goto 4, 3) := by decide +kernel
theorem dX10_quota_18 : decode cX10_quota 18 = .ok (.iconst 0, 1) := by decide +kernel
theorem dX10_quota_19 : decode cX10_quota 19 = .ok (.istore 4, 2) := by decide +kernel
theorem dX10_quota_21 : decode cX10_quota 21 = .ok (.aload_n 0, 1) := by decide +kernel
theorem dX10_quota_22 : decode cX10_quota 22 = .ok (.iload 4, 2) := by decide +kernel
theorem dX10_quota_24 : decode cX10_quota 24 = .ok (.ifCond .ne 7, 3) := by decide +kernel
theorem dX10_quota_27 : decode cX10_quota 27 = .ok (.iconst 1, 1) := by decide +kernel
theorem dX10_quota_28 : decode cX10_quota 28 = .ok (.goto 18, 3) := by decide +kernel
theorem dX10_quota_31 : decode cX10_quota 31 = .ok (.iload_n 3, 1) := by decide +kernel
theorem dX10_quota_32 : decode cX10_quota 32 = .ok (.iconst 0, 1) := by decide +kernel
theorem dX10_quota_33 : decode cX10_quota 33 = .ok (.ldc 177, 2) := by decide +kernel
theorem dX10_quota_35 : decode cX10_quota 35 = .ok (.invokestatic 163, 3) := by decide +kernel
theorem dX10_quota_38 : decode cX10_quota 38 = .ok (.ifCond .eq 7, 3) := by decide +kernel
theorem dX10_quota_41 : decode cX10_quota 41 = .ok (.iconst 0, 1) := by decide +kernel
theorem dX10_quota_42 : decode cX10_quota 42 = .ok (.goto 4, 3) := by decide +kernel
theorem dX10_quota_45 : decode cX10_quota 45 = .ok (.iconst 2, 1) := by decide +kernel
theorem dX10_quota_46 : decode cX10_quota 46 = .ok (.invokevirtual 178, 3) := by decide +kernel
theorem dX10_quota_49 : decode cX10_quota 49 = .ok (.ifCond .eq 5, 3) := by decide +kernel
theorem dX10_quota_52 : decode cX10_quota 52 = .ok (.iconst 0, 1) := by decide +kernel
theorem dX10_quota_53 : decode cX10_quota 53 = .ok (.ireturn, 1) := by decide +kernel
theorem dX10_quota_54 : decode cX10_quota 54 = .ok (.aload_n 0, 1) := by decide +kernel
theorem dX10_quota_55 : decode cX10_quota 55 = .ok (.getfield 13, 3) := by decide +kernel
theorem dX10_quota_58 : decode cX10_quota 58 = .ok (.iconst 4, 1) := by decide +kernel
theorem dX10_quota_59 : decode cX10_quota 59 = .ok (.iload_n 1, 1) := by decide +kernel
theorem dX10_quota_60 : decode cX10_quota 60 = .ok (.imul, 1) := by decide +kernel
theorem dX10_quota_61 : decode cX10_quota 61 = .ok (.iload_n 2, 1) := by decide +kernel
theorem dX10_quota_62 : decode cX10_quota 62 = .ok (.iadd, 1) := by decide +kernel
theorem dX10_quota_63 : decode cX10_quota 63 = .ok (.iaload, 1) := by decide +kernel
theorem dX10_quota_64 : decode cX10_quota 64 = .ok (.istore 5, 2) := by decide +kernel
theorem dX10_quota_66 : decode cX10_quota 66 = .ok (.aload_n 0, 1) := by decide +kernel
theorem dX10_quota_67 : decode cX10_quota 67 = .ok (.getfield 13, 3) := by decide +kernel
theorem dX10_quota_70 : decode cX10_quota 70 = .ok (.iconst 4, 1) := by decide +kernel
theorem dX10_quota_71 : decode cX10_quota 71 = .ok (.iload_n 1, 1) := by decide +kernel
theorem dX10_quota_72 : decode cX10_quota 72 = .ok (.imul, 1) := by decide +kernel
theorem dX10_quota_73 : decode cX10_quota 73 = .ok (.iload_n 2, 1) := by decide +kernel
theorem dX10_quota_74 : decode cX10_quota 74 = .ok (.iadd, 1) := by decide +kernel
theorem dX10_quota_75 : decode cX10_quota 75 = .ok (.iload_n 3, 1) := by decide +kernel
theorem dX10_quota_76 : decode cX10_quota 76 = .ok (.iastore, 1) := by decide +kernel
theorem dX10_quota_77 : decode cX10_quota 77 = .ok (.iload 5, 2) := by decide +kernel
theorem dX10_quota_79 : decode cX10_quota 79 = .ok (.ireturn, 1) := by decide +kernel
theorem dX10_aid_0 : decode cX10_aid 0 = .ok (.aload_n 0, 1) := by decide +kernel
theorem dX10_aid_1 : decode cX10_aid 1 = .ok (.iload_n 1, 1) := by decide +kernel
theorem dX10_aid_2 : decode cX10_aid 2 = .ok (.invokestatic 170, 3) := by decide +kernel
theorem dX10_aid_5 : decode cX10_aid 5 = .ok (.ifCond .ne 7, 3) := by decide +kernel
theorem dX10_aid_8 : decode cX10_aid 8 = .ok (.iconst 1, 1) := by decide +kernel
theorem dX10_aid_9 : decode cX10_aid 9 = .ok (.goto 18, 3) := by decide +kernel
theorem dX10_aid_12 : decode cX10_aid 12 = .ok (.iload_n 2, 1) := by decide +kernel
theorem dX10_aid_13 : decode cX10_aid 13 = .ok (.iconst 0, 1) := by decide +kernel
theorem dX10_aid_14 : decode cX10_aid 14 = .ok (.ldc 177, 2) := by decide +kernel
theorem dX10_aid_16 : decode cX10_aid 16 = .ok (.invokestatic 163, 3) := by decide +kernel
theorem dX10_aid_19 : decode cX10_aid 19 = .ok (.ifCond .eq 7, 3) := by decide +kernel
theorem dX10_aid_22 : decode cX10_aid 22 = .ok (.iconst 0, 1) := by decide +kernel
theorem dX10_aid_23 : decode cX10_aid 23 = .ok (.goto 4, 3) := by decide +kernel
theorem dX10_aid_26 : decode cX10_aid 26 = .ok (.iconst 2, 1) := by decide +kernel
theorem dX10_aid_27 : decode cX10_aid 27 = .ok (.invokevirtual 178, 3) := by decide +kernel
theorem dX10_aid_30 : decode cX10_aid 30 = .ok (.ifCond .eq 5, 3) := by decide +kernel
theorem dX10_aid_33 : decode cX10_aid 33 = .ok (.iconst 0, 1) := by decide +kernel
theorem dX10_aid_34 : decode cX10_aid 34 = .ok (.ireturn, 1) := by decide +kernel
theorem dX10_aid_35 : decode cX10_aid 35 = .ok (.aload_n 0, 1) := by decide +kernel
theorem dX10_aid_36 : decode cX10_aid 36 = .ok (.getfield 20, 3) := by decide +kernel
theorem dX10_aid_39 : decode cX10_aid 39 = .ok (.iload_n 1, 1) := by decide +kernel
theorem dX10_aid_40 : decode cX10_aid 40 = .ok (.iaload, 1) := by decide +kernel
theorem dX10_aid_41 : decode cX10_aid 41 = .ok (.istore 4, 2) := by decide +kernel
theorem dX10_aid_43 : decode cX10_aid 43 = .ok (.aload_n 0, 1) := by decide +kernel
theorem dX10_aid_44 : decode cX10_aid 44 = .ok (.getfield 20, 3) := by decide +kernel
theorem dX10_aid_47 : decode cX10_aid 47 = .ok (.iload_n 1, 1) := by decide +kernel
theorem dX10_aid_48 : decode cX10_aid 48 = .ok (.iload_n 2, 1) := by decide +kernel
theorem dX10_aid_49 : decode cX10_aid 49 = .ok (.iastore, 1) := by decide +kernel
theorem dX10_aid_50 : decode cX10_aid 50 = .ok (.aload_n 0, 1) := by decide +kernel
theorem dX10_aid_51 : decode cX10_aid 51 = .ok (.getfield 23, 3) := by decide +kernel
theorem dX10_aid_54 : decode cX10_aid 54 = .ok (.iload_n 1, 1) := by decide +kernel
theorem dX10_aid_55 : decode cX10_aid 55 = .ok (.iload_n 3, 1) := by decide +kernel
theorem dX10_aid_56 : decode cX10_aid 56 = .ok (.bastore, 1) := by decide +kernel
theorem dX10_aid_57 : decode cX10_aid 57 = .ok (.iload 4, 2) := by decide +kernel
theorem dX10_aid_59 : decode cX10_aid 59 = .ok (.ireturn, 1) := by decide +kernel
theorem dX10_kind_0 : decode cX10_kind 0 = .ok (.iload_n 1, 1) := by decide +kernel
theorem dX10_kind_1 : decode cX10_kind 1 = .ok (.invokestatic 174, 3) := by decide +kernel
theorem dX10_kind_4 : decode cX10_kind 4 = .ok (.ifCond .eq 15, 3) := by decide +kernel
theorem dX10_kind_7 : decode cX10_kind 7 = .ok (.iload 4, 2) := by decide +kernel
theorem dX10_kind_9 : decode cX10_kind 9 = .ok (.invokestatic 181, 3) := by decide +kernel
theorem dX10_kind_12 : decode cX10_kind 12 = .ok (.ifCond .eq 7, 3) := by decide +kernel
theorem dX10_kind_15 : decode cX10_kind 15 = .ok (.iconst 1, 1) := by decide +kernel
theorem dX10_kind_16 : decode cX10_kind 16 = .ok (.goto 4, 3) := by decide +kernel
theorem dX10_kind_19 : decode cX10_kind 19 = .ok (.iconst 0, 1) := by decide +kernel
theorem dX10_kind_20 : decode cX10_kind 20 = .ok (.istore 5, 2) := by decide +kernel
theorem dX10_kind_22 : decode cX10_kind 22 = .ok (.iload_n 2, 1) := by decide +kernel
theorem dX10_kind_23 : decode cX10_kind 23 = .ok (.iconst 1, 1) := by decide +kernel
theorem dX10_kind_24 : decode cX10_kind 24 = .ok (.sipush 10000, 3) := by decide +kernel
theorem dX10_kind_27 : decode cX10_kind 27 = .ok (.invokestatic 163, 3) := by decide +kernel
theorem dX10_kind_30 : decode cX10_kind 30 = .ok (.ifCond .eq 18, 3) := by decide +kernel
theorem dX10_kind_33 : decode cX10_kind 33 = .ok (.iload_n 3, 1) := by decide +kernel
theorem dX10_kind_34 : decode cX10_kind 34 = .ok (.iconst 1, 1) := by decide +kernel
theorem dX10_kind_35 : decode cX10_kind 35 = .ok (.sipush 10000, 3) := by decide +kernel
theorem dX10_kind_38 : decode cX10_kind 38 = .ok (.invokestatic 163, 3) := by decide +kernel
theorem dX10_kind_41 : decode cX10_kind 41 = .ok (.ifCond .eq 7, 3) := by decide +kernel
theorem dX10_kind_44 : decode cX10_kind 44 = .ok (.iconst 1, 1) := by decide +kernel
theorem dX10_kind_45 : decode cX10_kind 45 = .ok (.goto 4, 3) := by decide +kernel
theorem dX10_kind_48 : decode cX10_kind 48 = .ok (.iconst 0, 1) := by decide +kernel
theorem dX10_kind_49 : decode cX10_kind 49 = .ok (.istore 6, 2) := by decide +kernel
theorem dX10_kind_51 : decode cX10_kind 51 = .ok (.aload_n 0, 1) := by decide +kernel
theorem dX10_kind_52 : decode cX10_kind 52 = .ok (.iload 5, 2) := by decide +kernel
theorem dX10_kind_54 : decode cX10_kind 54 = .ok (.ifCond .ne 7, 3) := by decide +kernel
theorem dX10_kind_57 : decode cX10_kind 57 = .ok (.iconst 1, 1) := by decide +kernel
theorem dX10_kind_58 : decode cX10_kind 58 = .ok (.goto 13, 3) := by decide +kernel
theorem dX10_kind_61 : decode cX10_kind 61 = .ok (.iload 6, 2) := by decide +kernel
theorem dX10_kind_63 : decode cX10_kind 63 = .ok (.ifCond .eq 7, 3) := by decide +kernel
theorem dX10_kind_66 : decode cX10_kind 66 = .ok (.iconst 0, 1) := by decide +kernel
theorem dX10_kind_67 : decode cX10_kind 67 = .ok (.goto 4, 3) := by decide +kernel
theorem dX10_kind_70 : decode cX10_kind 70 = .ok (.iconst 2, 1) := by decide +kernel
theorem dX10_kind_71 : decode cX10_kind 71 = .ok (.invokevirtual 178, 3) := by decide +kernel
theorem dX10_kind_74 : decode cX10_kind 74 = .ok (.ifCond .ne 25, 3) := by decide +kernel
theorem dX10_kind_77 : decode cX10_kind 77 = .ok (.aload_n 0, 1) := by decide +kernel
theorem dX10_kind_78 : decode cX10_kind 78 = .ok (.getfield 30, 3) := by decide +kernel
theorem dX10_kind_81 : decode cX10_kind 81 = .ok (.iload_n 1, 1) := by decide +kernel
theorem dX10_kind_82 : decode cX10_kind 82 = .ok (.iload_n 2, 1) := by decide +kernel
theorem dX10_kind_83 : decode cX10_kind 83 = .ok (.iastore, 1) := by decide +kernel
theorem dX10_kind_84 : decode cX10_kind 84 = .ok (.aload_n 0, 1) := by decide +kernel
theorem dX10_kind_85 : decode cX10_kind 85 = .ok (.getfield 33, 3) := by decide +kernel
theorem dX10_kind_88 : decode cX10_kind 88 = .ok (.iload_n 1, 1) := by decide +kernel
theorem dX10_kind_89 : decode cX10_kind 89 = .ok (.iload_n 3, 1) := by decide +kernel
theorem dX10_kind_90 : decode cX10_kind 90 = .ok (.iastore, 1) := by decide +kernel
theorem dX10_kind_91 : decode cX10_kind 91 = .ok (.aload_n 0, 1) := by decide +kernel
theorem dX10_kind_92 : decode cX10_kind 92 = .ok (.getfield 36, 3) := by decide +kernel
theorem dX10_kind_95 : decode cX10_kind 95 = .ok (.iload_n 1, 1) := by decide +kernel
theorem dX10_kind_96 : decode cX10_kind 96 = .ok (.iload 4, 2) := by decide +kernel
theorem dX10_kind_98 : decode cX10_kind 98 = .ok (.iastore, 1) := by decide +kernel
theorem dX10_kind_99 : decode cX10_kind 99 = .ok (.return_, 1) := by decide +kernel
theorem dX10_step_0 : decode cX10_step 0 = .ok (.aload_n 0, 1) := by decide +kernel
theorem dX10_step_1 : decode cX10_step 1 = .ok (.iload_n 1, 1) := by decide +kernel
theorem dX10_step_2 : decode cX10_step 2 = .ok (.invokestatic 181, 3) := by decide +kernel
theorem dX10_step_5 : decode cX10_step 5 = .ok (.ifCond .ne 7, 3) := by decide +kernel
theorem dX10_step_8 : decode cX10_step 8 = .ok (.iconst 1, 1) := by decide +kernel
theorem dX10_step_9 : decode cX10_step 9 = .ok (.goto 19, 3) := by decide +kernel
theorem dX10_step_12 : decode cX10_step 12 = .ok (.iload_n 2, 1) := by decide +kernel
theorem dX10_step_13 : decode cX10_step 13 = .ok (.iconst 1, 1) := by decide +kernel
theorem dX10_step_14 : decode cX10_step 14 = .ok (.sipush 500, 3) := by decide +kernel
theorem dX10_step_17 : decode cX10_step 17 = .ok (.invokestatic 163, 3) := by decide +kernel
theorem dX10_step_20 : decode cX10_step 20 = .ok (.ifCond .eq 7, 3) := by decide +kernel
theorem dX10_step_23 : decode cX10_step 23 = .ok (.iconst 0, 1) := by decide +kernel
theorem dX10_step_24 : decode cX10_step 24 = .ok (.goto 4, 3) := by decide +kernel
theorem dX10_step_27 : decode cX10_step 27 = .ok (.iconst 2, 1) := by decide +kernel
theorem dX10_step_28 : decode cX10_step 28 = .ok (.invokevirtual 178, 3) := by decide +kernel
theorem dX10_step_31 : decode cX10_step 31 = .ok (.ifCond .eq 5, 3) := by decide +kernel
theorem dX10_step_34 : decode cX10_step 34 = .ok (.iconst 0, 1) := by decide +kernel
theorem dX10_step_35 : decode cX10_step 35 = .ok (.ireturn, 1) := by decide +kernel
theorem dX10_step_36 : decode cX10_step 36 = .ok (.aload_n 0, 1) := by decide +kernel
theorem dX10_step_37 : decode cX10_step 37 = .ok (.getfield 111, 3) := by decide +kernel
theorem dX10_step_40 : decode cX10_step 40 = .ok (.iload_n 1, 1) := by decide +kernel
theorem dX10_step_41 : decode cX10_step 41 = .ok (.iaload, 1) := by decide +kernel
theorem dX10_step_42 : decode cX10_step 42 = .ok (.istore_n 3, 1) := by decide +kernel
theorem dX10_step_43 : decode cX10_step 43 = .ok (.aload_n 0, 1) := by decide +kernel
theorem dX10_step_44 : decode cX10_step 44 = .ok (.getfield 111, 3) := by decide +kernel
theorem dX10_step_47 : decode cX10_step 47 = .ok (.iload_n 1, 1) := by decide +kernel
theorem dX10_step_48 : decode cX10_step 48 = .ok (.iload_n 2, 1) := by decide +kernel
theorem dX10_step_49 : decode cX10_step 49 = .ok (.iastore, 1) := by decide +kernel
theorem dX10_step_50 : decode cX10_step 50 = .ok (.iload_n 3, 1) := by decide +kernel
theorem dX10_step_51 : decode cX10_step 51 = .ok (.ireturn, 1) := by decide +kernel
theorem dX10_buyer_0 : decode cX10_buyer 0 = .ok (.iload_n 2, 1) := by decide +kernel
theorem dX10_buyer_1 : decode cX10_buyer 1 = .ok (.iconst 0, 1) := by decide +kernel
theorem dX10_buyer_2 : decode cX10_buyer 2 = .ok (.ldc 184, 2) := by decide +kernel
theorem dX10_buyer_4 : decode cX10_buyer 4 = .ok (.invokestatic 163, 3) := by decide +kernel
theorem dX10_buyer_7 : decode cX10_buyer 7 = .ok (.ifCond .eq 17, 3) := by decide +kernel
theorem dX10_buyer_10 : decode cX10_buyer 10 = .ok (.iload_n 3, 1) := by decide +kernel
theorem dX10_buyer_11 : decode cX10_buyer 11 = .ok (.iconst 1, 1) := by decide +kernel
theorem dX10_buyer_12 : decode cX10_buyer 12 = .ok (.bipush 9, 2) := by decide +kernel
theorem dX10_buyer_14 : decode cX10_buyer 14 = .ok (.invokestatic 163, 3) := by decide +kernel
theorem dX10_buyer_17 : decode cX10_buyer 17 = .ok (.ifCond .eq 7, 3) := by decide +kernel
theorem dX10_buyer_20 : decode cX10_buyer 20 = .ok (.iconst 1, 1) := by decide +kernel
theorem dX10_buyer_21 : decode cX10_buyer 21 = .ok (.goto 4, 3) := by decide +kernel
theorem dX10_buyer_24 : decode cX10_buyer 24 = .ok (.iconst 0, 1) := by decide +kernel
theorem dX10_buyer_25 : decode cX10_buyer 25 = .ok (.istore 4, 2) := by decide +kernel
theorem dX10_buyer_27 : decode cX10_buyer 27 = .ok (.aload_n 0, 1) := by decide +kernel
theorem dX10_buyer_28 : decode cX10_buyer 28 = .ok (.iload_n 1, 1) := by decide +kernel
theorem dX10_buyer_29 : decode cX10_buyer 29 = .ok (.invokestatic 170, 3) := by decide +kernel
theorem dX10_buyer_32 : decode cX10_buyer 32 = .ok (.ifCond .ne 7, 3) := by decide +kernel
theorem dX10_buyer_35 : decode cX10_buyer 35 = .ok (.iconst 1, 1) := by decide +kernel
theorem dX10_buyer_36 : decode cX10_buyer 36 = .ok (.goto 13, 3) := by decide +kernel
theorem dX10_buyer_39 : decode cX10_buyer 39 = .ok (.iload 4, 2) := by decide +kernel
theorem dX10_buyer_41 : decode cX10_buyer 41 = .ok (.ifCond .eq 7, 3) := by decide +kernel
theorem dX10_buyer_44 : decode cX10_buyer 44 = .ok (.iconst 0, 1) := by decide +kernel
theorem dX10_buyer_45 : decode cX10_buyer 45 = .ok (.goto 4, 3) := by decide +kernel
theorem dX10_buyer_48 : decode cX10_buyer 48 = .ok (.iconst 2, 1) := by decide +kernel
theorem dX10_buyer_49 : decode cX10_buyer 49 = .ok (.invokevirtual 178, 3) := by decide +kernel
theorem dX10_buyer_52 : decode cX10_buyer 52 = .ok (.ifCond .eq 5, 3) := by decide +kernel
theorem dX10_buyer_55 : decode cX10_buyer 55 = .ok (.iconst 0, 1) := by decide +kernel
theorem dX10_buyer_56 : decode cX10_buyer 56 = .ok (.ireturn, 1) := by decide +kernel
theorem dX10_buyer_57 : decode cX10_buyer 57 = .ok (.aload_n 0, 1) := by decide +kernel
theorem dX10_buyer_58 : decode cX10_buyer 58 = .ok (.getfield 39, 3) := by decide +kernel
theorem dX10_buyer_61 : decode cX10_buyer 61 = .ok (.iload_n 1, 1) := by decide +kernel
theorem dX10_buyer_62 : decode cX10_buyer 62 = .ok (.iaload, 1) := by decide +kernel
theorem dX10_buyer_63 : decode cX10_buyer 63 = .ok (.istore 5, 2) := by decide +kernel
theorem dX10_buyer_65 : decode cX10_buyer 65 = .ok (.aload_n 0, 1) := by decide +kernel
theorem dX10_buyer_66 : decode cX10_buyer 66 = .ok (.getfield 39, 3) := by decide +kernel
theorem dX10_buyer_69 : decode cX10_buyer 69 = .ok (.iload_n 1, 1) := by decide +kernel
theorem dX10_buyer_70 : decode cX10_buyer 70 = .ok (.iload_n 2, 1) := by decide +kernel
theorem dX10_buyer_71 : decode cX10_buyer 71 = .ok (.iastore, 1) := by decide +kernel
theorem dX10_buyer_72 : decode cX10_buyer 72 = .ok (.aload_n 0, 1) := by decide +kernel
theorem dX10_buyer_73 : decode cX10_buyer 73 = .ok (.getfield 42, 3) := by decide +kernel
theorem dX10_buyer_76 : decode cX10_buyer 76 = .ok (.iload_n 1, 1) := by decide +kernel
theorem dX10_buyer_77 : decode cX10_buyer 77 = .ok (.iload_n 3, 1) := by decide +kernel
theorem dX10_buyer_78 : decode cX10_buyer 78 = .ok (.iastore, 1) := by decide +kernel
theorem dX10_buyer_79 : decode cX10_buyer 79 = .ok (.iload 5, 2) := by decide +kernel
theorem dX10_buyer_81 : decode cX10_buyer 81 = .ok (.ireturn, 1) := by decide +kernel
theorem dX10_draw_0 : decode cX10_draw 0 = .ok (.aload_n 0, 1) := by decide +kernel
theorem dX10_draw_1 : decode cX10_draw 1 = .ok (.iconst 0, 1) := by decide +kernel
theorem dX10_draw_2 : decode cX10_draw 2 = .ok (.putfield 160, 3) := by decide +kernel
theorem dX10_draw_5 : decode cX10_draw 5 = .ok (.aload_n 0, 1) := by decide +kernel
theorem dX10_draw_6 : decode cX10_draw 6 = .ok (.getfield 7, 3) := by decide +kernel
theorem dX10_draw_9 : decode cX10_draw 9 = .ok (.istore_n 2, 1) := by decide +kernel
theorem dX10_draw_10 : decode cX10_draw 10 = .ok (.aload_n 0, 1) := by decide +kernel
theorem dX10_draw_11 : decode cX10_draw 11 = .ok (.iload_n 1, 1) := by decide +kernel
theorem dX10_draw_12 : decode cX10_draw 12 = .ok (.putfield 7, 3) := by decide +kernel
theorem dX10_draw_15 : decode cX10_draw 15 = .ok (.iload_n 2, 1) := by decide +kernel
theorem dX10_draw_16 : decode cX10_draw 16 = .ok (.ireturn, 1) := by decide +kernel
theorem dX10_power_0 : decode cX10_power 0 = .ok (.aload_n 0, 1) := by decide +kernel
theorem dX10_power_1 : decode cX10_power 1 = .ok (.iload_n 1, 1) := by decide +kernel
theorem dX10_power_2 : decode cX10_power 2 = .ok (.invokestatic 181, 3) := by decide +kernel
theorem dX10_power_5 : decode cX10_power 5 = .ok (.ifCond .eq 7, 3) := by decide +kernel
theorem dX10_power_8 : decode cX10_power 8 = .ok (.iconst 0, 1) := by decide +kernel
theorem dX10_power_9 : decode cX10_power 9 = .ok (.goto 4, 3) := by decide +kernel
theorem dX10_power_12 : decode cX10_power 12 = .ok (.iconst 1, 1) := by decide +kernel
theorem dX10_power_13 : decode cX10_power 13 = .ok (.invokevirtual 178, 3) := by decide +kernel
theorem dX10_power_16 : decode cX10_power 16 = .ok (.ifCond .eq 5, 3) := by decide +kernel
theorem dX10_power_19 : decode cX10_power 19 = .ok (.iconst 0, 1) := by decide +kernel
theorem dX10_power_20 : decode cX10_power 20 = .ok (.ireturn, 1) := by decide +kernel
theorem dX10_power_21 : decode cX10_power 21 = .ok (.aload_n 0, 1) := by decide +kernel
theorem dX10_power_22 : decode cX10_power 22 = .ok (.getfield 114, 3) := by decide +kernel
theorem dX10_power_25 : decode cX10_power 25 = .ok (.iload_n 1, 1) := by decide +kernel
theorem dX10_power_26 : decode cX10_power 26 = .ok (.baload, 1) := by decide +kernel
theorem dX10_power_27 : decode cX10_power 27 = .ok (.istore_n 3, 1) := by decide +kernel
theorem dX10_power_28 : decode cX10_power 28 = .ok (.aload_n 0, 1) := by decide +kernel
theorem dX10_power_29 : decode cX10_power 29 = .ok (.getfield 114, 3) := by decide +kernel
theorem dX10_power_32 : decode cX10_power 32 = .ok (.iload_n 1, 1) := by decide +kernel
theorem dX10_power_33 : decode cX10_power 33 = .ok (.iload_n 2, 1) := by decide +kernel
theorem dX10_power_34 : decode cX10_power 34 = .ok (.bastore, 1) := by decide +kernel
theorem dX10_power_35 : decode cX10_power 35 = .ok (.iload_n 3, 1) := by decide +kernel
theorem dX10_power_36 : decode cX10_power 36 = .ok (.ireturn, 1) := by decide +kernel
theorem dX10_line_0 : decode cX10_line 0 = .ok (.aload_n 0, 1) := by decide +kernel
theorem dX10_line_1 : decode cX10_line 1 = .ok (.iload_n 1, 1) := by decide +kernel
theorem dX10_line_2 : decode cX10_line 2 = .ok (.invokestatic 170, 3) := by decide +kernel
theorem dX10_line_5 : decode cX10_line 5 = .ok (.ifCond .eq 7, 3) := by decide +kernel
theorem dX10_line_8 : decode cX10_line 8 = .ok (.iconst 0, 1) := by decide +kernel
theorem dX10_line_9 : decode cX10_line 9 = .ok (.goto 4, 3) := by decide +kernel
theorem dX10_line_12 : decode cX10_line 12 = .ok (.iconst 1, 1) := by decide +kernel
theorem dX10_line_13 : decode cX10_line 13 = .ok (.invokevirtual 178, 3) := by decide +kernel
theorem dX10_line_16 : decode cX10_line 16 = .ok (.ifCond .eq 5, 3) := by decide +kernel
theorem dX10_line_19 : decode cX10_line 19 = .ok (.iconst 0, 1) := by decide +kernel
theorem dX10_line_20 : decode cX10_line 20 = .ok (.ireturn, 1) := by decide +kernel
theorem dX10_line_21 : decode cX10_line 21 = .ok (.aload_n 0, 1) := by decide +kernel
theorem dX10_line_22 : decode cX10_line 22 = .ok (.getfield 48, 3) := by decide +kernel
theorem dX10_line_25 : decode cX10_line 25 = .ok (.iload_n 1, 1) := by decide +kernel
theorem dX10_line_26 : decode cX10_line 26 = .ok (.baload, 1) := by decide +kernel
theorem dX10_line_27 : decode cX10_line 27 = .ok (.istore_n 3, 1) := by decide +kernel
theorem dX10_line_28 : decode cX10_line 28 = .ok (.aload_n 0, 1) := by decide +kernel
theorem dX10_line_29 : decode cX10_line 29 = .ok (.getfield 48, 3) := by decide +kernel
theorem dX10_line_32 : decode cX10_line 32 = .ok (.iload_n 1, 1) := by decide +kernel
theorem dX10_line_33 : decode cX10_line 33 = .ok (.iload_n 2, 1) := by decide +kernel
theorem dX10_line_34 : decode cX10_line 34 = .ok (.bastore, 1) := by decide +kernel
theorem dX10_line_35 : decode cX10_line 35 = .ok (.iload_n 3, 1) := by decide +kernel
theorem dX10_line_36 : decode cX10_line 36 = .ok (.ireturn, 1) := by decide +kernel
theorem dX10_land_0 : decode cX10_land 0 = .ok (.iload_n 1, 1) := by decide +kernel
theorem dX10_land_1 : decode cX10_land 1 = .ok (.invokestatic 170, 3) := by decide +kernel
theorem dX10_land_4 : decode cX10_land 4 = .ok (.ifCond .eq 14, 3) := by decide +kernel
theorem dX10_land_7 : decode cX10_land 7 = .ok (.iload_n 2, 1) := by decide +kernel
theorem dX10_land_8 : decode cX10_land 8 = .ok (.invokestatic 174, 3) := by decide +kernel
theorem dX10_land_11 : decode cX10_land 11 = .ok (.ifCond .eq 7, 3) := by decide +kernel
theorem dX10_land_14 : decode cX10_land 14 = .ok (.iconst 1, 1) := by decide +kernel
theorem dX10_land_15 : decode cX10_land 15 = .ok (.goto 4, 3) := by decide +kernel
theorem dX10_land_18 : decode cX10_land 18 = .ok (.iconst 0, 1) := by decide +kernel
theorem dX10_land_19 : decode cX10_land 19 = .ok (.istore 7, 2) := by decide +kernel
theorem dX10_land_21 : decode cX10_land 21 = .ok (.iload_n 3, 1) := by decide +kernel
theorem dX10_land_22 : decode cX10_land 22 = .ok (.iconst 0, 1) := by decide +kernel
theorem dX10_land_23 : decode cX10_land 23 = .ok (.iconst 2, 1) := by decide +kernel
theorem dX10_land_24 : decode cX10_land 24 = .ok (.invokestatic 163, 3) := by decide +kernel
theorem dX10_land_27 : decode cX10_land 27 = .ok (.ifCond .eq 40, 3) := by decide +kernel
theorem dX10_land_30 : decode cX10_land 30 = .ok (.iload 4, 2) := by decide +kernel
theorem dX10_land_32 : decode cX10_land 32 = .ok (.iconst 1, 1) := by decide +kernel
theorem dX10_land_33 : decode cX10_land 33 = .ok (.bipush 9, 2) := by decide +kernel
theorem dX10_land_35 : decode cX10_land 35 = .ok (.invokestatic 163, 3) := by decide +kernel
theorem dX10_land_38 : decode cX10_land 38 = .ok (.ifCond .eq 29, 3) := by decide +kernel
theorem dX10_land_41 : decode cX10_land 41 = .ok (.iload 5, 2) := by decide +kernel
theorem dX10_land_43 : decode cX10_land 43 = .ok (.iconst 1, 1) := by decide +kernel
theorem dX10_land_44 : decode cX10_land 44 = .ok (.bipush 100, 2) := by decide +kernel
theorem dX10_land_46 : decode cX10_land 46 = .ok (.invokestatic 163, 3) := by decide +kernel
theorem dX10_land_49 : decode cX10_land 49 = .ok (.ifCond .eq 18, 3) := by decide +kernel
theorem dX10_land_52 : decode cX10_land 52 = .ok (.iload 6, 2) := by decide +kernel
theorem dX10_land_54 : decode cX10_land 54 = .ok (.iconst 1, 1) := by decide +kernel
theorem dX10_land_55 : decode cX10_land 55 = .ok (.bipush 100, 2) := by decide +kernel
theorem dX10_land_57 : decode cX10_land 57 = .ok (.invokestatic 163, 3) := by decide +kernel
theorem dX10_land_60 : decode cX10_land 60 = .ok (.ifCond .eq 7, 3) := by decide +kernel
theorem dX10_land_63 : decode cX10_land 63 = .ok (.iconst 1, 1) := by decide +kernel
theorem dX10_land_64 : decode cX10_land 64 = .ok (.goto 4, 3) := by decide +kernel
theorem dX10_land_67 : decode cX10_land 67 = .ok (.iconst 0, 1) := by decide +kernel
theorem dX10_land_68 : decode cX10_land 68 = .ok (.istore 8, 2) := by decide +kernel
theorem dX10_land_70 : decode cX10_land 70 = .ok (.aload_n 0, 1) := by decide +kernel
theorem dX10_land_71 : decode cX10_land 71 = .ok (.iload 7, 2) := by decide +kernel
theorem dX10_land_73 : decode cX10_land 73 = .ok (.ifCond .ne 7, 3) := by decide +kernel
theorem dX10_land_76 : decode cX10_land 76 = .ok (.iconst 1, 1) := by decide +kernel
theorem dX10_land_77 : decode cX10_land 77 = .ok (.goto 27, 3) := by decide +kernel
theorem dX10_land_80 : decode cX10_land 80 = .ok (.iload 8, 2) := by decide +kernel
theorem dX10_land_82 : decode cX10_land 82 = .ok (.ifCond .ne 7, 3) := by decide +kernel
theorem dX10_land_85 : decode cX10_land 85 = .ok (.iconst 2, 1) := by decide +kernel
theorem dX10_land_86 : decode cX10_land 86 = .ok (.goto 18, 3) := by decide +kernel
theorem dX10_land_89 : decode cX10_land 89 = .ok (.aload_n 0, 1) := by decide +kernel
theorem dX10_land_90 : decode cX10_land 90 = .ok (.getfield 167, 3) := by decide +kernel
theorem dX10_land_93 : decode cX10_land 93 = .ok (.sipush 150, 3) := by decide +kernel
theorem dX10_land_96 : decode cX10_land 96 = .ok (.if_icmp .ne 7, 3) := by decide +kernel
theorem dX10_land_99 : decode cX10_land 99 = .ok (.iconst 3, 1) := by decide +kernel
theorem dX10_land_100 : decode cX10_land 100 = .ok (.goto 4, 3) := by decide +kernel
theorem dX10_land_103 : decode cX10_land 103 = .ok (.iconst 0, 1) := by decide +kernel
theorem dX10_land_104 : decode cX10_land 104 = .ok (.invokevirtual 178, 3) := by decide +kernel
theorem dX10_land_107 : decode cX10_land 107 = .ok (.ifCond .eq 5, 3) := by decide +kernel
theorem dX10_land_110 : decode cX10_land 110 = .ok (.iconst 0, 1) := by decide +kernel
theorem dX10_land_111 : decode cX10_land 111 = .ok (.ireturn, 1) := by decide +kernel
theorem dX10_land_112 : decode cX10_land 112 = .ok (.iconst 4, 1) := by decide +kernel
theorem dX10_land_113 : decode cX10_land 113 = .ok (.iload_n 1, 1) := by decide +kernel
theorem dX10_land_114 : decode cX10_land 114 = .ok (.imul, 1) := by decide +kernel
theorem dX10_land_115 : decode cX10_land 115 = .ok (.iload_n 2, 1) := by decide +kernel
theorem dX10_land_116 : decode cX10_land 116 = .ok (.iadd, 1) := by decide +kernel
theorem dX10_land_117 : decode cX10_land 117 = .ok (.istore 9, 2) := by decide +kernel
theorem dX10_land_119 : decode cX10_land 119 = .ok (.aload_n 0, 1) := by decide +kernel
theorem dX10_land_120 : decode cX10_land 120 = .ok (.getfield 17, 3) := by decide +kernel
theorem dX10_land_123 : decode cX10_land 123 = .ok (.iload 9, 2) := by decide +kernel
theorem dX10_land_125 : decode cX10_land 125 = .ok (.dup2, 1) := by decide +kernel
theorem dX10_land_126 : decode cX10_land 126 = .ok (.iaload, 1) := by decide +kernel
theorem dX10_land_127 : decode cX10_land 127 = .ok (.iload 5, 2) := by decide +kernel
theorem dX10_land_129 : decode cX10_land 129 = .ok (.iadd, 1) := by decide +kernel
theorem dX10_land_130 : decode cX10_land 130 = .ok (.iastore, 1) := by decide +kernel
theorem dX10_land_131 : decode cX10_land 131 = .ok (.aload_n 0, 1) := by decide +kernel
theorem dX10_land_132 : decode cX10_land 132 = .ok (.getfield 51, 3) := by decide +kernel
theorem dX10_land_135 : decode cX10_land 135 = .ok (.aload_n 0, 1) := by decide +kernel
theorem dX10_land_136 : decode cX10_land 136 = .ok (.getfield 167, 3) := by decide +kernel
theorem dX10_land_139 : decode cX10_land 139 = .ok (.iload_n 1, 1) := by decide +kernel
theorem dX10_land_140 : decode cX10_land 140 = .ok (.iastore, 1) := by decide +kernel
theorem dX10_land_141 : decode cX10_land 141 = .ok (.aload_n 0, 1) := by decide +kernel
theorem dX10_land_142 : decode cX10_land 142 = .ok (.getfield 54, 3) := by decide +kernel
theorem dX10_land_145 : decode cX10_land 145 = .ok (.aload_n 0, 1) := by decide +kernel
theorem dX10_land_146 : decode cX10_land 146 = .ok (.getfield 167, 3) := by decide +kernel
theorem dX10_land_149 : decode cX10_land 149 = .ok (.iload_n 2, 1) := by decide +kernel
theorem dX10_land_150 : decode cX10_land 150 = .ok (.iastore, 1) := by decide +kernel
theorem dX10_land_151 : decode cX10_land 151 = .ok (.aload_n 0, 1) := by decide +kernel
theorem dX10_land_152 : decode cX10_land 152 = .ok (.getfield 57, 3) := by decide +kernel
theorem dX10_land_155 : decode cX10_land 155 = .ok (.aload_n 0, 1) := by decide +kernel
theorem dX10_land_156 : decode cX10_land 156 = .ok (.getfield 167, 3) := by decide +kernel
theorem dX10_land_159 : decode cX10_land 159 = .ok (.iload_n 3, 1) := by decide +kernel
theorem dX10_land_160 : decode cX10_land 160 = .ok (.iastore, 1) := by decide +kernel
theorem dX10_land_161 : decode cX10_land 161 = .ok (.aload_n 0, 1) := by decide +kernel
theorem dX10_land_162 : decode cX10_land 162 = .ok (.getfield 60, 3) := by decide +kernel
theorem dX10_land_165 : decode cX10_land 165 = .ok (.aload_n 0, 1) := by decide +kernel
theorem dX10_land_166 : decode cX10_land 166 = .ok (.getfield 167, 3) := by decide +kernel
theorem dX10_land_169 : decode cX10_land 169 = .ok (.iload 4, 2) := by decide +kernel
theorem dX10_land_171 : decode cX10_land 171 = .ok (.iastore, 1) := by decide +kernel
theorem dX10_land_172 : decode cX10_land 172 = .ok (.aload_n 0, 1) := by decide +kernel
theorem dX10_land_173 : decode cX10_land 173 = .ok (.getfield 63, 3) := by decide +kernel
theorem dX10_land_176 : decode cX10_land 176 = .ok (.aload_n 0, 1) := by decide +kernel
theorem dX10_land_177 : decode cX10_land 177 = .ok (.getfield 167, 3) := by decide +kernel
theorem dX10_land_180 : decode cX10_land 180 = .ok (.iload 5, 2) := by decide +kernel
theorem dX10_land_182 : decode cX10_land 182 = .ok (.iastore, 1) := by decide +kernel
theorem dX10_land_183 : decode cX10_land 183 = .ok (.aload_n 0, 1) := by decide +kernel
theorem dX10_land_184 : decode cX10_land 184 = .ok (.getfield 66, 3) := by decide +kernel
theorem dX10_land_187 : decode cX10_land 187 = .ok (.aload_n 0, 1) := by decide +kernel
theorem dX10_land_188 : decode cX10_land 188 = .ok (.getfield 167, 3) := by decide +kernel
theorem dX10_land_191 : decode cX10_land 191 = .ok (.iload 6, 2) := by decide +kernel
theorem dX10_land_193 : decode cX10_land 193 = .ok (.iastore, 1) := by decide +kernel
theorem dX10_land_194 : decode cX10_land 194 = .ok (.aload_n 0, 1) := by decide +kernel
theorem dX10_land_195 : decode cX10_land 195 = .ok (.getfield 69, 3) := by decide +kernel
theorem dX10_land_198 : decode cX10_land 198 = .ok (.aload_n 0, 1) := by decide +kernel
theorem dX10_land_199 : decode cX10_land 199 = .ok (.getfield 167, 3) := by decide +kernel
theorem dX10_land_202 : decode cX10_land 202 = .ok (.aload_n 0, 1) := by decide +kernel
theorem dX10_land_203 : decode cX10_land 203 = .ok (.getfield 17, 3) := by decide +kernel
theorem dX10_land_206 : decode cX10_land 206 = .ok (.iload 9, 2) := by decide +kernel
theorem dX10_land_208 : decode cX10_land 208 = .ok (.iaload, 1) := by decide +kernel
theorem dX10_land_209 : decode cX10_land 209 = .ok (.aload_n 0, 1) := by decide +kernel
theorem dX10_land_210 : decode cX10_land 210 = .ok (.getfield 13, 3) := by decide +kernel
theorem dX10_land_213 : decode cX10_land 213 = .ok (.iload 9, 2) := by decide +kernel
theorem dX10_land_215 : decode cX10_land 215 = .ok (.iaload, 1) := by decide +kernel
theorem dX10_land_216 : decode cX10_land 216 = .ok (.aload_n 0, 1) := by decide +kernel
theorem dX10_land_217 : decode cX10_land 217 = .ok (.getfield 13, 3) := by decide +kernel
theorem dX10_land_220 : decode cX10_land 220 = .ok (.iload 9, 2) := by decide +kernel
theorem dX10_land_222 : decode cX10_land 222 = .ok (.iaload, 1) := by decide +kernel
theorem dX10_land_223 : decode cX10_land 223 = .ok (.bipush 10, 2) := by decide +kernel
theorem dX10_land_225 : decode cX10_land 225 = .ok (.idiv, 1) := by decide +kernel
theorem dX10_land_226 : decode cX10_land 226 = .ok (.iadd, 1) := by decide +kernel
theorem dX10_land_227 : decode cX10_land 227 = .ok (.if_icmp .le 7, 3) := by decide +kernel
theorem dX10_land_230 : decode cX10_land 230 = .ok (.iconst 1, 1) := by decide +kernel
theorem dX10_land_231 : decode cX10_land 231 = .ok (.goto 4, 3) := by decide +kernel
theorem dX10_land_234 : decode cX10_land 234 = .ok (.iconst 0, 1) := by decide +kernel
theorem dX10_land_235 : decode cX10_land 235 = .ok (.iastore, 1) := by decide +kernel
theorem dX10_land_236 : decode cX10_land 236 = .ok (.aload_n 0, 1) := by decide +kernel
theorem dX10_land_237 : decode cX10_land 237 = .ok (.getfield 75, 3) := by decide +kernel
theorem dX10_land_240 : decode cX10_land 240 = .ok (.aload_n 0, 1) := by decide +kernel
theorem dX10_land_241 : decode cX10_land 241 = .ok (.getfield 167, 3) := by decide +kernel
theorem dX10_land_244 : decode cX10_land 244 = .ok (.iconst (-1), 1) := by decide +kernel
theorem dX10_land_245 : decode cX10_land 245 = .ok (.iastore, 1) := by decide +kernel
theorem dX10_land_246 : decode cX10_land 246 = .ok (.aload_n 0, 1) := by decide +kernel
theorem dX10_land_247 : decode cX10_land 247 = .ok (.getfield 78, 3) := by decide +kernel
theorem dX10_land_250 : decode cX10_land 250 = .ok (.aload_n 0, 1) := by decide +kernel
theorem dX10_land_251 : decode cX10_land 251 = .ok (.getfield 167, 3) := by decide +kernel
theorem dX10_land_254 : decode cX10_land 254 = .ok (.iconst (-1), 1) := by decide +kernel
theorem dX10_land_255 : decode cX10_land 255 = .ok (.iastore, 1) := by decide +kernel
theorem dX10_land_256 : decode cX10_land 256 = .ok (.aload_n 0, 1) := by decide +kernel
theorem dX10_land_257 : decode cX10_land 257 = .ok (.getfield 90, 3) := by decide +kernel
theorem dX10_land_260 : decode cX10_land 260 = .ok (.aload_n 0, 1) := by decide +kernel
theorem dX10_land_261 : decode cX10_land 261 = .ok (.getfield 167, 3) := by decide +kernel
theorem dX10_land_264 : decode cX10_land 264 = .ok (.iconst (-1), 1) := by decide +kernel
theorem dX10_land_265 : decode cX10_land 265 = .ok (.iastore, 1) := by decide +kernel
theorem dX10_land_266 : decode cX10_land 266 = .ok (.aload_n 0, 1) := by decide +kernel
theorem dX10_land_267 : decode cX10_land 267 = .ok (.dup, 1) := by decide +kernel
theorem dX10_land_268 : decode cX10_land 268 = .ok (.getfield 167, 3) := by decide +kernel
theorem dX10_land_271 : decode cX10_land 271 = .ok (.iconst 1, 1) := by decide +kernel
theorem dX10_land_272 : decode cX10_land 272 = .ok (.iadd, 1) := by decide +kernel
theorem dX10_land_273 : decode cX10_land 273 = .ok (.putfield 167, 3) := by decide +kernel
theorem dX10_land_276 : decode cX10_land 276 = .ok (.aload_n 0, 1) := by decide +kernel
theorem dX10_land_277 : decode cX10_land 277 = .ok (.getfield 167, 3) := by decide +kernel
theorem dX10_land_280 : decode cX10_land 280 = .ok (.iconst 1, 1) := by decide +kernel
theorem dX10_land_281 : decode cX10_land 281 = .ok (.isub, 1) := by decide +kernel
theorem dX10_land_282 : decode cX10_land 282 = .ok (.ireturn, 1) := by decide +kernel
theorem dX10_isToSell_0 : decode cX10_isToSell 0 = .ok (.aload_n 0, 1) := by decide +kernel
theorem dX10_isToSell_1 : decode cX10_isToSell 1 = .ok (.getfield 69, 3) := by decide +kernel
theorem dX10_isToSell_4 : decode cX10_isToSell 4 = .ok (.iload_n 1, 1) := by decide +kernel
theorem dX10_isToSell_5 : decode cX10_isToSell 5 = .ok (.iaload, 1) := by decide +kernel
theorem dX10_isToSell_6 : decode cX10_isToSell 6 = .ok (.ifCond .eq 14, 3) := by decide +kernel
theorem dX10_isToSell_9 : decode cX10_isToSell 9 = .ok (.aload_n 0, 1) := by decide +kernel
theorem dX10_isToSell_10 : decode cX10_isToSell 10 = .ok (.getfield 69, 3) := by decide +kernel
theorem dX10_isToSell_13 : decode cX10_isToSell 13 = .ok (.iload_n 1, 1) := by decide +kernel
theorem dX10_isToSell_14 : decode cX10_isToSell 14 = .ok (.iaload, 1) := by decide +kernel
theorem dX10_isToSell_15 : decode cX10_isToSell 15 = .ok (.bipush 6, 2) := by decide +kernel
theorem dX10_isToSell_17 : decode cX10_isToSell 17 = .ok (.if_icmp .ne 7, 3) := by decide +kernel
theorem dX10_isToSell_20 : decode cX10_isToSell 20 = .ok (.iconst 1, 1) := by decide +kernel
theorem dX10_isToSell_21 : decode cX10_isToSell 21 = .ok (.goto 4, 3) := by decide +kernel
theorem dX10_isToSell_24 : decode cX10_isToSell 24 = .ok (.iconst 0, 1) := by decide +kernel
theorem dX10_isToSell_25 : decode cX10_isToSell 25 = .ok (.ireturn, 1) := by decide +kernel
theorem dX10_ready_0 : decode cX10_ready 0 = .ok (.iconst 0, 1) := by decide +kernel
theorem dX10_ready_1 : decode cX10_ready 1 = .ok (.istore_n 2, 1) := by decide +kernel
theorem dX10_ready_2 : decode cX10_ready 2 = .ok (.iconst 0, 1) := by decide +kernel
theorem dX10_ready_3 : decode cX10_ready 3 = .ok (.istore_n 3, 1) := by decide +kernel
theorem dX10_ready_4 : decode cX10_ready 4 = .ok (.iload_n 3, 1) := by decide +kernel
theorem dX10_ready_5 : decode cX10_ready 5 = .ok (.aload_n 0, 1) := by decide +kernel
theorem dX10_ready_6 : decode cX10_ready 6 = .ok (.getfield 167, 3) := by decide +kernel
theorem dX10_ready_9 : decode cX10_ready 9 = .ok (.if_icmp .ge 47, 3) := by decide +kernel
theorem dX10_ready_12 : decode cX10_ready 12 = .ok (.iload_n 2, 1) := by decide +kernel
theorem dX10_ready_13 : decode cX10_ready 13 = .ok (.aload_n 0, 1) := by decide +kernel
theorem dX10_ready_14 : decode cX10_ready 14 = .ok (.iload_n 3, 1) := by decide +kernel
theorem dX10_ready_15 : decode cX10_ready 15 = .ok (.invokevirtual 185, 3) := by decide +kernel
theorem dX10_ready_18 : decode cX10_ready 18 = .ok (.ifCond .eq 29, 3) := by decide +kernel
theorem dX10_ready_21 : decode cX10_ready 21 = .ok (.aload_n 0, 1) := by decide +kernel
theorem dX10_ready_22 : decode cX10_ready 22 = .ok (.getfield 23, 3) := by decide +kernel
theorem dX10_ready_25 : decode cX10_ready 25 = .ok (.aload_n 0, 1) := by decide +kernel
theorem dX10_ready_26 : decode cX10_ready 26 = .ok (.getfield 51, 3) := by decide +kernel
theorem dX10_ready_29 : decode cX10_ready 29 = .ok (.iload_n 3, 1) := by decide +kernel
theorem dX10_ready_30 : decode cX10_ready 30 = .ok (.iaload, 1) := by decide +kernel
theorem dX10_ready_31 : decode cX10_ready 31 = .ok (.baload, 1) := by decide +kernel
theorem dX10_ready_32 : decode cX10_ready 32 = .ok (.iload_n 1, 1) := by decide +kernel
theorem dX10_ready_33 : decode cX10_ready 33 = .ok (.if_icmp .ne 14, 3) := by decide +kernel
theorem dX10_ready_36 : decode cX10_ready 36 = .ok (.iconst 1, 1) := by decide +kernel
theorem dX10_ready_37 : decode cX10_ready 37 = .ok (.aload_n 0, 1) := by decide +kernel
theorem dX10_ready_38 : decode cX10_ready 38 = .ok (.getfield 51, 3) := by decide +kernel
theorem dX10_ready_41 : decode cX10_ready 41 = .ok (.iload_n 3, 1) := by decide +kernel
theorem dX10_ready_42 : decode cX10_ready 42 = .ok (.iaload, 1) := by decide +kernel
theorem dX10_ready_43 : decode cX10_ready 43 = .ok (.ishl, 1) := by decide +kernel
theorem dX10_ready_44 : decode cX10_ready 44 = .ok (.goto 4, 3) := by decide +kernel
theorem dX10_ready_47 : decode cX10_ready 47 = .ok (.iconst 0, 1) := by decide +kernel
theorem dX10_ready_48 : decode cX10_ready 48 = .ok (.ior, 1) := by decide +kernel
theorem dX10_ready_49 : decode cX10_ready 49 = .ok (.istore_n 2, 1) := by decide +kernel
theorem dX10_ready_50 : decode cX10_ready 50 = .ok (.iinc 3 1, 3) := by decide +kernel
theorem dX10_ready_53 : decode cX10_ready 53 = .ok (.goto (-49), 3) := by decide +kernel
theorem dX10_ready_56 : decode cX10_ready 56 = .ok (.iload_n 2, 1) := by decide +kernel
theorem dX10_ready_57 : decode cX10_ready 57 = .ok (.ireturn, 1) := by decide +kernel
theorem dX10_size_0 : decode cX10_size 0 = .ok (.iconst 0, 1) := by decide +kernel
theorem dX10_size_1 : decode cX10_size 1 = .ok (.istore_n 1, 1) := by decide +kernel
theorem dX10_size_2 : decode cX10_size 2 = .ok (.iconst 0, 1) := by decide +kernel
theorem dX10_size_3 : decode cX10_size 3 = .ok (.istore_n 2, 1) := by decide +kernel
theorem dX10_size_4 : decode cX10_size 4 = .ok (.iload_n 2, 1) := by decide +kernel
theorem dX10_size_5 : decode cX10_size 5 = .ok (.bipush 8, 2) := by decide +kernel
theorem dX10_size_7 : decode cX10_size 7 = .ok (.if_icmp .ge 17, 3) := by decide +kernel
theorem dX10_size_10 : decode cX10_size 10 = .ok (.iload_n 1, 1) := by decide +kernel
theorem dX10_size_11 : decode cX10_size 11 = .ok (.iload_n 0, 1) := by decide +kernel
theorem dX10_size_12 : decode cX10_size 12 = .ok (.iload_n 2, 1) := by decide +kernel
theorem dX10_size_13 : decode cX10_size 13 = .ok (.ishr, 1) := by decide +kernel
theorem dX10_size_14 : decode cX10_size 14 = .ok (.iconst 1, 1) := by decide +kernel
theorem dX10_size_15 : decode cX10_size 15 = .ok (.iand, 1) := by decide +kernel
theorem dX10_size_16 : decode cX10_size 16 = .ok (.iadd, 1) := by decide +kernel
theorem dX10_size_17 : decode cX10_size 17 = .ok (.istore_n 1, 1) := by decide +kernel
theorem dX10_size_18 : decode cX10_size 18 = .ok (.iinc 2 1, 3) := by decide +kernel
theorem dX10_size_21 : decode cX10_size 21 = .ok (.goto (-17), 3) := by decide +kernel
theorem dX10_size_24 : decode cX10_size 24 = .ok (.iload_n 1, 1) := by decide +kernel
theorem dX10_size_25 : decode cX10_size 25 = .ok (.ireturn, 1) := by decide +kernel
theorem dX10_drawn_0 : decode cX10_drawn 0 = .ok (.aload_n 0, 1) := by decide +kernel
theorem dX10_drawn_1 : decode cX10_drawn 1 = .ok (.aload_n 0, 1) := by decide +kernel
theorem dX10_drawn_2 : decode cX10_drawn 2 = .ok (.getfield 7, 3) := by decide +kernel
theorem dX10_drawn_5 : decode cX10_drawn 5 = .ok (.ldc 188, 2) := by decide +kernel
theorem dX10_drawn_7 : decode cX10_drawn 7 = .ok (.imul, 1) := by decide +kernel
theorem dX10_drawn_8 : decode cX10_drawn 8 = .ok (.sipush 12345, 3) := by decide +kernel
theorem dX10_drawn_11 : decode cX10_drawn 11 = .ok (.iadd, 1) := by decide +kernel
theorem dX10_drawn_12 : decode cX10_drawn 12 = .ok (.putfield 7, 3) := by decide +kernel
theorem dX10_drawn_15 : decode cX10_drawn 15 = .ok (.aload_n 0, 1) := by decide +kernel
theorem dX10_drawn_16 : decode cX10_drawn 16 = .ok (.getfield 7, 3) := by decide +kernel
theorem dX10_drawn_19 : decode cX10_drawn 19 = .ok (.bipush 16, 2) := by decide +kernel
theorem dX10_drawn_21 : decode cX10_drawn 21 = .ok (.iushr, 1) := by decide +kernel
theorem dX10_drawn_22 : decode cX10_drawn 22 = .ok (.iload_n 1, 1) := by decide +kernel
theorem dX10_drawn_23 : decode cX10_drawn 23 = .ok (.invokestatic 189, 3) := by decide +kernel
theorem dX10_drawn_26 : decode cX10_drawn 26 = .ok (.irem, 1) := by decide +kernel
theorem dX10_drawn_27 : decode cX10_drawn 27 = .ok (.istore_n 2, 1) := by decide +kernel
theorem dX10_drawn_28 : decode cX10_drawn 28 = .ok (.iconst (-1), 1) := by decide +kernel
theorem dX10_drawn_29 : decode cX10_drawn 29 = .ok (.istore_n 3, 1) := by decide +kernel
theorem dX10_drawn_30 : decode cX10_drawn 30 = .ok (.iconst 0, 1) := by decide +kernel
theorem dX10_drawn_31 : decode cX10_drawn 31 = .ok (.istore 4, 2) := by decide +kernel
theorem dX10_drawn_33 : decode cX10_drawn 33 = .ok (.iload 4, 2) := by decide +kernel
theorem dX10_drawn_35 : decode cX10_drawn 35 = .ok (.bipush 8, 2) := by decide +kernel
theorem dX10_drawn_37 : decode cX10_drawn 37 = .ok (.if_icmp .ge 33, 3) := by decide +kernel
theorem dX10_drawn_40 : decode cX10_drawn 40 = .ok (.iload_n 1, 1) := by decide +kernel
theorem dX10_drawn_41 : decode cX10_drawn 41 = .ok (.iload 4, 2) := by decide +kernel
theorem dX10_drawn_43 : decode cX10_drawn 43 = .ok (.ishr, 1) := by decide +kernel
theorem dX10_drawn_44 : decode cX10_drawn 44 = .ok (.iconst 1, 1) := by decide +kernel
theorem dX10_drawn_45 : decode cX10_drawn 45 = .ok (.iand, 1) := by decide +kernel
theorem dX10_drawn_46 : decode cX10_drawn 46 = .ok (.iconst 1, 1) := by decide +kernel
theorem dX10_drawn_47 : decode cX10_drawn 47 = .ok (.if_icmp .ne 17, 3) := by decide +kernel
theorem dX10_drawn_50 : decode cX10_drawn 50 = .ok (.iload_n 2, 1) := by decide +kernel
theorem dX10_drawn_51 : decode cX10_drawn 51 = .ok (.ifCond .ne 8, 3) := by decide +kernel
theorem dX10_drawn_54 : decode cX10_drawn 54 = .ok (.iload 4, 2) := by decide +kernel
theorem dX10_drawn_56 : decode cX10_drawn 56 = .ok (.goto 4, 3) := by decide +kernel
theorem dX10_drawn_59 : decode cX10_drawn 59 = .ok (.iload_n 3, 1) := by decide +kernel
theorem dX10_drawn_60 : decode cX10_drawn 60 = .ok (.istore_n 3, 1) := by decide +kernel
theorem dX10_drawn_61 : decode cX10_drawn 61 = .ok (.iinc 2 (-1), 3) := by decide +kernel
theorem dX10_drawn_64 : decode cX10_drawn 64 = .ok (.iinc 4 1, 3) := by decide +kernel
theorem dX10_drawn_67 : decode cX10_drawn 67 = .ok (.goto (-34), 3) := by decide +kernel
theorem dX10_drawn_70 : decode cX10_drawn 70 = .ok (.iload_n 3, 1) := by decide +kernel
theorem dX10_drawn_71 : decode cX10_drawn 71 = .ok (.ireturn, 1) := by decide +kernel
theorem dX10_parts_0 : decode cX10_parts 0 = .ok (.iconst 0, 1) := by decide +kernel
theorem dX10_parts_1 : decode cX10_parts 1 = .ok (.istore_n 2, 1) := by decide +kernel
theorem dX10_parts_2 : decode cX10_parts 2 = .ok (.iload_n 2, 1) := by decide +kernel
theorem dX10_parts_3 : decode cX10_parts 3 = .ok (.bipush 108, 2) := by decide +kernel
theorem dX10_parts_5 : decode cX10_parts 5 = .ok (.if_icmp .ge 211, 3) := by decide +kernel
theorem dX10_parts_8 : decode cX10_parts 8 = .ok (.iload_n 2, 1) := by decide +kernel
theorem dX10_parts_9 : decode cX10_parts 9 = .ok (.bipush 27, 2) := by decide +kernel
theorem dX10_parts_11 : decode cX10_parts 11 = .ok (.idiv, 1) := by decide +kernel
theorem dX10_parts_12 : decode cX10_parts 12 = .ok (.istore_n 3, 1) := by decide +kernel
theorem dX10_parts_13 : decode cX10_parts 13 = .ok (.iload_n 2, 1) := by decide +kernel
theorem dX10_parts_14 : decode cX10_parts 14 = .ok (.bipush 9, 2) := by decide +kernel
theorem dX10_parts_16 : decode cX10_parts 16 = .ok (.idiv, 1) := by decide +kernel
theorem dX10_parts_17 : decode cX10_parts 17 = .ok (.iconst 3, 1) := by decide +kernel
theorem dX10_parts_18 : decode cX10_parts 18 = .ok (.irem, 1) := by decide +kernel
theorem dX10_parts_19 : decode cX10_parts 19 = .ok (.istore 4, 2) := by decide +kernel
theorem dX10_parts_21 : decode cX10_parts 21 = .ok (.bipush 9, 2) := by decide +kernel
theorem dX10_parts_23 : decode cX10_parts 23 = .ok (.iload_n 2, 1) := by decide +kernel
theorem dX10_parts_24 : decode cX10_parts 24 = .ok (.bipush 9, 2) := by decide +kernel
theorem dX10_parts_26 : decode cX10_parts 26 = .ok (.irem, 1) := by decide +kernel
theorem dX10_parts_27 : decode cX10_parts 27 = .ok (.isub, 1) := by decide +kernel
theorem dX10_parts_28 : decode cX10_parts 28 = .ok (.istore 5, 2) := by decide +kernel
theorem dX10_parts_30 : decode cX10_parts 30 = .ok (.iconst 0, 1) := by decide +kernel
theorem dX10_parts_31 : decode cX10_parts 31 = .ok (.istore 6, 2) := by decide +kernel
theorem dX10_parts_33 : decode cX10_parts 33 = .ok (.iconst 0, 1) := by decide +kernel
theorem dX10_parts_34 : decode cX10_parts 34 = .ok (.istore 7, 2) := by decide +kernel
theorem dX10_parts_36 : decode cX10_parts 36 = .ok (.iload 7, 2) := by decide +kernel
theorem dX10_parts_38 : decode cX10_parts 38 = .ok (.aload_n 0, 1) := by decide +kernel
theorem dX10_parts_39 : decode cX10_parts 39 = .ok (.getfield 167, 3) := by decide +kernel
theorem dX10_parts_42 : decode cX10_parts 42 = .ok (.if_icmp .ge 86, 3) := by decide +kernel
theorem dX10_parts_45 : decode cX10_parts 45 = .ok (.aload_n 0, 1) := by decide +kernel
theorem dX10_parts_46 : decode cX10_parts 46 = .ok (.iload 7, 2) := by decide +kernel
theorem dX10_parts_48 : decode cX10_parts 48 = .ok (.invokevirtual 185, 3) := by decide +kernel
theorem dX10_parts_51 : decode cX10_parts 51 = .ok (.ifCond .eq 71, 3) := by decide +kernel
theorem dX10_parts_54 : decode cX10_parts 54 = .ok (.aload_n 0, 1) := by decide +kernel
theorem dX10_parts_55 : decode cX10_parts 55 = .ok (.getfield 51, 3) := by decide +kernel
theorem dX10_parts_58 : decode cX10_parts 58 = .ok (.iload 7, 2) := by decide +kernel
theorem dX10_parts_60 : decode cX10_parts 60 = .ok (.iaload, 1) := by decide +kernel
theorem dX10_parts_61 : decode cX10_parts 61 = .ok (.iload_n 1, 1) := by decide +kernel
theorem dX10_parts_62 : decode cX10_parts 62 = .ok (.if_icmp .ne 60, 3) := by decide +kernel
theorem dX10_parts_65 : decode cX10_parts 65 = .ok (.aload_n 0, 1) := by decide +kernel
theorem dX10_parts_66 : decode cX10_parts 66 = .ok (.getfield 54, 3) := by decide +kernel
theorem dX10_parts_69 : decode cX10_parts 69 = .ok (.iload 7, 2) := by decide +kernel
theorem dX10_parts_71 : decode cX10_parts 71 = .ok (.iaload, 1) := by decide +kernel
theorem dX10_parts_72 : decode cX10_parts 72 = .ok (.iload_n 3, 1) := by decide +kernel
theorem dX10_parts_73 : decode cX10_parts 73 = .ok (.if_icmp .ne 49, 3) := by decide +kernel
theorem dX10_parts_76 : decode cX10_parts 76 = .ok (.aload_n 0, 1) := by decide +kernel
theorem dX10_parts_77 : decode cX10_parts 77 = .ok (.getfield 57, 3) := by decide +kernel
theorem dX10_parts_80 : decode cX10_parts 80 = .ok (.iload 7, 2) := by decide +kernel
theorem dX10_parts_82 : decode cX10_parts 82 = .ok (.iaload, 1) := by decide +kernel
theorem dX10_parts_83 : decode cX10_parts 83 = .ok (.iload 4, 2) := by decide +kernel
theorem dX10_parts_85 : decode cX10_parts 85 = .ok (.if_icmp .ne 37, 3) := by decide +kernel
theorem dX10_parts_88 : decode cX10_parts 88 = .ok (.aload_n 0, 1) := by decide +kernel
theorem dX10_parts_89 : decode cX10_parts 89 = .ok (.getfield 60, 3) := by decide +kernel
theorem dX10_parts_92 : decode cX10_parts 92 = .ok (.iload 7, 2) := by decide +kernel
theorem dX10_parts_94 : decode cX10_parts 94 = .ok (.iaload, 1) := by decide +kernel
theorem dX10_parts_95 : decode cX10_parts 95 = .ok (.iload 5, 2) := by decide +kernel
theorem dX10_parts_97 : decode cX10_parts 97 = .ok (.if_icmp .ne 25, 3) := by decide +kernel
theorem dX10_parts_100 : decode cX10_parts 100 = .ok (.aload_n 0, 1) := by decide +kernel
theorem dX10_parts_101 : decode cX10_parts 101 = .ok (.getfield 69, 3) := by decide +kernel
theorem dX10_parts_104 : decode cX10_parts 104 = .ok (.iload 7, 2) := by decide +kernel
theorem dX10_parts_106 : decode cX10_parts 106 = .ok (.iconst 2, 1) := by decide +kernel
theorem dX10_parts_107 : decode cX10_parts 107 = .ok (.iastore, 1) := by decide +kernel
theorem dX10_parts_108 : decode cX10_parts 108 = .ok (.aload_n 0, 1) := by decide +kernel
theorem dX10_parts_109 : decode cX10_parts 109 = .ok (.getfield 90, 3) := by decide +kernel
theorem dX10_parts_112 : decode cX10_parts 112 = .ok (.iload 7, 2) := by decide +kernel
theorem dX10_parts_114 : decode cX10_parts 114 = .ok (.aload_n 0, 1) := by decide +kernel
theorem dX10_parts_115 : decode cX10_parts 115 = .ok (.getfield 192, 3) := by decide +kernel
theorem dX10_parts_118 : decode cX10_parts 118 = .ok (.iastore, 1) := by decide +kernel
theorem dX10_parts_119 : decode cX10_parts 119 = .ok (.iconst 1, 1) := by decide +kernel
theorem dX10_parts_120 : decode cX10_parts 120 = .ok (.istore 6, 2) := by decide +kernel
theorem dX10_parts_122 : decode cX10_parts 122 = .ok (.iinc 7 1, 3) := by decide +kernel
theorem dX10_parts_125 : decode cX10_parts 125 = .ok (.goto (-89), 3) := by decide +kernel
theorem dX10_parts_128 : decode cX10_parts 128 = .ok (.iload 6, 2) := by decide +kernel
theorem dX10_parts_130 : decode cX10_parts 130 = .ok (.ifCond .eq 80, 3) := by decide +kernel
theorem dX10_parts_133 : decode cX10_parts 133 = .ok (.aload_n 0, 1) := by decide +kernel
theorem dX10_parts_134 : decode cX10_parts 134 = .ok (.getfield 93, 3) := by decide +kernel
theorem dX10_parts_137 : decode cX10_parts 137 = .ok (.aload_n 0, 1) := by decide +kernel
theorem dX10_parts_138 : decode cX10_parts 138 = .ok (.getfield 192, 3) := by decide +kernel
theorem dX10_parts_141 : decode cX10_parts 141 = .ok (.iload_n 1, 1) := by decide +kernel
theorem dX10_parts_142 : decode cX10_parts 142 = .ok (.iastore, 1) := by decide +kernel
theorem dX10_parts_143 : decode cX10_parts 143 = .ok (.aload_n 0, 1) := by decide +kernel
theorem dX10_parts_144 : decode cX10_parts 144 = .ok (.getfield 96, 3) := by decide +kernel
theorem dX10_parts_147 : decode cX10_parts 147 = .ok (.aload_n 0, 1) := by decide +kernel
theorem dX10_parts_148 : decode cX10_parts 148 = .ok (.getfield 192, 3) := by decide +kernel
theorem dX10_parts_151 : decode cX10_parts 151 = .ok (.iload_n 3, 1) := by decide +kernel
theorem dX10_parts_152 : decode cX10_parts 152 = .ok (.iastore, 1) := by decide +kernel
theorem dX10_parts_153 : decode cX10_parts 153 = .ok (.aload_n 0, 1) := by decide +kernel
theorem dX10_parts_154 : decode cX10_parts 154 = .ok (.getfield 99, 3) := by decide +kernel
theorem dX10_parts_157 : decode cX10_parts 157 = .ok (.aload_n 0, 1) := by decide +kernel
theorem dX10_parts_158 : decode cX10_parts 158 = .ok (.getfield 192, 3) := by decide +kernel
theorem dX10_parts_161 : decode cX10_parts 161 = .ok (.iload 4, 2) := by decide +kernel
theorem dX10_parts_163 : decode cX10_parts 163 = .ok (.iastore, 1) := by decide +kernel
theorem dX10_parts_164 : decode cX10_parts 164 = .ok (.aload_n 0, 1) := by decide +kernel
theorem dX10_parts_165 : decode cX10_parts 165 = .ok (.getfield 102, 3) := by decide +kernel
theorem dX10_parts_168 : decode cX10_parts 168 = .ok (.aload_n 0, 1) := by decide +kernel
theorem dX10_parts_169 : decode cX10_parts 169 = .ok (.getfield 192, 3) := by decide +kernel
theorem dX10_parts_172 : decode cX10_parts 172 = .ok (.iload 5, 2) := by decide +kernel
theorem dX10_parts_174 : decode cX10_parts 174 = .ok (.iastore, 1) := by decide +kernel
theorem dX10_parts_175 : decode cX10_parts 175 = .ok (.aload_n 0, 1) := by decide +kernel
theorem dX10_parts_176 : decode cX10_parts 176 = .ok (.getfield 105, 3) := by decide +kernel
theorem dX10_parts_179 : decode cX10_parts 179 = .ok (.aload_n 0, 1) := by decide +kernel
theorem dX10_parts_180 : decode cX10_parts 180 = .ok (.getfield 192, 3) := by decide +kernel
theorem dX10_parts_183 : decode cX10_parts 183 = .ok (.aload_n 0, 1) := by decide +kernel
theorem dX10_parts_184 : decode cX10_parts 184 = .ok (.getfield 36, 3) := by decide +kernel
theorem dX10_parts_187 : decode cX10_parts 187 = .ok (.iload_n 3, 1) := by decide +kernel
theorem dX10_parts_188 : decode cX10_parts 188 = .ok (.iaload, 1) := by decide +kernel
theorem dX10_parts_189 : decode cX10_parts 189 = .ok (.iastore, 1) := by decide +kernel
theorem dX10_parts_190 : decode cX10_parts 190 = .ok (.aload_n 0, 1) := by decide +kernel
theorem dX10_parts_191 : decode cX10_parts 191 = .ok (.getfield 108, 3) := by decide +kernel
theorem dX10_parts_194 : decode cX10_parts 194 = .ok (.aload_n 0, 1) := by decide +kernel
theorem dX10_parts_195 : decode cX10_parts 195 = .ok (.getfield 192, 3) := by decide +kernel
theorem dX10_parts_198 : decode cX10_parts 198 = .ok (.iconst 0, 1) := by decide +kernel
theorem dX10_parts_199 : decode cX10_parts 199 = .ok (.bastore, 1) := by decide +kernel
theorem dX10_parts_200 : decode cX10_parts 200 = .ok (.aload_n 0, 1) := by decide +kernel
theorem dX10_parts_201 : decode cX10_parts 201 = .ok (.dup, 1) := by decide +kernel
theorem dX10_parts_202 : decode cX10_parts 202 = .ok (.getfield 192, 3) := by decide +kernel
theorem dX10_parts_205 : decode cX10_parts 205 = .ok (.iconst 1, 1) := by decide +kernel
theorem dX10_parts_206 : decode cX10_parts 206 = .ok (.iadd, 1) := by decide +kernel
theorem dX10_parts_207 : decode cX10_parts 207 = .ok (.putfield 192, 3) := by decide +kernel
theorem dX10_parts_210 : decode cX10_parts 210 = .ok (.iinc 2 1, 3) := by decide +kernel
theorem dX10_parts_213 : decode cX10_parts 213 = .ok (.goto (-211), 3) := by decide +kernel
theorem dX10_parts_216 : decode cX10_parts 216 = .ok (.return_, 1) := by decide +kernel
theorem dX10_drawsAll_0 : decode cX10_drawsAll 0 = .ok (.aload_n 0, 1) := by decide +kernel
theorem dX10_drawsAll_1 : decode cX10_drawsAll 1 = .ok (.iload_n 1, 1) := by decide +kernel
theorem dX10_drawsAll_2 : decode cX10_drawsAll 2 = .ok (.invokevirtual 195, 3) := by decide +kernel
theorem dX10_drawsAll_5 : decode cX10_drawsAll 5 = .ok (.istore_n 2, 1) := by decide +kernel
theorem dX10_drawsAll_6 : decode cX10_drawsAll 6 = .ok (.iload_n 2, 1) := by decide +kernel
theorem dX10_drawsAll_7 : decode cX10_drawsAll 7 = .ok (.ifCond .eq 25, 3) := by decide +kernel
theorem dX10_drawsAll_10 : decode cX10_drawsAll 10 = .ok (.aload_n 0, 1) := by decide +kernel
theorem dX10_drawsAll_11 : decode cX10_drawsAll 11 = .ok (.iload_n 2, 1) := by decide +kernel
theorem dX10_drawsAll_12 : decode cX10_drawsAll 12 = .ok (.invokevirtual 199, 3) := by decide +kernel
theorem dX10_drawsAll_15 : decode cX10_drawsAll 15 = .ok (.istore_n 3, 1) := by decide +kernel
theorem dX10_drawsAll_16 : decode cX10_drawsAll 16 = .ok (.iload_n 2, 1) := by decide +kernel
theorem dX10_drawsAll_17 : decode cX10_drawsAll 17 = .ok (.iconst 1, 1) := by decide +kernel
theorem dX10_drawsAll_18 : decode cX10_drawsAll 18 = .ok (.iload_n 3, 1) := by decide +kernel
theorem dX10_drawsAll_19 : decode cX10_drawsAll 19 = .ok (.ishl, 1) := by decide +kernel
theorem dX10_drawsAll_20 : decode cX10_drawsAll 20 = .ok (.iconst (-1), 1) := by decide +kernel
theorem dX10_drawsAll_21 : decode cX10_drawsAll 21 = .ok (.ixor, 1) := by decide +kernel
theorem dX10_drawsAll_22 : decode cX10_drawsAll 22 = .ok (.iand, 1) := by decide +kernel
theorem dX10_drawsAll_23 : decode cX10_drawsAll 23 = .ok (.istore_n 2, 1) := by decide +kernel
theorem dX10_drawsAll_24 : decode cX10_drawsAll 24 = .ok (.aload_n 0, 1) := by decide +kernel
theorem dX10_drawsAll_25 : decode cX10_drawsAll 25 = .ok (.iload_n 3, 1) := by decide +kernel
theorem dX10_drawsAll_26 : decode cX10_drawsAll 26 = .ok (.invokevirtual 202, 3) := by decide +kernel
theorem dX10_drawsAll_29 : decode cX10_drawsAll 29 = .ok (.goto (-23), 3) := by decide +kernel
theorem dX10_drawsAll_32 : decode cX10_drawsAll 32 = .ok (.return_, 1) := by decide +kernel
theorem dX10_open_0 : decode cX10_open 0 = .ok (.aload_n 0, 1) := by decide +kernel
theorem dX10_open_1 : decode cX10_open 1 = .ok (.aload_n 0, 1) := by decide +kernel
theorem dX10_open_2 : decode cX10_open 2 = .ok (.getfield 205, 3) := by decide +kernel
theorem dX10_open_5 : decode cX10_open 5 = .ok (.ifCond .ne 17, 3) := by decide +kernel
theorem dX10_open_8 : decode cX10_open 8 = .ok (.aload_n 0, 1) := by decide +kernel
theorem dX10_open_9 : decode cX10_open 9 = .ok (.iconst 1, 1) := by decide +kernel
theorem dX10_open_10 : decode cX10_open 10 = .ok (.invokevirtual 195, 3) := by decide +kernel
theorem dX10_open_13 : decode cX10_open 13 = .ok (.aload_n 0, 1) := by decide +kernel
theorem dX10_open_14 : decode cX10_open 14 = .ok (.iconst 0, 1) := by decide +kernel
theorem dX10_open_15 : decode cX10_open 15 = .ok (.invokevirtual 195, 3) := by decide +kernel
theorem dX10_open_18 : decode cX10_open 18 = .ok (.ior, 1) := by decide +kernel
theorem dX10_open_19 : decode cX10_open 19 = .ok (.ifCond .ne 7, 3) := by decide +kernel
theorem dX10_open_22 : decode cX10_open 22 = .ok (.iconst 1, 1) := by decide +kernel
theorem dX10_open_23 : decode cX10_open 23 = .ok (.goto 4, 3) := by decide +kernel
theorem dX10_open_26 : decode cX10_open 26 = .ok (.iconst 0, 1) := by decide +kernel
theorem dX10_open_27 : decode cX10_open 27 = .ok (.invokevirtual 178, 3) := by decide +kernel
theorem dX10_open_30 : decode cX10_open 30 = .ok (.ifCond .eq 5, 3) := by decide +kernel
theorem dX10_open_33 : decode cX10_open 33 = .ok (.iconst 0, 1) := by decide +kernel
theorem dX10_open_34 : decode cX10_open 34 = .ok (.ireturn, 1) := by decide +kernel
theorem dX10_open_35 : decode cX10_open 35 = .ok (.aload_n 0, 1) := by decide +kernel
theorem dX10_open_36 : decode cX10_open 36 = .ok (.iconst 1, 1) := by decide +kernel
theorem dX10_open_37 : decode cX10_open 37 = .ok (.putfield 205, 3) := by decide +kernel
theorem dX10_open_40 : decode cX10_open 40 = .ok (.aload_n 0, 1) := by decide +kernel
theorem dX10_open_41 : decode cX10_open 41 = .ok (.iconst 0, 1) := by decide +kernel
theorem dX10_open_42 : decode cX10_open 42 = .ok (.putfield 192, 3) := by decide +kernel
theorem dX10_open_45 : decode cX10_open 45 = .ok (.iconst 0, 1) := by decide +kernel
theorem dX10_open_46 : decode cX10_open 46 = .ok (.istore_n 1, 1) := by decide +kernel
theorem dX10_open_47 : decode cX10_open 47 = .ok (.iload_n 1, 1) := by decide +kernel
theorem dX10_open_48 : decode cX10_open 48 = .ok (.aload_n 0, 1) := by decide +kernel
theorem dX10_open_49 : decode cX10_open 49 = .ok (.getfield 167, 3) := by decide +kernel
theorem dX10_open_52 : decode cX10_open 52 = .ok (.if_icmp .ge 16, 3) := by decide +kernel
theorem dX10_open_55 : decode cX10_open 55 = .ok (.aload_n 0, 1) := by decide +kernel
theorem dX10_open_56 : decode cX10_open 56 = .ok (.getfield 90, 3) := by decide +kernel
theorem dX10_open_59 : decode cX10_open 59 = .ok (.iload_n 1, 1) := by decide +kernel
theorem dX10_open_60 : decode cX10_open 60 = .ok (.iconst (-1), 1) := by decide +kernel
theorem dX10_open_61 : decode cX10_open 61 = .ok (.iastore, 1) := by decide +kernel
theorem dX10_open_62 : decode cX10_open 62 = .ok (.iinc 1 1, 3) := by decide +kernel
theorem dX10_open_65 : decode cX10_open 65 = .ok (.goto (-18), 3) := by decide +kernel
theorem dX10_open_68 : decode cX10_open 68 = .ok (.aload_n 0, 1) := by decide +kernel
theorem dX10_open_69 : decode cX10_open 69 = .ok (.iconst 1, 1) := by decide +kernel
theorem dX10_open_70 : decode cX10_open 70 = .ok (.invokevirtual 209, 3) := by decide +kernel
theorem dX10_open_73 : decode cX10_open 73 = .ok (.aload_n 0, 1) := by decide +kernel
theorem dX10_open_74 : decode cX10_open 74 = .ok (.iconst 0, 1) := by decide +kernel
theorem dX10_open_75 : decode cX10_open 75 = .ok (.invokevirtual 209, 3) := by decide +kernel
theorem dX10_open_78 : decode cX10_open 78 = .ok (.iconst 0, 1) := by decide +kernel
theorem dX10_open_79 : decode cX10_open 79 = .ok (.istore_n 1, 1) := by decide +kernel
theorem dX10_open_80 : decode cX10_open 80 = .ok (.iload_n 1, 1) := by decide +kernel
theorem dX10_open_81 : decode cX10_open 81 = .ok (.iconst 3, 1) := by decide +kernel
theorem dX10_open_82 : decode cX10_open 82 = .ok (.if_icmp .ge 14, 3) := by decide +kernel
theorem dX10_open_85 : decode cX10_open 85 = .ok (.aload_n 0, 1) := by decide +kernel
theorem dX10_open_86 : decode cX10_open 86 = .ok (.iload_n 1, 1) := by decide +kernel
theorem dX10_open_87 : decode cX10_open 87 = .ok (.invokevirtual 213, 3) := by decide +kernel
theorem dX10_open_90 : decode cX10_open 90 = .ok (.iinc 1 1, 3) := by decide +kernel
theorem dX10_open_93 : decode cX10_open 93 = .ok (.goto (-13), 3) := by decide +kernel
theorem dX10_open_96 : decode cX10_open 96 = .ok (.aload_n 0, 1) := by decide +kernel
theorem dX10_open_97 : decode cX10_open 97 = .ok (.getfield 192, 3) := by decide +kernel
theorem dX10_open_100 : decode cX10_open 100 = .ok (.ireturn, 1) := by decide +kernel
theorem dX10_comes_0 : decode cX10_comes 0 = .ok (.aload_n 0, 1) := by decide +kernel
theorem dX10_comes_1 : decode cX10_comes 1 = .ok (.getfield 120, 3) := by decide +kernel
theorem dX10_comes_4 : decode cX10_comes 4 = .ok (.iload_n 1, 1) := by decide +kernel
theorem dX10_comes_5 : decode cX10_comes 5 = .ok (.iconst (-1), 1) := by decide +kernel
theorem dX10_comes_6 : decode cX10_comes 6 = .ok (.iastore, 1) := by decide +kernel
theorem dX10_comes_7 : decode cX10_comes 7 = .ok (.aload_n 0, 1) := by decide +kernel
theorem dX10_comes_8 : decode cX10_comes 8 = .ok (.getfield 192, 3) := by decide +kernel
theorem dX10_comes_11 : decode cX10_comes 11 = .ok (.iconst 1, 1) := by decide +kernel
theorem dX10_comes_12 : decode cX10_comes 12 = .ok (.isub, 1) := by decide +kernel
theorem dX10_comes_13 : decode cX10_comes 13 = .ok (.istore_n 2, 1) := by decide +kernel
theorem dX10_comes_14 : decode cX10_comes 14 = .ok (.iload_n 2, 1) := by decide +kernel
theorem dX10_comes_15 : decode cX10_comes 15 = .ok (.ifCond .lt 44, 3) := by decide +kernel
theorem dX10_comes_18 : decode cX10_comes 18 = .ok (.aload_n 0, 1) := by decide +kernel
theorem dX10_comes_19 : decode cX10_comes 19 = .ok (.getfield 120, 3) := by decide +kernel
theorem dX10_comes_22 : decode cX10_comes 22 = .ok (.iload_n 1, 1) := by decide +kernel
theorem dX10_comes_23 : decode cX10_comes 23 = .ok (.aload_n 0, 1) := by decide +kernel
theorem dX10_comes_24 : decode cX10_comes 24 = .ok (.getfield 105, 3) := by decide +kernel
theorem dX10_comes_27 : decode cX10_comes 27 = .ok (.iload_n 2, 1) := by decide +kernel
theorem dX10_comes_28 : decode cX10_comes 28 = .ok (.iaload, 1) := by decide +kernel
theorem dX10_comes_29 : decode cX10_comes 29 = .ok (.iload_n 1, 1) := by decide +kernel
theorem dX10_comes_30 : decode cX10_comes 30 = .ok (.if_icmp .ne 16, 3) := by decide +kernel
theorem dX10_comes_33 : decode cX10_comes 33 = .ok (.aload_n 0, 1) := by decide +kernel
theorem dX10_comes_34 : decode cX10_comes 34 = .ok (.getfield 108, 3) := by decide +kernel
theorem dX10_comes_37 : decode cX10_comes 37 = .ok (.iload_n 2, 1) := by decide +kernel
theorem dX10_comes_38 : decode cX10_comes 38 = .ok (.baload, 1) := by decide +kernel
theorem dX10_comes_39 : decode cX10_comes 39 = .ok (.ifCond .ne 7, 3) := by decide +kernel
theorem dX10_comes_42 : decode cX10_comes 42 = .ok (.iload_n 2, 1) := by decide +kernel
theorem dX10_comes_43 : decode cX10_comes 43 = .ok (.goto 9, 3) := by decide +kernel
theorem dX10_comes_46 : decode cX10_comes 46 = .ok (.aload_n 0, 1) := by decide +kernel
theorem dX10_comes_47 : decode cX10_comes 47 = .ok (.getfield 120, 3) := by decide +kernel
theorem dX10_comes_50 : decode cX10_comes 50 = .ok (.iload_n 1, 1) := by decide +kernel
theorem dX10_comes_51 : decode cX10_comes 51 = .ok (.iaload, 1) := by decide +kernel
theorem dX10_comes_52 : decode cX10_comes 52 = .ok (.iastore, 1) := by decide +kernel
theorem dX10_comes_53 : decode cX10_comes 53 = .ok (.iinc 2 (-1), 3) := by decide +kernel
theorem dX10_comes_56 : decode cX10_comes 56 = .ok (.goto (-42), 3) := by decide +kernel
theorem dX10_comes_59 : decode cX10_comes 59 = .ok (.aload_n 0, 1) := by decide +kernel
theorem dX10_comes_60 : decode cX10_comes 60 = .ok (.getfield 117, 3) := by decide +kernel
theorem dX10_comes_63 : decode cX10_comes 63 = .ok (.iload_n 1, 1) := by decide +kernel
theorem dX10_comes_64 : decode cX10_comes 64 = .ok (.aload_n 0, 1) := by decide +kernel
theorem dX10_comes_65 : decode cX10_comes 65 = .ok (.getfield 120, 3) := by decide +kernel
theorem dX10_comes_68 : decode cX10_comes 68 = .ok (.iload_n 1, 1) := by decide +kernel
theorem dX10_comes_69 : decode cX10_comes 69 = .ok (.iaload, 1) := by decide +kernel
theorem dX10_comes_70 : decode cX10_comes 70 = .ok (.iconst (-1), 1) := by decide +kernel
theorem dX10_comes_71 : decode cX10_comes 71 = .ok (.if_icmp .ne 7, 3) := by decide +kernel
theorem dX10_comes_74 : decode cX10_comes 74 = .ok (.iconst 0, 1) := by decide +kernel
theorem dX10_comes_75 : decode cX10_comes 75 = .ok (.goto 4, 3) := by decide +kernel
theorem dX10_comes_78 : decode cX10_comes 78 = .ok (.iconst 1, 1) := by decide +kernel
theorem dX10_comes_79 : decode cX10_comes 79 = .ok (.iastore, 1) := by decide +kernel
theorem dX10_comes_80 : decode cX10_comes 80 = .ok (.aload_n 0, 1) := by decide +kernel
theorem dX10_comes_81 : decode cX10_comes 81 = .ok (.getfield 123, 3) := by decide +kernel
theorem dX10_comes_84 : decode cX10_comes 84 = .ok (.iload_n 1, 1) := by decide +kernel
theorem dX10_comes_85 : decode cX10_comes 85 = .ok (.aload_n 0, 1) := by decide +kernel
theorem dX10_comes_86 : decode cX10_comes 86 = .ok (.getfield 120, 3) := by decide +kernel
theorem dX10_comes_89 : decode cX10_comes 89 = .ok (.iload_n 1, 1) := by decide +kernel
theorem dX10_comes_90 : decode cX10_comes 90 = .ok (.iaload, 1) := by decide +kernel
theorem dX10_comes_91 : decode cX10_comes 91 = .ok (.iconst (-1), 1) := by decide +kernel
theorem dX10_comes_92 : decode cX10_comes 92 = .ok (.if_icmp .ne 7, 3) := by decide +kernel
theorem dX10_comes_95 : decode cX10_comes 95 = .ok (.iconst 0, 1) := by decide +kernel
theorem dX10_comes_96 : decode cX10_comes 96 = .ok (.goto 19, 3) := by decide +kernel
theorem dX10_comes_99 : decode cX10_comes 99 = .ok (.aload_n 0, 1) := by decide +kernel
theorem dX10_comes_100 : decode cX10_comes 100 = .ok (.getfield 30, 3) := by decide +kernel
theorem dX10_comes_103 : decode cX10_comes 103 = .ok (.aload_n 0, 1) := by decide +kernel
theorem dX10_comes_104 : decode cX10_comes 104 = .ok (.getfield 96, 3) := by decide +kernel
theorem dX10_comes_107 : decode cX10_comes 107 = .ok (.aload_n 0, 1) := by decide +kernel
theorem dX10_comes_108 : decode cX10_comes 108 = .ok (.getfield 120, 3) := by decide +kernel
theorem dX10_comes_111 : decode cX10_comes 111 = .ok (.iload_n 1, 1) := by decide +kernel
theorem dX10_comes_112 : decode cX10_comes 112 = .ok (.iaload, 1) := by decide +kernel
theorem dX10_comes_113 : decode cX10_comes 113 = .ok (.iaload, 1) := by decide +kernel
theorem dX10_comes_114 : decode cX10_comes 114 = .ok (.iaload, 1) := by decide +kernel
theorem dX10_comes_115 : decode cX10_comes 115 = .ok (.iastore, 1) := by decide +kernel
theorem dX10_comes_116 : decode cX10_comes 116 = .ok (.aload_n 0, 1) := by decide +kernel
theorem dX10_comes_117 : decode cX10_comes 117 = .ok (.getfield 129, 3) := by decide +kernel
theorem dX10_comes_120 : decode cX10_comes 120 = .ok (.iload_n 1, 1) := by decide +kernel
theorem dX10_comes_121 : decode cX10_comes 121 = .ok (.iconst (-1), 1) := by decide +kernel
theorem dX10_comes_122 : decode cX10_comes 122 = .ok (.iastore, 1) := by decide +kernel
theorem dX10_comes_123 : decode cX10_comes 123 = .ok (.aload_n 0, 1) := by decide +kernel
theorem dX10_comes_124 : decode cX10_comes 124 = .ok (.iload_n 1, 1) := by decide +kernel
theorem dX10_comes_125 : decode cX10_comes 125 = .ok (.invokevirtual 156, 3) := by decide +kernel
theorem dX10_comes_128 : decode cX10_comes 128 = .ok (.return_, 1) := by decide +kernel
theorem dX10_begins_0 : decode cX10_begins 0 = .ok (.bipush 8, 2) := by decide +kernel
theorem dX10_begins_2 : decode cX10_begins 2 = .ok (.iload_n 1, 1) := by decide +kernel
theorem dX10_begins_3 : decode cX10_begins 3 = .ok (.imul, 1) := by decide +kernel
theorem dX10_begins_4 : decode cX10_begins 4 = .ok (.istore_n 2, 1) := by decide +kernel
theorem dX10_begins_5 : decode cX10_begins 5 = .ok (.iload_n 2, 1) := by decide +kernel
theorem dX10_begins_6 : decode cX10_begins 6 = .ok (.bipush 8, 2) := by decide +kernel
theorem dX10_begins_8 : decode cX10_begins 8 = .ok (.iload_n 1, 1) := by decide +kernel
theorem dX10_begins_9 : decode cX10_begins 9 = .ok (.imul, 1) := by decide +kernel
theorem dX10_begins_10 : decode cX10_begins 10 = .ok (.bipush 8, 2) := by decide +kernel
theorem dX10_begins_12 : decode cX10_begins 12 = .ok (.iadd, 1) := by decide +kernel
theorem dX10_begins_13 : decode cX10_begins 13 = .ok (.if_icmp .ge 23, 3) := by decide +kernel
theorem dX10_begins_16 : decode cX10_begins 16 = .ok (.aload_n 0, 1) := by decide +kernel
theorem dX10_begins_17 : decode cX10_begins 17 = .ok (.getfield 132, 3) := by decide +kernel
theorem dX10_begins_20 : decode cX10_begins 20 = .ok (.iload_n 2, 1) := by decide +kernel
theorem dX10_begins_21 : decode cX10_begins 21 = .ok (.iconst (-1), 1) := by decide +kernel
theorem dX10_begins_22 : decode cX10_begins 22 = .ok (.iastore, 1) := by decide +kernel
theorem dX10_begins_23 : decode cX10_begins 23 = .ok (.aload_n 0, 1) := by decide +kernel
theorem dX10_begins_24 : decode cX10_begins 24 = .ok (.getfield 141, 3) := by decide +kernel
theorem dX10_begins_27 : decode cX10_begins 27 = .ok (.iload_n 2, 1) := by decide +kernel
theorem dX10_begins_28 : decode cX10_begins 28 = .ok (.iconst 0, 1) := by decide +kernel
theorem dX10_begins_29 : decode cX10_begins 29 = .ok (.bastore, 1) := by decide +kernel
theorem dX10_begins_30 : decode cX10_begins 30 = .ok (.iinc 2 1, 3) := by decide +kernel
theorem dX10_begins_33 : decode cX10_begins 33 = .ok (.goto (-28), 3) := by decide +kernel
theorem dX10_begins_36 : decode cX10_begins 36 = .ok (.return_, 1) := by decide +kernel
theorem dX10_withdraws_0 : decode cX10_withdraws 0 = .ok (.aload_n 0, 1) := by decide +kernel
theorem dX10_withdraws_1 : decode cX10_withdraws 1 = .ok (.getfield 20, 3) := by decide +kernel
theorem dX10_withdraws_4 : decode cX10_withdraws 4 = .ok (.aload_n 0, 1) := by decide +kernel
theorem dX10_withdraws_5 : decode cX10_withdraws 5 = .ok (.getfield 51, 3) := by decide +kernel
theorem dX10_withdraws_8 : decode cX10_withdraws 8 = .ok (.iload_n 1, 1) := by decide +kernel
theorem dX10_withdraws_9 : decode cX10_withdraws 9 = .ok (.iaload, 1) := by decide +kernel
theorem dX10_withdraws_10 : decode cX10_withdraws 10 = .ok (.iaload, 1) := by decide +kernel
theorem dX10_withdraws_11 : decode cX10_withdraws 11 = .ok (.aload_n 0, 1) := by decide +kernel
theorem dX10_withdraws_12 : decode cX10_withdraws 12 = .ok (.getfield 63, 3) := by decide +kernel
theorem dX10_withdraws_15 : decode cX10_withdraws 15 = .ok (.iload_n 1, 1) := by decide +kernel
theorem dX10_withdraws_16 : decode cX10_withdraws 16 = .ok (.iaload, 1) := by decide +kernel
theorem dX10_withdraws_17 : decode cX10_withdraws 17 = .ok (.if_icmp .lt 56, 3) := by decide +kernel
theorem dX10_withdraws_20 : decode cX10_withdraws 20 = .ok (.aload_n 0, 1) := by decide +kernel
theorem dX10_withdraws_21 : decode cX10_withdraws 21 = .ok (.getfield 69, 3) := by decide +kernel
theorem dX10_withdraws_24 : decode cX10_withdraws 24 = .ok (.iload_n 1, 1) := by decide +kernel
theorem dX10_withdraws_25 : decode cX10_withdraws 25 = .ok (.iconst 5, 1) := by decide +kernel
theorem dX10_withdraws_26 : decode cX10_withdraws 26 = .ok (.iastore, 1) := by decide +kernel
theorem dX10_withdraws_27 : decode cX10_withdraws 27 = .ok (.aload_n 0, 1) := by decide +kernel
theorem dX10_withdraws_28 : decode cX10_withdraws 28 = .ok (.getfield 20, 3) := by decide +kernel
theorem dX10_withdraws_31 : decode cX10_withdraws 31 = .ok (.aload_n 0, 1) := by decide +kernel
theorem dX10_withdraws_32 : decode cX10_withdraws 32 = .ok (.getfield 51, 3) := by decide +kernel
theorem dX10_withdraws_35 : decode cX10_withdraws 35 = .ok (.iload_n 1, 1) := by decide +kernel
theorem dX10_withdraws_36 : decode cX10_withdraws 36 = .ok (.iaload, 1) := by decide +kernel
theorem dX10_withdraws_37 : decode cX10_withdraws 37 = .ok (.dup2, 1) := by decide +kernel
theorem dX10_withdraws_38 : decode cX10_withdraws 38 = .ok (.iaload, 1) := by decide +kernel
theorem dX10_withdraws_39 : decode cX10_withdraws 39 = .ok (.aload_n 0, 1) := by decide +kernel
theorem dX10_withdraws_40 : decode cX10_withdraws 40 = .ok (.getfield 63, 3) := by decide +kernel
theorem dX10_withdraws_43 : decode cX10_withdraws 43 = .ok (.iload_n 1, 1) := by decide +kernel
theorem dX10_withdraws_44 : decode cX10_withdraws 44 = .ok (.iaload, 1) := by decide +kernel
theorem dX10_withdraws_45 : decode cX10_withdraws 45 = .ok (.isub, 1) := by decide +kernel
theorem dX10_withdraws_46 : decode cX10_withdraws 46 = .ok (.iastore, 1) := by decide +kernel
theorem dX10_withdraws_47 : decode cX10_withdraws 47 = .ok (.aload_n 0, 1) := by decide +kernel
theorem dX10_withdraws_48 : decode cX10_withdraws 48 = .ok (.getfield 27, 3) := by decide +kernel
theorem dX10_withdraws_51 : decode cX10_withdraws 51 = .ok (.aload_n 0, 1) := by decide +kernel
theorem dX10_withdraws_52 : decode cX10_withdraws 52 = .ok (.getfield 51, 3) := by decide +kernel
theorem dX10_withdraws_55 : decode cX10_withdraws 55 = .ok (.iload_n 1, 1) := by decide +kernel
theorem dX10_withdraws_56 : decode cX10_withdraws 56 = .ok (.iaload, 1) := by decide +kernel
theorem dX10_withdraws_57 : decode cX10_withdraws 57 = .ok (.dup2, 1) := by decide +kernel
theorem dX10_withdraws_58 : decode cX10_withdraws 58 = .ok (.iaload, 1) := by decide +kernel
theorem dX10_withdraws_59 : decode cX10_withdraws 59 = .ok (.bipush 20, 2) := by decide +kernel
theorem dX10_withdraws_61 : decode cX10_withdraws 61 = .ok (.aload_n 0, 1) := by decide +kernel
theorem dX10_withdraws_62 : decode cX10_withdraws 62 = .ok (.getfield 63, 3) := by decide +kernel
theorem dX10_withdraws_65 : decode cX10_withdraws 65 = .ok (.iload_n 1, 1) := by decide +kernel
theorem dX10_withdraws_66 : decode cX10_withdraws 66 = .ok (.iaload, 1) := by decide +kernel
theorem dX10_withdraws_67 : decode cX10_withdraws 67 = .ok (.imul, 1) := by decide +kernel
theorem dX10_withdraws_68 : decode cX10_withdraws 68 = .ok (.iadd, 1) := by decide +kernel
theorem dX10_withdraws_69 : decode cX10_withdraws 69 = .ok (.iastore, 1) := by decide +kernel
theorem dX10_withdraws_70 : decode cX10_withdraws 70 = .ok (.goto 58, 3) := by decide +kernel
theorem dX10_withdraws_73 : decode cX10_withdraws 73 = .ok (.aload_n 0, 1) := by decide +kernel
theorem dX10_withdraws_74 : decode cX10_withdraws 74 = .ok (.getfield 72, 3) := by decide +kernel
theorem dX10_withdraws_77 : decode cX10_withdraws 77 = .ok (.iload_n 1, 1) := by decide +kernel
theorem dX10_withdraws_78 : decode cX10_withdraws 78 = .ok (.baload, 1) := by decide +kernel
theorem dX10_withdraws_79 : decode cX10_withdraws 79 = .ok (.ifCond .ne 41, 3) := by decide +kernel
theorem dX10_withdraws_82 : decode cX10_withdraws 82 = .ok (.aload_n 0, 1) := by decide +kernel
theorem dX10_withdraws_83 : decode cX10_withdraws 83 = .ok (.getfield 60, 3) := by decide +kernel
theorem dX10_withdraws_86 : decode cX10_withdraws 86 = .ok (.iload_n 1, 1) := by decide +kernel
theorem dX10_withdraws_87 : decode cX10_withdraws 87 = .ok (.iaload, 1) := by decide +kernel
theorem dX10_withdraws_88 : decode cX10_withdraws 88 = .ok (.iconst 1, 1) := by decide +kernel
theorem dX10_withdraws_89 : decode cX10_withdraws 89 = .ok (.if_icmp .le 31, 3) := by decide +kernel
theorem dX10_withdraws_92 : decode cX10_withdraws 92 = .ok (.aload_n 0, 1) := by decide +kernel
theorem dX10_withdraws_93 : decode cX10_withdraws 93 = .ok (.getfield 69, 3) := by decide +kernel
theorem dX10_withdraws_96 : decode cX10_withdraws 96 = .ok (.iload_n 1, 1) := by decide +kernel
theorem dX10_withdraws_97 : decode cX10_withdraws 97 = .ok (.bipush 6, 2) := by decide +kernel
theorem dX10_withdraws_99 : decode cX10_withdraws 99 = .ok (.iastore, 1) := by decide +kernel
theorem dX10_withdraws_100 : decode cX10_withdraws 100 = .ok (.aload_n 0, 1) := by decide +kernel
theorem dX10_withdraws_101 : decode cX10_withdraws 101 = .ok (.getfield 72, 3) := by decide +kernel
theorem dX10_withdraws_104 : decode cX10_withdraws 104 = .ok (.iload_n 1, 1) := by decide +kernel
theorem dX10_withdraws_105 : decode cX10_withdraws 105 = .ok (.iconst 1, 1) := by decide +kernel
theorem dX10_withdraws_106 : decode cX10_withdraws 106 = .ok (.bastore, 1) := by decide +kernel
theorem dX10_withdraws_107 : decode cX10_withdraws 107 = .ok (.aload_n 0, 1) := by decide +kernel
theorem dX10_withdraws_108 : decode cX10_withdraws 108 = .ok (.getfield 60, 3) := by decide +kernel
theorem dX10_withdraws_111 : decode cX10_withdraws 111 = .ok (.iload_n 1, 1) := by decide +kernel
theorem dX10_withdraws_112 : decode cX10_withdraws 112 = .ok (.dup2, 1) := by decide +kernel
theorem dX10_withdraws_113 : decode cX10_withdraws 113 = .ok (.iaload, 1) := by decide +kernel
theorem dX10_withdraws_114 : decode cX10_withdraws 114 = .ok (.iconst 1, 1) := by decide +kernel
theorem dX10_withdraws_115 : decode cX10_withdraws 115 = .ok (.isub, 1) := by decide +kernel
theorem dX10_withdraws_116 : decode cX10_withdraws 116 = .ok (.iastore, 1) := by decide +kernel
theorem dX10_withdraws_117 : decode cX10_withdraws 117 = .ok (.goto 11, 3) := by decide +kernel
theorem dX10_withdraws_120 : decode cX10_withdraws 120 = .ok (.aload_n 0, 1) := by decide +kernel
theorem dX10_withdraws_121 : decode cX10_withdraws 121 = .ok (.getfield 69, 3) := by decide +kernel
theorem dX10_withdraws_124 : decode cX10_withdraws 124 = .ok (.iload_n 1, 1) := by decide +kernel
theorem dX10_withdraws_125 : decode cX10_withdraws 125 = .ok (.bipush 7, 2) := by decide +kernel
theorem dX10_withdraws_127 : decode cX10_withdraws 127 = .ok (.iastore, 1) := by decide +kernel
theorem dX10_withdraws_128 : decode cX10_withdraws 128 = .ok (.return_, 1) := by decide +kernel
theorem dX10_withdrawsAll_0 : decode cX10_withdrawsAll 0 = .ok (.iconst 0, 1) := by decide +kernel
theorem dX10_withdrawsAll_1 : decode cX10_withdrawsAll 1 = .ok (.istore_n 2, 1) := by decide +kernel
theorem dX10_withdrawsAll_2 : decode cX10_withdrawsAll 2 = .ok (.iconst 0, 1) := by decide +kernel
theorem dX10_withdrawsAll_3 : decode cX10_withdrawsAll 3 = .ok (.istore_n 3, 1) := by decide +kernel
theorem dX10_withdrawsAll_4 : decode cX10_withdrawsAll 4 = .ok (.iload_n 3, 1) := by decide +kernel
theorem dX10_withdrawsAll_5 : decode cX10_withdrawsAll 5 = .ok (.aload_n 0, 1) := by decide +kernel
theorem dX10_withdrawsAll_6 : decode cX10_withdrawsAll 6 = .ok (.getfield 167, 3) := by decide +kernel
theorem dX10_withdrawsAll_9 : decode cX10_withdrawsAll 9 = .ok (.if_icmp .ge 37, 3) := by decide +kernel
theorem dX10_withdrawsAll_12 : decode cX10_withdrawsAll 12 = .ok (.aload_n 0, 1) := by decide +kernel
theorem dX10_withdrawsAll_13 : decode cX10_withdrawsAll 13 = .ok (.getfield 90, 3) := by decide +kernel
theorem dX10_withdrawsAll_16 : decode cX10_withdrawsAll 16 = .ok (.iload_n 3, 1) := by decide +kernel
theorem dX10_withdrawsAll_17 : decode cX10_withdrawsAll 17 = .ok (.iaload, 1) := by decide +kernel
theorem dX10_withdrawsAll_18 : decode cX10_withdrawsAll 18 = .ok (.iload_n 1, 1) := by decide +kernel
theorem dX10_withdrawsAll_19 : decode cX10_withdrawsAll 19 = .ok (.if_icmp .ne 21, 3) := by decide +kernel
theorem dX10_withdrawsAll_22 : decode cX10_withdrawsAll 22 = .ok (.aload_n 0, 1) := by decide +kernel
theorem dX10_withdrawsAll_23 : decode cX10_withdrawsAll 23 = .ok (.getfield 69, 3) := by decide +kernel
theorem dX10_withdrawsAll_26 : decode cX10_withdrawsAll 26 = .ok (.iload_n 3, 1) := by decide +kernel
theorem dX10_withdrawsAll_27 : decode cX10_withdrawsAll 27 = .ok (.iaload, 1) := by decide +kernel
theorem dX10_withdrawsAll_28 : decode cX10_withdrawsAll 28 = .ok (.iconst 2, 1) := by decide +kernel
theorem dX10_withdrawsAll_29 : decode cX10_withdrawsAll 29 = .ok (.if_icmp .ne 11, 3) := by decide +kernel
theorem dX10_withdrawsAll_32 : decode cX10_withdrawsAll 32 = .ok (.aload_n 0, 1) := by decide +kernel
theorem dX10_withdrawsAll_33 : decode cX10_withdrawsAll 33 = .ok (.iload_n 3, 1) := by decide +kernel
theorem dX10_withdrawsAll_34 : decode cX10_withdrawsAll 34 = .ok (.invokevirtual 215, 3) := by decide +kernel
theorem dX10_withdrawsAll_37 : decode cX10_withdrawsAll 37 = .ok (.iinc 2 1, 3) := by decide +kernel
theorem dX10_withdrawsAll_40 : decode cX10_withdrawsAll 40 = .ok (.iinc 3 1, 3) := by decide +kernel
theorem dX10_withdrawsAll_43 : decode cX10_withdrawsAll 43 = .ok (.goto (-39), 3) := by decide +kernel
theorem dX10_withdrawsAll_46 : decode cX10_withdrawsAll 46 = .ok (.iload_n 2, 1) := by decide +kernel
theorem dX10_withdrawsAll_47 : decode cX10_withdrawsAll 47 = .ok (.ireturn, 1) := by decide +kernel
theorem dX10_ends_0 : decode cX10_ends 0 = .ok (.aload_n 0, 1) := by decide +kernel
theorem dX10_ends_1 : decode cX10_ends 1 = .ok (.getfield 108, 3) := by decide +kernel
theorem dX10_ends_4 : decode cX10_ends 4 = .ok (.aload_n 0, 1) := by decide +kernel
theorem dX10_ends_5 : decode cX10_ends 5 = .ok (.getfield 120, 3) := by decide +kernel
theorem dX10_ends_8 : decode cX10_ends 8 = .ok (.iload_n 1, 1) := by decide +kernel
theorem dX10_ends_9 : decode cX10_ends 9 = .ok (.iaload, 1) := by decide +kernel
theorem dX10_ends_10 : decode cX10_ends 10 = .ok (.iconst 1, 1) := by decide +kernel
theorem dX10_ends_11 : decode cX10_ends 11 = .ok (.bastore, 1) := by decide +kernel
theorem dX10_ends_12 : decode cX10_ends 12 = .ok (.aload_n 0, 1) := by decide +kernel
theorem dX10_ends_13 : decode cX10_ends 13 = .ok (.iload_n 1, 1) := by decide +kernel
theorem dX10_ends_14 : decode cX10_ends 14 = .ok (.invokevirtual 213, 3) := by decide +kernel
theorem dX10_ends_17 : decode cX10_ends 17 = .ok (.return_, 1) := by decide +kernel
theorem dX10_end_0 : decode cX10_end 0 = .ok (.aload_n 0, 1) := by decide +kernel
theorem dX10_end_1 : decode cX10_end 1 = .ok (.aload_n 0, 1) := by decide +kernel
theorem dX10_end_2 : decode cX10_end 2 = .ok (.getfield 205, 3) := by decide +kernel
theorem dX10_end_5 : decode cX10_end 5 = .ok (.ifCond .eq 7, 3) := by decide +kernel
theorem dX10_end_8 : decode cX10_end 8 = .ok (.iconst 0, 1) := by decide +kernel
theorem dX10_end_9 : decode cX10_end 9 = .ok (.goto 4, 3) := by decide +kernel
theorem dX10_end_12 : decode cX10_end 12 = .ok (.iconst 1, 1) := by decide +kernel
theorem dX10_end_13 : decode cX10_end 13 = .ok (.invokevirtual 178, 3) := by decide +kernel
theorem dX10_end_16 : decode cX10_end 16 = .ok (.ifCond .eq 5, 3) := by decide +kernel
theorem dX10_end_19 : decode cX10_end 19 = .ok (.iconst 0, 1) := by decide +kernel
theorem dX10_end_20 : decode cX10_end 20 = .ok (.ireturn, 1) := by decide +kernel
theorem dX10_end_21 : decode cX10_end 21 = .ok (.iconst 0, 1) := by decide +kernel
theorem dX10_end_22 : decode cX10_end 22 = .ok (.istore_n 1, 1) := by decide +kernel
theorem dX10_end_23 : decode cX10_end 23 = .ok (.iconst 0, 1) := by decide +kernel
theorem dX10_end_24 : decode cX10_end 24 = .ok (.istore_n 2, 1) := by decide +kernel
theorem dX10_end_25 : decode cX10_end 25 = .ok (.iload_n 2, 1) := by decide +kernel
theorem dX10_end_26 : decode cX10_end 26 = .ok (.aload_n 0, 1) := by decide +kernel
theorem dX10_end_27 : decode cX10_end 27 = .ok (.getfield 192, 3) := by decide +kernel
theorem dX10_end_30 : decode cX10_end 30 = .ok (.if_icmp .ge 17, 3) := by decide +kernel
theorem dX10_end_33 : decode cX10_end 33 = .ok (.iload_n 1, 1) := by decide +kernel
theorem dX10_end_34 : decode cX10_end 34 = .ok (.aload_n 0, 1) := by decide +kernel
theorem dX10_end_35 : decode cX10_end 35 = .ok (.iload_n 2, 1) := by decide +kernel
theorem dX10_end_36 : decode cX10_end 36 = .ok (.invokevirtual 218, 3) := by decide +kernel
theorem dX10_end_39 : decode cX10_end 39 = .ok (.iadd, 1) := by decide +kernel
theorem dX10_end_40 : decode cX10_end 40 = .ok (.istore_n 1, 1) := by decide +kernel
theorem dX10_end_41 : decode cX10_end 41 = .ok (.iinc 2 1, 3) := by decide +kernel
theorem dX10_end_44 : decode cX10_end 44 = .ok (.goto (-19), 3) := by decide +kernel
theorem dX10_end_47 : decode cX10_end 47 = .ok (.aload_n 0, 1) := by decide +kernel
theorem dX10_end_48 : decode cX10_end 48 = .ok (.iconst 0, 1) := by decide +kernel
theorem dX10_end_49 : decode cX10_end 49 = .ok (.putfield 205, 3) := by decide +kernel
theorem dX10_end_52 : decode cX10_end 52 = .ok (.aload_n 0, 1) := by decide +kernel
theorem dX10_end_53 : decode cX10_end 53 = .ok (.iconst 0, 1) := by decide +kernel
theorem dX10_end_54 : decode cX10_end 54 = .ok (.putfield 192, 3) := by decide +kernel
theorem dX10_end_57 : decode cX10_end 57 = .ok (.aload_n 0, 1) := by decide +kernel
theorem dX10_end_58 : decode cX10_end 58 = .ok (.dup, 1) := by decide +kernel
theorem dX10_end_59 : decode cX10_end 59 = .ok (.getfield 221, 3) := by decide +kernel
theorem dX10_end_62 : decode cX10_end 62 = .ok (.iconst 1, 1) := by decide +kernel
theorem dX10_end_63 : decode cX10_end 63 = .ok (.iadd, 1) := by decide +kernel
theorem dX10_end_64 : decode cX10_end 64 = .ok (.putfield 221, 3) := by decide +kernel
theorem dX10_end_67 : decode cX10_end 67 = .ok (.iconst 0, 1) := by decide +kernel
theorem dX10_end_68 : decode cX10_end 68 = .ok (.istore_n 2, 1) := by decide +kernel
theorem dX10_end_69 : decode cX10_end 69 = .ok (.iload_n 2, 1) := by decide +kernel
theorem dX10_end_70 : decode cX10_end 70 = .ok (.iconst 3, 1) := by decide +kernel
theorem dX10_end_71 : decode cX10_end 71 = .ok (.if_icmp .ge 14, 3) := by decide +kernel
theorem dX10_end_74 : decode cX10_end 74 = .ok (.aload_n 0, 1) := by decide +kernel
theorem dX10_end_75 : decode cX10_end 75 = .ok (.iload_n 2, 1) := by decide +kernel
theorem dX10_end_76 : decode cX10_end 76 = .ok (.invokevirtual 213, 3) := by decide +kernel
theorem dX10_end_79 : decode cX10_end 79 = .ok (.iinc 2 1, 3) := by decide +kernel
theorem dX10_end_82 : decode cX10_end 82 = .ok (.goto (-13), 3) := by decide +kernel
theorem dX10_end_85 : decode cX10_end 85 = .ok (.iconst 0, 1) := by decide +kernel
theorem dX10_end_86 : decode cX10_end 86 = .ok (.istore_n 2, 1) := by decide +kernel
theorem dX10_end_87 : decode cX10_end 87 = .ok (.iload_n 2, 1) := by decide +kernel
theorem dX10_end_88 : decode cX10_end 88 = .ok (.aload_n 0, 1) := by decide +kernel
theorem dX10_end_89 : decode cX10_end 89 = .ok (.getfield 167, 3) := by decide +kernel
theorem dX10_end_92 : decode cX10_end 92 = .ok (.if_icmp .ge 16, 3) := by decide +kernel
theorem dX10_end_95 : decode cX10_end 95 = .ok (.aload_n 0, 1) := by decide +kernel
theorem dX10_end_96 : decode cX10_end 96 = .ok (.getfield 90, 3) := by decide +kernel
theorem dX10_end_99 : decode cX10_end 99 = .ok (.iload_n 2, 1) := by decide +kernel
theorem dX10_end_100 : decode cX10_end 100 = .ok (.iconst (-1), 1) := by decide +kernel
theorem dX10_end_101 : decode cX10_end 101 = .ok (.iastore, 1) := by decide +kernel
theorem dX10_end_102 : decode cX10_end 102 = .ok (.iinc 2 1, 3) := by decide +kernel
theorem dX10_end_105 : decode cX10_end 105 = .ok (.goto (-18), 3) := by decide +kernel
theorem dX10_end_108 : decode cX10_end 108 = .ok (.iload_n 1, 1) := by decide +kernel
theorem dX10_end_109 : decode cX10_end 109 = .ok (.ireturn, 1) := by decide +kernel
theorem dX10_press_0 : decode cX10_press 0 = .ok (.iload_n 1, 1) := by decide +kernel
theorem dX10_press_1 : decode cX10_press 1 = .ok (.invokestatic 170, 3) := by decide +kernel
theorem dX10_press_4 : decode cX10_press 4 = .ok (.ifCond .eq 14, 3) := by decide +kernel
theorem dX10_press_7 : decode cX10_press 7 = .ok (.iload_n 2, 1) := by decide +kernel
theorem dX10_press_8 : decode cX10_press 8 = .ok (.invokestatic 181, 3) := by decide +kernel
theorem dX10_press_11 : decode cX10_press 11 = .ok (.ifCond .eq 7, 3) := by decide +kernel
theorem dX10_press_14 : decode cX10_press 14 = .ok (.iconst 1, 1) := by decide +kernel
theorem dX10_press_15 : decode cX10_press 15 = .ok (.goto 4, 3) := by decide +kernel
theorem dX10_press_18 : decode cX10_press 18 = .ok (.iconst 0, 1) := by decide +kernel
theorem dX10_press_19 : decode cX10_press 19 = .ok (.istore_n 3, 1) := by decide +kernel
theorem dX10_press_20 : decode cX10_press 20 = .ok (.iload_n 3, 1) := by decide +kernel
theorem dX10_press_21 : decode cX10_press 21 = .ok (.ifCond .eq 50, 3) := by decide +kernel
theorem dX10_press_24 : decode cX10_press 24 = .ok (.aload_n 0, 1) := by decide +kernel
theorem dX10_press_25 : decode cX10_press 25 = .ok (.getfield 117, 3) := by decide +kernel
theorem dX10_press_28 : decode cX10_press 28 = .ok (.iload_n 2, 1) := by decide +kernel
theorem dX10_press_29 : decode cX10_press 29 = .ok (.iaload, 1) := by decide +kernel
theorem dX10_press_30 : decode cX10_press 30 = .ok (.iconst 1, 1) := by decide +kernel
theorem dX10_press_31 : decode cX10_press 31 = .ok (.if_icmp .ne 40, 3) := by decide +kernel
theorem dX10_press_34 : decode cX10_press 34 = .ok (.aload_n 0, 1) := by decide +kernel
theorem dX10_press_35 : decode cX10_press 35 = .ok (.getfield 114, 3) := by decide +kernel
theorem dX10_press_38 : decode cX10_press 38 = .ok (.iload_n 2, 1) := by decide +kernel
theorem dX10_press_39 : decode cX10_press 39 = .ok (.baload, 1) := by decide +kernel
theorem dX10_press_40 : decode cX10_press 40 = .ok (.ifCond .eq 31, 3) := by decide +kernel
theorem dX10_press_43 : decode cX10_press 43 = .ok (.aload_n 0, 1) := by decide +kernel
theorem dX10_press_44 : decode cX10_press 44 = .ok (.getfield 48, 3) := by decide +kernel
theorem dX10_press_47 : decode cX10_press 47 = .ok (.iload_n 1, 1) := by decide +kernel
theorem dX10_press_48 : decode cX10_press 48 = .ok (.baload, 1) := by decide +kernel
theorem dX10_press_49 : decode cX10_press 49 = .ok (.ifCond .eq 22, 3) := by decide +kernel
theorem dX10_press_52 : decode cX10_press 52 = .ok (.aload_n 0, 1) := by decide +kernel
theorem dX10_press_53 : decode cX10_press 53 = .ok (.getfield 132, 3) := by decide +kernel
theorem dX10_press_56 : decode cX10_press 56 = .ok (.bipush 8, 2) := by decide +kernel
theorem dX10_press_58 : decode cX10_press 58 = .ok (.iload_n 2, 1) := by decide +kernel
theorem dX10_press_59 : decode cX10_press 59 = .ok (.imul, 1) := by decide +kernel
theorem dX10_press_60 : decode cX10_press 60 = .ok (.iload_n 1, 1) := by decide +kernel
theorem dX10_press_61 : decode cX10_press 61 = .ok (.iadd, 1) := by decide +kernel
theorem dX10_press_62 : decode cX10_press 62 = .ok (.iaload, 1) := by decide +kernel
theorem dX10_press_63 : decode cX10_press 63 = .ok (.iconst (-1), 1) := by decide +kernel
theorem dX10_press_64 : decode cX10_press 64 = .ok (.if_icmp .ne 7, 3) := by decide +kernel
theorem dX10_press_67 : decode cX10_press 67 = .ok (.iconst 1, 1) := by decide +kernel
theorem dX10_press_68 : decode cX10_press 68 = .ok (.goto 4, 3) := by decide +kernel
theorem dX10_press_71 : decode cX10_press 71 = .ok (.iconst 0, 1) := by decide +kernel
theorem dX10_press_72 : decode cX10_press 72 = .ok (.istore 4, 2) := by decide +kernel
theorem dX10_press_74 : decode cX10_press 74 = .ok (.aload_n 0, 1) := by decide +kernel
theorem dX10_press_75 : decode cX10_press 75 = .ok (.iload_n 3, 1) := by decide +kernel
theorem dX10_press_76 : decode cX10_press 76 = .ok (.ifCond .ne 7, 3) := by decide +kernel
theorem dX10_press_79 : decode cX10_press 79 = .ok (.iconst 1, 1) := by decide +kernel
theorem dX10_press_80 : decode cX10_press 80 = .ok (.goto 13, 3) := by decide +kernel
theorem dX10_press_83 : decode cX10_press 83 = .ok (.iload 4, 2) := by decide +kernel
theorem dX10_press_85 : decode cX10_press 85 = .ok (.ifCond .eq 7, 3) := by decide +kernel
theorem dX10_press_88 : decode cX10_press 88 = .ok (.iconst 0, 1) := by decide +kernel
theorem dX10_press_89 : decode cX10_press 89 = .ok (.goto 4, 3) := by decide +kernel
theorem dX10_press_92 : decode cX10_press 92 = .ok (.iconst 2, 1) := by decide +kernel
theorem dX10_press_93 : decode cX10_press 93 = .ok (.invokevirtual 178, 3) := by decide +kernel
theorem dX10_press_96 : decode cX10_press 96 = .ok (.ifCond .eq 5, 3) := by decide +kernel
theorem dX10_press_99 : decode cX10_press 99 = .ok (.iconst 0, 1) := by decide +kernel
theorem dX10_press_100 : decode cX10_press 100 = .ok (.ireturn, 1) := by decide +kernel
theorem dX10_press_101 : decode cX10_press 101 = .ok (.bipush 8, 2) := by decide +kernel
theorem dX10_press_103 : decode cX10_press 103 = .ok (.iload_n 2, 1) := by decide +kernel
theorem dX10_press_104 : decode cX10_press 104 = .ok (.imul, 1) := by decide +kernel
theorem dX10_press_105 : decode cX10_press 105 = .ok (.iload_n 1, 1) := by decide +kernel
theorem dX10_press_106 : decode cX10_press 106 = .ok (.iadd, 1) := by decide +kernel
theorem dX10_press_107 : decode cX10_press 107 = .ok (.istore 5, 2) := by decide +kernel
theorem dX10_press_109 : decode cX10_press 109 = .ok (.aload_n 0, 1) := by decide +kernel
theorem dX10_press_110 : decode cX10_press 110 = .ok (.getfield 132, 3) := by decide +kernel
theorem dX10_press_113 : decode cX10_press 113 = .ok (.iload 5, 2) := by decide +kernel
theorem dX10_press_115 : decode cX10_press 115 = .ok (.aload_n 0, 1) := by decide +kernel
theorem dX10_press_116 : decode cX10_press 116 = .ok (.getfield 224, 3) := by decide +kernel
theorem dX10_press_119 : decode cX10_press 119 = .ok (.iastore, 1) := by decide +kernel
theorem dX10_press_120 : decode cX10_press 120 = .ok (.aload_n 0, 1) := by decide +kernel
theorem dX10_press_121 : decode cX10_press 121 = .ok (.getfield 135, 3) := by decide +kernel
theorem dX10_press_124 : decode cX10_press 124 = .ok (.iload 5, 2) := by decide +kernel
theorem dX10_press_126 : decode cX10_press 126 = .ok (.aload_n 0, 1) := by decide +kernel
theorem dX10_press_127 : decode cX10_press 127 = .ok (.getfield 224, 3) := by decide +kernel
theorem dX10_press_130 : decode cX10_press 130 = .ok (.aload_n 0, 1) := by decide +kernel
theorem dX10_press_131 : decode cX10_press 131 = .ok (.getfield 42, 3) := by decide +kernel
theorem dX10_press_134 : decode cX10_press 134 = .ok (.iload_n 1, 1) := by decide +kernel
theorem dX10_press_135 : decode cX10_press 135 = .ok (.iaload, 1) := by decide +kernel
theorem dX10_press_136 : decode cX10_press 136 = .ok (.iadd, 1) := by decide +kernel
theorem dX10_press_137 : decode cX10_press 137 = .ok (.iastore, 1) := by decide +kernel
theorem dX10_press_138 : decode cX10_press 138 = .ok (.aload_n 0, 1) := by decide +kernel
theorem dX10_press_139 : decode cX10_press 139 = .ok (.getfield 138, 3) := by decide +kernel
theorem dX10_press_142 : decode cX10_press 142 = .ok (.iload 5, 2) := by decide +kernel
theorem dX10_press_144 : decode cX10_press 144 = .ok (.aload_n 0, 1) := by decide +kernel
theorem dX10_press_145 : decode cX10_press 145 = .ok (.getfield 123, 3) := by decide +kernel
theorem dX10_press_148 : decode cX10_press 148 = .ok (.iload_n 2, 1) := by decide +kernel
theorem dX10_press_149 : decode cX10_press 149 = .ok (.iaload, 1) := by decide +kernel
theorem dX10_press_150 : decode cX10_press 150 = .ok (.iastore, 1) := by decide +kernel
theorem dX10_press_151 : decode cX10_press 151 = .ok (.aload_n 0, 1) := by decide +kernel
theorem dX10_press_152 : decode cX10_press 152 = .ok (.getfield 123, 3) := by decide +kernel
theorem dX10_press_155 : decode cX10_press 155 = .ok (.iload_n 2, 1) := by decide +kernel
theorem dX10_press_156 : decode cX10_press 156 = .ok (.iaload, 1) := by decide +kernel
theorem dX10_press_157 : decode cX10_press 157 = .ok (.ireturn, 1) := by decide +kernel
theorem dX10_firstOf_0 : decode cX10_firstOf 0 = .ok (.iconst (-1), 1) := by decide +kernel
theorem dX10_firstOf_1 : decode cX10_firstOf 1 = .ok (.istore_n 2, 1) := by decide +kernel
theorem dX10_firstOf_2 : decode cX10_firstOf 2 = .ok (.aload_n 0, 1) := by decide +kernel
theorem dX10_firstOf_3 : decode cX10_firstOf 3 = .ok (.getfield 167, 3) := by decide +kernel
theorem dX10_firstOf_6 : decode cX10_firstOf 6 = .ok (.iconst 1, 1) := by decide +kernel
theorem dX10_firstOf_7 : decode cX10_firstOf 7 = .ok (.isub, 1) := by decide +kernel
theorem dX10_firstOf_8 : decode cX10_firstOf 8 = .ok (.istore_n 3, 1) := by decide +kernel
theorem dX10_firstOf_9 : decode cX10_firstOf 9 = .ok (.iload_n 3, 1) := by decide +kernel
theorem dX10_firstOf_10 : decode cX10_firstOf 10 = .ok (.ifCond .lt 35, 3) := by decide +kernel
theorem dX10_firstOf_13 : decode cX10_firstOf 13 = .ok (.aload_n 0, 1) := by decide +kernel
theorem dX10_firstOf_14 : decode cX10_firstOf 14 = .ok (.getfield 90, 3) := by decide +kernel
theorem dX10_firstOf_17 : decode cX10_firstOf 17 = .ok (.iload_n 3, 1) := by decide +kernel
theorem dX10_firstOf_18 : decode cX10_firstOf 18 = .ok (.iaload, 1) := by decide +kernel
theorem dX10_firstOf_19 : decode cX10_firstOf 19 = .ok (.iload_n 1, 1) := by decide +kernel
theorem dX10_firstOf_20 : decode cX10_firstOf 20 = .ok (.if_icmp .ne 17, 3) := by decide +kernel
theorem dX10_firstOf_23 : decode cX10_firstOf 23 = .ok (.aload_n 0, 1) := by decide +kernel
theorem dX10_firstOf_24 : decode cX10_firstOf 24 = .ok (.getfield 69, 3) := by decide +kernel
theorem dX10_firstOf_27 : decode cX10_firstOf 27 = .ok (.iload_n 3, 1) := by decide +kernel
theorem dX10_firstOf_28 : decode cX10_firstOf 28 = .ok (.iaload, 1) := by decide +kernel
theorem dX10_firstOf_29 : decode cX10_firstOf 29 = .ok (.iconst 2, 1) := by decide +kernel
theorem dX10_firstOf_30 : decode cX10_firstOf 30 = .ok (.if_icmp .ne 7, 3) := by decide +kernel
theorem dX10_firstOf_33 : decode cX10_firstOf 33 = .ok (.iload_n 3, 1) := by decide +kernel
theorem dX10_firstOf_34 : decode cX10_firstOf 34 = .ok (.goto 4, 3) := by decide +kernel
theorem dX10_firstOf_37 : decode cX10_firstOf 37 = .ok (.iload_n 2, 1) := by decide +kernel
theorem dX10_firstOf_38 : decode cX10_firstOf 38 = .ok (.istore_n 2, 1) := by decide +kernel
theorem dX10_firstOf_39 : decode cX10_firstOf 39 = .ok (.iinc 3 (-1), 3) := by decide +kernel
theorem dX10_firstOf_42 : decode cX10_firstOf 42 = .ok (.goto (-33), 3) := by decide +kernel
theorem dX10_firstOf_45 : decode cX10_firstOf 45 = .ok (.iload_n 2, 1) := by decide +kernel
theorem dX10_firstOf_46 : decode cX10_firstOf 46 = .ok (.ireturn, 1) := by decide +kernel
theorem dX10_leftOf_0 : decode cX10_leftOf 0 = .ok (.iconst 0, 1) := by decide +kernel
theorem dX10_leftOf_1 : decode cX10_leftOf 1 = .ok (.istore_n 2, 1) := by decide +kernel
theorem dX10_leftOf_2 : decode cX10_leftOf 2 = .ok (.iconst 0, 1) := by decide +kernel
theorem dX10_leftOf_3 : decode cX10_leftOf 3 = .ok (.istore_n 3, 1) := by decide +kernel
theorem dX10_leftOf_4 : decode cX10_leftOf 4 = .ok (.iload_n 3, 1) := by decide +kernel
theorem dX10_leftOf_5 : decode cX10_leftOf 5 = .ok (.aload_n 0, 1) := by decide +kernel
theorem dX10_leftOf_6 : decode cX10_leftOf 6 = .ok (.getfield 167, 3) := by decide +kernel
theorem dX10_leftOf_9 : decode cX10_leftOf 9 = .ok (.if_icmp .ge 37, 3) := by decide +kernel
theorem dX10_leftOf_12 : decode cX10_leftOf 12 = .ok (.iload_n 2, 1) := by decide +kernel
theorem dX10_leftOf_13 : decode cX10_leftOf 13 = .ok (.aload_n 0, 1) := by decide +kernel
theorem dX10_leftOf_14 : decode cX10_leftOf 14 = .ok (.getfield 90, 3) := by decide +kernel
theorem dX10_leftOf_17 : decode cX10_leftOf 17 = .ok (.iload_n 3, 1) := by decide +kernel
theorem dX10_leftOf_18 : decode cX10_leftOf 18 = .ok (.iaload, 1) := by decide +kernel
theorem dX10_leftOf_19 : decode cX10_leftOf 19 = .ok (.iload_n 1, 1) := by decide +kernel
theorem dX10_leftOf_20 : decode cX10_leftOf 20 = .ok (.if_icmp .ne 17, 3) := by decide +kernel
theorem dX10_leftOf_23 : decode cX10_leftOf 23 = .ok (.aload_n 0, 1) := by decide +kernel
theorem dX10_leftOf_24 : decode cX10_leftOf 24 = .ok (.getfield 69, 3) := by decide +kernel
theorem dX10_leftOf_27 : decode cX10_leftOf 27 = .ok (.iload_n 3, 1) := by decide +kernel
theorem dX10_leftOf_28 : decode cX10_leftOf 28 = .ok (.iaload, 1) := by decide +kernel
theorem dX10_leftOf_29 : decode cX10_leftOf 29 = .ok (.iconst 2, 1) := by decide +kernel
theorem dX10_leftOf_30 : decode cX10_leftOf 30 = .ok (.if_icmp .ne 7, 3) := by decide +kernel
theorem dX10_leftOf_33 : decode cX10_leftOf 33 = .ok (.iconst 1, 1) := by decide +kernel
theorem dX10_leftOf_34 : decode cX10_leftOf 34 = .ok (.goto 4, 3) := by decide +kernel
theorem dX10_leftOf_37 : decode cX10_leftOf 37 = .ok (.iconst 0, 1) := by decide +kernel
theorem dX10_leftOf_38 : decode cX10_leftOf 38 = .ok (.iadd, 1) := by decide +kernel
theorem dX10_leftOf_39 : decode cX10_leftOf 39 = .ok (.istore_n 2, 1) := by decide +kernel
theorem dX10_leftOf_40 : decode cX10_leftOf 40 = .ok (.iinc 3 1, 3) := by decide +kernel
theorem dX10_leftOf_43 : decode cX10_leftOf 43 = .ok (.goto (-39), 3) := by decide +kernel
theorem dX10_leftOf_46 : decode cX10_leftOf 46 = .ok (.iload_n 2, 1) := by decide +kernel
theorem dX10_leftOf_47 : decode cX10_leftOf 47 = .ok (.ireturn, 1) := by decide +kernel
theorem dX10_canPay_0 : decode cX10_canPay 0 = .ok (.aload_n 0, 1) := by decide +kernel
theorem dX10_canPay_1 : decode cX10_canPay 1 = .ok (.getfield 39, 3) := by decide +kernel
theorem dX10_canPay_4 : decode cX10_canPay 4 = .ok (.iload_n 1, 1) := by decide +kernel
theorem dX10_canPay_5 : decode cX10_canPay 5 = .ok (.iaload, 1) := by decide +kernel
theorem dX10_canPay_6 : decode cX10_canPay 6 = .ok (.aload_n 0, 1) := by decide +kernel
theorem dX10_canPay_7 : decode cX10_canPay 7 = .ok (.getfield 45, 3) := by decide +kernel
theorem dX10_canPay_10 : decode cX10_canPay 10 = .ok (.iload_n 1, 1) := by decide +kernel
theorem dX10_canPay_11 : decode cX10_canPay 11 = .ok (.iaload, 1) := by decide +kernel
theorem dX10_canPay_12 : decode cX10_canPay 12 = .ok (.isub, 1) := by decide +kernel
theorem dX10_canPay_13 : decode cX10_canPay 13 = .ok (.iload_n 2, 1) := by decide +kernel
theorem dX10_canPay_14 : decode cX10_canPay 14 = .ok (.if_icmp .lt 7, 3) := by decide +kernel
theorem dX10_canPay_17 : decode cX10_canPay 17 = .ok (.iconst 1, 1) := by decide +kernel
theorem dX10_canPay_18 : decode cX10_canPay 18 = .ok (.goto 4, 3) := by decide +kernel
theorem dX10_canPay_21 : decode cX10_canPay 21 = .ok (.iconst 0, 1) := by decide +kernel
theorem dX10_canPay_22 : decode cX10_canPay 22 = .ok (.ireturn, 1) := by decide +kernel
theorem dX10_costOf_0 : decode cX10_costOf 0 = .ok (.iconst 0, 1) := by decide +kernel
theorem dX10_costOf_1 : decode cX10_costOf 1 = .ok (.istore 4, 2) := by decide +kernel
theorem dX10_costOf_3 : decode cX10_costOf 3 = .ok (.iconst 0, 1) := by decide +kernel
theorem dX10_costOf_4 : decode cX10_costOf 4 = .ok (.istore 5, 2) := by decide +kernel
theorem dX10_costOf_6 : decode cX10_costOf 6 = .ok (.iconst 0, 1) := by decide +kernel
theorem dX10_costOf_7 : decode cX10_costOf 7 = .ok (.istore 6, 2) := by decide +kernel
theorem dX10_costOf_9 : decode cX10_costOf 9 = .ok (.iload 6, 2) := by decide +kernel
theorem dX10_costOf_11 : decode cX10_costOf 11 = .ok (.aload_n 0, 1) := by decide +kernel
theorem dX10_costOf_12 : decode cX10_costOf 12 = .ok (.getfield 167, 3) := by decide +kernel
theorem dX10_costOf_15 : decode cX10_costOf 15 = .ok (.if_icmp .ge 82, 3) := by decide +kernel
theorem dX10_costOf_18 : decode cX10_costOf 18 = .ok (.aload_n 0, 1) := by decide +kernel
theorem dX10_costOf_19 : decode cX10_costOf 19 = .ok (.getfield 90, 3) := by decide +kernel
theorem dX10_costOf_22 : decode cX10_costOf 22 = .ok (.iload 6, 2) := by decide +kernel
theorem dX10_costOf_24 : decode cX10_costOf 24 = .ok (.iaload, 1) := by decide +kernel
theorem dX10_costOf_25 : decode cX10_costOf 25 = .ok (.iload_n 1, 1) := by decide +kernel
theorem dX10_costOf_26 : decode cX10_costOf 26 = .ok (.if_icmp .ne 24, 3) := by decide +kernel
theorem dX10_costOf_29 : decode cX10_costOf 29 = .ok (.aload_n 0, 1) := by decide +kernel
theorem dX10_costOf_30 : decode cX10_costOf 30 = .ok (.getfield 69, 3) := by decide +kernel
theorem dX10_costOf_33 : decode cX10_costOf 33 = .ok (.iload 6, 2) := by decide +kernel
theorem dX10_costOf_35 : decode cX10_costOf 35 = .ok (.iaload, 1) := by decide +kernel
theorem dX10_costOf_36 : decode cX10_costOf 36 = .ok (.iconst 2, 1) := by decide +kernel
theorem dX10_costOf_37 : decode cX10_costOf 37 = .ok (.if_icmp .ne 13, 3) := by decide +kernel
theorem dX10_costOf_40 : decode cX10_costOf 40 = .ok (.iload 5, 2) := by decide +kernel
theorem dX10_costOf_42 : decode cX10_costOf 42 = .ok (.iload_n 2, 1) := by decide +kernel
theorem dX10_costOf_43 : decode cX10_costOf 43 = .ok (.if_icmp .ge 7, 3) := by decide +kernel
theorem dX10_costOf_46 : decode cX10_costOf 46 = .ok (.iconst 1, 1) := by decide +kernel
theorem dX10_costOf_47 : decode cX10_costOf 47 = .ok (.goto 4, 3) := by decide +kernel
theorem dX10_costOf_50 : decode cX10_costOf 50 = .ok (.iconst 0, 1) := by decide +kernel
theorem dX10_costOf_51 : decode cX10_costOf 51 = .ok (.istore 7, 2) := by decide +kernel
theorem dX10_costOf_53 : decode cX10_costOf 53 = .ok (.iload 4, 2) := by decide +kernel
theorem dX10_costOf_55 : decode cX10_costOf 55 = .ok (.iload 7, 2) := by decide +kernel
theorem dX10_costOf_57 : decode cX10_costOf 57 = .ok (.ifCond .eq 15, 3) := by decide +kernel
theorem dX10_costOf_60 : decode cX10_costOf 60 = .ok (.aload_n 0, 1) := by decide +kernel
theorem dX10_costOf_61 : decode cX10_costOf 61 = .ok (.getfield 63, 3) := by decide +kernel
theorem dX10_costOf_64 : decode cX10_costOf 64 = .ok (.iload 6, 2) := by decide +kernel
theorem dX10_costOf_66 : decode cX10_costOf 66 = .ok (.iaload, 1) := by decide +kernel
theorem dX10_costOf_67 : decode cX10_costOf 67 = .ok (.iload_n 3, 1) := by decide +kernel
theorem dX10_costOf_68 : decode cX10_costOf 68 = .ok (.imul, 1) := by decide +kernel
theorem dX10_costOf_69 : decode cX10_costOf 69 = .ok (.goto 4, 3) := by decide +kernel
theorem dX10_costOf_72 : decode cX10_costOf 72 = .ok (.iconst 0, 1) := by decide +kernel
theorem dX10_costOf_73 : decode cX10_costOf 73 = .ok (.iadd, 1) := by decide +kernel
theorem dX10_costOf_74 : decode cX10_costOf 74 = .ok (.istore 4, 2) := by decide +kernel
theorem dX10_costOf_76 : decode cX10_costOf 76 = .ok (.iload 5, 2) := by decide +kernel
theorem dX10_costOf_78 : decode cX10_costOf 78 = .ok (.iload 7, 2) := by decide +kernel
theorem dX10_costOf_80 : decode cX10_costOf 80 = .ok (.ifCond .eq 7, 3) := by decide +kernel
theorem dX10_costOf_83 : decode cX10_costOf 83 = .ok (.iconst 1, 1) := by decide +kernel
theorem dX10_costOf_84 : decode cX10_costOf 84 = .ok (.goto 4, 3) := by decide +kernel
theorem dX10_costOf_87 : decode cX10_costOf 87 = .ok (.iconst 0, 1) := by decide +kernel
theorem dX10_costOf_88 : decode cX10_costOf 88 = .ok (.iadd, 1) := by decide +kernel
theorem dX10_costOf_89 : decode cX10_costOf 89 = .ok (.istore 5, 2) := by decide +kernel
theorem dX10_costOf_91 : decode cX10_costOf 91 = .ok (.iinc 6 1, 3) := by decide +kernel
theorem dX10_costOf_94 : decode cX10_costOf 94 = .ok (.goto (-85), 3) := by decide +kernel
theorem dX10_costOf_97 : decode cX10_costOf 97 = .ok (.iload 4, 2) := by decide +kernel
theorem dX10_costOf_99 : decode cX10_costOf 99 = .ok (.ireturn, 1) := by decide +kernel
theorem dX10_gets_0 : decode cX10_gets 0 = .ok (.iconst 0, 1) := by decide +kernel
theorem dX10_gets_1 : decode cX10_gets 1 = .ok (.istore_n 3, 1) := by decide +kernel
theorem dX10_gets_2 : decode cX10_gets 2 = .ok (.iload_n 3, 1) := by decide +kernel
theorem dX10_gets_3 : decode cX10_gets 3 = .ok (.iload_n 2, 1) := by decide +kernel
theorem dX10_gets_4 : decode cX10_gets 4 = .ok (.if_icmp .ge 134, 3) := by decide +kernel
theorem dX10_gets_7 : decode cX10_gets 7 = .ok (.aload_n 0, 1) := by decide +kernel
theorem dX10_gets_8 : decode cX10_gets 8 = .ok (.aload_n 0, 1) := by decide +kernel
theorem dX10_gets_9 : decode cX10_gets 9 = .ok (.getfield 120, 3) := by decide +kernel
theorem dX10_gets_12 : decode cX10_gets 12 = .ok (.iload_n 1, 1) := by decide +kernel
theorem dX10_gets_13 : decode cX10_gets 13 = .ok (.iaload, 1) := by decide +kernel
theorem dX10_gets_14 : decode cX10_gets 14 = .ok (.invokevirtual 227, 3) := by decide +kernel
theorem dX10_gets_17 : decode cX10_gets 17 = .ok (.istore 4, 2) := by decide +kernel
theorem dX10_gets_19 : decode cX10_gets 19 = .ok (.aload_n 0, 1) := by decide +kernel
theorem dX10_gets_20 : decode cX10_gets 20 = .ok (.getfield 69, 3) := by decide +kernel
theorem dX10_gets_23 : decode cX10_gets 23 = .ok (.iload 4, 2) := by decide +kernel
theorem dX10_gets_25 : decode cX10_gets 25 = .ok (.iconst 3, 1) := by decide +kernel
theorem dX10_gets_26 : decode cX10_gets 26 = .ok (.iastore, 1) := by decide +kernel
theorem dX10_gets_27 : decode cX10_gets 27 = .ok (.aload_n 0, 1) := by decide +kernel
theorem dX10_gets_28 : decode cX10_gets 28 = .ok (.getfield 75, 3) := by decide +kernel
theorem dX10_gets_31 : decode cX10_gets 31 = .ok (.iload 4, 2) := by decide +kernel
theorem dX10_gets_33 : decode cX10_gets 33 = .ok (.aload_n 0, 1) := by decide +kernel
theorem dX10_gets_34 : decode cX10_gets 34 = .ok (.getfield 129, 3) := by decide +kernel
theorem dX10_gets_37 : decode cX10_gets 37 = .ok (.iload_n 1, 1) := by decide +kernel
theorem dX10_gets_38 : decode cX10_gets 38 = .ok (.iaload, 1) := by decide +kernel
theorem dX10_gets_39 : decode cX10_gets 39 = .ok (.iastore, 1) := by decide +kernel
theorem dX10_gets_40 : decode cX10_gets 40 = .ok (.aload_n 0, 1) := by decide +kernel
theorem dX10_gets_41 : decode cX10_gets 41 = .ok (.getfield 78, 3) := by decide +kernel
theorem dX10_gets_44 : decode cX10_gets 44 = .ok (.iload 4, 2) := by decide +kernel
theorem dX10_gets_46 : decode cX10_gets 46 = .ok (.aload_n 0, 1) := by decide +kernel
theorem dX10_gets_47 : decode cX10_gets 47 = .ok (.getfield 123, 3) := by decide +kernel
theorem dX10_gets_50 : decode cX10_gets 50 = .ok (.iload_n 1, 1) := by decide +kernel
theorem dX10_gets_51 : decode cX10_gets 51 = .ok (.iaload, 1) := by decide +kernel
theorem dX10_gets_52 : decode cX10_gets 52 = .ok (.iastore, 1) := by decide +kernel
theorem dX10_gets_53 : decode cX10_gets 53 = .ok (.aload_n 0, 1) := by decide +kernel
theorem dX10_gets_54 : decode cX10_gets 54 = .ok (.getfield 81, 3) := by decide +kernel
theorem dX10_gets_57 : decode cX10_gets 57 = .ok (.iload 4, 2) := by decide +kernel
theorem dX10_gets_59 : decode cX10_gets 59 = .ok (.aload_n 0, 1) := by decide +kernel
theorem dX10_gets_60 : decode cX10_gets 60 = .ok (.getfield 224, 3) := by decide +kernel
theorem dX10_gets_63 : decode cX10_gets 63 = .ok (.iastore, 1) := by decide +kernel
theorem dX10_gets_64 : decode cX10_gets 64 = .ok (.aload_n 0, 1) := by decide +kernel
theorem dX10_gets_65 : decode cX10_gets 65 = .ok (.getfield 84, 3) := by decide +kernel
theorem dX10_gets_68 : decode cX10_gets 68 = .ok (.iload 4, 2) := by decide +kernel
theorem dX10_gets_70 : decode cX10_gets 70 = .ok (.aload_n 0, 1) := by decide +kernel
theorem dX10_gets_71 : decode cX10_gets 71 = .ok (.getfield 221, 3) := by decide +kernel
theorem dX10_gets_74 : decode cX10_gets 74 = .ok (.iastore, 1) := by decide +kernel
theorem dX10_gets_75 : decode cX10_gets 75 = .ok (.aload_n 0, 1) := by decide +kernel
theorem dX10_gets_76 : decode cX10_gets 76 = .ok (.getfield 45, 3) := by decide +kernel
theorem dX10_gets_79 : decode cX10_gets 79 = .ok (.aload_n 0, 1) := by decide +kernel
theorem dX10_gets_80 : decode cX10_gets 80 = .ok (.getfield 129, 3) := by decide +kernel
theorem dX10_gets_83 : decode cX10_gets 83 = .ok (.iload_n 1, 1) := by decide +kernel
theorem dX10_gets_84 : decode cX10_gets 84 = .ok (.iaload, 1) := by decide +kernel
theorem dX10_gets_85 : decode cX10_gets 85 = .ok (.dup2, 1) := by decide +kernel
theorem dX10_gets_86 : decode cX10_gets 86 = .ok (.iaload, 1) := by decide +kernel
theorem dX10_gets_87 : decode cX10_gets 87 = .ok (.aload_n 0, 1) := by decide +kernel
theorem dX10_gets_88 : decode cX10_gets 88 = .ok (.getfield 63, 3) := by decide +kernel
theorem dX10_gets_91 : decode cX10_gets 91 = .ok (.iload 4, 2) := by decide +kernel
theorem dX10_gets_93 : decode cX10_gets 93 = .ok (.iaload, 1) := by decide +kernel
theorem dX10_gets_94 : decode cX10_gets 94 = .ok (.aload_n 0, 1) := by decide +kernel
theorem dX10_gets_95 : decode cX10_gets 95 = .ok (.getfield 123, 3) := by decide +kernel
theorem dX10_gets_98 : decode cX10_gets 98 = .ok (.iload_n 1, 1) := by decide +kernel
theorem dX10_gets_99 : decode cX10_gets 99 = .ok (.iaload, 1) := by decide +kernel
theorem dX10_gets_100 : decode cX10_gets 100 = .ok (.imul, 1) := by decide +kernel
theorem dX10_gets_101 : decode cX10_gets 101 = .ok (.iadd, 1) := by decide +kernel
theorem dX10_gets_102 : decode cX10_gets 102 = .ok (.iastore, 1) := by decide +kernel
theorem dX10_gets_103 : decode cX10_gets 103 = .ok (.aload_n 0, 1) := by decide +kernel
theorem dX10_gets_104 : decode cX10_gets 104 = .ok (.getfield 27, 3) := by decide +kernel
theorem dX10_gets_107 : decode cX10_gets 107 = .ok (.aload_n 0, 1) := by decide +kernel
theorem dX10_gets_108 : decode cX10_gets 108 = .ok (.getfield 51, 3) := by decide +kernel
theorem dX10_gets_111 : decode cX10_gets 111 = .ok (.iload 4, 2) := by decide +kernel
theorem dX10_gets_113 : decode cX10_gets 113 = .ok (.iaload, 1) := by decide +kernel
theorem dX10_gets_114 : decode cX10_gets 114 = .ok (.dup2, 1) := by decide +kernel
theorem dX10_gets_115 : decode cX10_gets 115 = .ok (.iaload, 1) := by decide +kernel
theorem dX10_gets_116 : decode cX10_gets 116 = .ok (.aload_n 0, 1) := by decide +kernel
theorem dX10_gets_117 : decode cX10_gets 117 = .ok (.getfield 63, 3) := by decide +kernel
theorem dX10_gets_120 : decode cX10_gets 120 = .ok (.iload 4, 2) := by decide +kernel
theorem dX10_gets_122 : decode cX10_gets 122 = .ok (.iaload, 1) := by decide +kernel
theorem dX10_gets_123 : decode cX10_gets 123 = .ok (.aload_n 0, 1) := by decide +kernel
theorem dX10_gets_124 : decode cX10_gets 124 = .ok (.getfield 123, 3) := by decide +kernel
theorem dX10_gets_127 : decode cX10_gets 127 = .ok (.iload_n 1, 1) := by decide +kernel
theorem dX10_gets_128 : decode cX10_gets 128 = .ok (.iaload, 1) := by decide +kernel
theorem dX10_gets_129 : decode cX10_gets 129 = .ok (.imul, 1) := by decide +kernel
theorem dX10_gets_130 : decode cX10_gets 130 = .ok (.iadd, 1) := by decide +kernel
theorem dX10_gets_131 : decode cX10_gets 131 = .ok (.iastore, 1) := by decide +kernel
theorem dX10_gets_132 : decode cX10_gets 132 = .ok (.iinc 3 1, 3) := by decide +kernel
theorem dX10_gets_135 : decode cX10_gets 135 = .ok (.goto (-133), 3) := by decide +kernel
theorem dX10_gets_138 : decode cX10_gets 138 = .ok (.aload_n 0, 1) := by decide +kernel
theorem dX10_gets_139 : decode cX10_gets 139 = .ok (.aload_n 0, 1) := by decide +kernel
theorem dX10_gets_140 : decode cX10_gets 140 = .ok (.getfield 120, 3) := by decide +kernel
theorem dX10_gets_143 : decode cX10_gets 143 = .ok (.iload_n 1, 1) := by decide +kernel
theorem dX10_gets_144 : decode cX10_gets 144 = .ok (.iaload, 1) := by decide +kernel
theorem dX10_gets_145 : decode cX10_gets 145 = .ok (.invokevirtual 230, 3) := by decide +kernel
theorem dX10_gets_148 : decode cX10_gets 148 = .ok (.ifCond .ne 11, 3) := by decide +kernel
theorem dX10_gets_151 : decode cX10_gets 151 = .ok (.aload_n 0, 1) := by decide +kernel
theorem dX10_gets_152 : decode cX10_gets 152 = .ok (.iload_n 1, 1) := by decide +kernel
theorem dX10_gets_153 : decode cX10_gets 153 = .ok (.invokevirtual 233, 3) := by decide +kernel
theorem dX10_gets_156 : decode cX10_gets 156 = .ok (.goto 22, 3) := by decide +kernel
theorem dX10_gets_159 : decode cX10_gets 159 = .ok (.aload_n 0, 1) := by decide +kernel
theorem dX10_gets_160 : decode cX10_gets 160 = .ok (.getfield 117, 3) := by decide +kernel
theorem dX10_gets_163 : decode cX10_gets 163 = .ok (.iload_n 1, 1) := by decide +kernel
theorem dX10_gets_164 : decode cX10_gets 164 = .ok (.iconst 1, 1) := by decide +kernel
theorem dX10_gets_165 : decode cX10_gets 165 = .ok (.iastore, 1) := by decide +kernel
theorem dX10_gets_166 : decode cX10_gets 166 = .ok (.aload_n 0, 1) := by decide +kernel
theorem dX10_gets_167 : decode cX10_gets 167 = .ok (.getfield 129, 3) := by decide +kernel
theorem dX10_gets_170 : decode cX10_gets 170 = .ok (.iload_n 1, 1) := by decide +kernel
theorem dX10_gets_171 : decode cX10_gets 171 = .ok (.iconst (-1), 1) := by decide +kernel
theorem dX10_gets_172 : decode cX10_gets 172 = .ok (.iastore, 1) := by decide +kernel
theorem dX10_gets_173 : decode cX10_gets 173 = .ok (.aload_n 0, 1) := by decide +kernel
theorem dX10_gets_174 : decode cX10_gets 174 = .ok (.iload_n 1, 1) := by decide +kernel
theorem dX10_gets_175 : decode cX10_gets 175 = .ok (.invokevirtual 156, 3) := by decide +kernel
theorem dX10_gets_178 : decode cX10_gets 178 = .ok (.return_, 1) := by decide +kernel
theorem dX10_take_0 : decode cX10_take 0 = .ok (.iload_n 1, 1) := by decide +kernel
theorem dX10_take_1 : decode cX10_take 1 = .ok (.invokestatic 170, 3) := by decide +kernel
theorem dX10_take_4 : decode cX10_take 4 = .ok (.ifCond .eq 14, 3) := by decide +kernel
theorem dX10_take_7 : decode cX10_take 7 = .ok (.iload_n 2, 1) := by decide +kernel
theorem dX10_take_8 : decode cX10_take 8 = .ok (.invokestatic 181, 3) := by decide +kernel
theorem dX10_take_11 : decode cX10_take 11 = .ok (.ifCond .eq 7, 3) := by decide +kernel
theorem dX10_take_14 : decode cX10_take 14 = .ok (.iconst 1, 1) := by decide +kernel
theorem dX10_take_15 : decode cX10_take 15 = .ok (.goto 4, 3) := by decide +kernel
theorem dX10_take_18 : decode cX10_take 18 = .ok (.iconst 0, 1) := by decide +kernel
theorem dX10_take_19 : decode cX10_take 19 = .ok (.istore 4, 2) := by decide +kernel
theorem dX10_take_21 : decode cX10_take 21 = .ok (.iload 4, 2) := by decide +kernel
theorem dX10_take_23 : decode cX10_take 23 = .ok (.ifCond .eq 36, 3) := by decide +kernel
theorem dX10_take_26 : decode cX10_take 26 = .ok (.aload_n 0, 1) := by decide +kernel
theorem dX10_take_27 : decode cX10_take 27 = .ok (.getfield 117, 3) := by decide +kernel
theorem dX10_take_30 : decode cX10_take 30 = .ok (.iload_n 2, 1) := by decide +kernel
theorem dX10_take_31 : decode cX10_take 31 = .ok (.iaload, 1) := by decide +kernel
theorem dX10_take_32 : decode cX10_take 32 = .ok (.iconst 3, 1) := by decide +kernel
theorem dX10_take_33 : decode cX10_take 33 = .ok (.if_icmp .ne 26, 3) := by decide +kernel
theorem dX10_take_36 : decode cX10_take 36 = .ok (.aload_n 0, 1) := by decide +kernel
theorem dX10_take_37 : decode cX10_take 37 = .ok (.getfield 114, 3) := by decide +kernel
theorem dX10_take_40 : decode cX10_take 40 = .ok (.iload_n 2, 1) := by decide +kernel
theorem dX10_take_41 : decode cX10_take 41 = .ok (.baload, 1) := by decide +kernel
theorem dX10_take_42 : decode cX10_take 42 = .ok (.ifCond .eq 17, 3) := by decide +kernel
theorem dX10_take_45 : decode cX10_take 45 = .ok (.aload_n 0, 1) := by decide +kernel
theorem dX10_take_46 : decode cX10_take 46 = .ok (.getfield 129, 3) := by decide +kernel
theorem dX10_take_49 : decode cX10_take 49 = .ok (.iload_n 2, 1) := by decide +kernel
theorem dX10_take_50 : decode cX10_take 50 = .ok (.iaload, 1) := by decide +kernel
theorem dX10_take_51 : decode cX10_take 51 = .ok (.iload_n 1, 1) := by decide +kernel
theorem dX10_take_52 : decode cX10_take 52 = .ok (.if_icmp .ne 7, 3) := by decide +kernel
theorem dX10_take_55 : decode cX10_take 55 = .ok (.iconst 1, 1) := by decide +kernel
theorem dX10_take_56 : decode cX10_take 56 = .ok (.goto 4, 3) := by decide +kernel
theorem dX10_take_59 : decode cX10_take 59 = .ok (.iconst 0, 1) := by decide +kernel
theorem dX10_take_60 : decode cX10_take 60 = .ok (.istore 5, 2) := by decide +kernel
theorem dX10_take_62 : decode cX10_take 62 = .ok (.iload 5, 2) := by decide +kernel
theorem dX10_take_64 : decode cX10_take 64 = .ok (.ifCond .eq 50, 3) := by decide +kernel
theorem dX10_take_67 : decode cX10_take 67 = .ok (.iload_n 3, 1) := by decide +kernel
theorem dX10_take_68 : decode cX10_take 68 = .ok (.iconst 1, 1) := by decide +kernel
theorem dX10_take_69 : decode cX10_take 69 = .ok (.aload_n 0, 1) := by decide +kernel
theorem dX10_take_70 : decode cX10_take 70 = .ok (.aload_n 0, 1) := by decide +kernel
theorem dX10_take_71 : decode cX10_take 71 = .ok (.getfield 120, 3) := by decide +kernel
theorem dX10_take_74 : decode cX10_take 74 = .ok (.iload_n 2, 1) := by decide +kernel
theorem dX10_take_75 : decode cX10_take 75 = .ok (.iaload, 1) := by decide +kernel
theorem dX10_take_76 : decode cX10_take 76 = .ok (.invokevirtual 230, 3) := by decide +kernel
theorem dX10_take_79 : decode cX10_take 79 = .ok (.invokestatic 163, 3) := by decide +kernel
theorem dX10_take_82 : decode cX10_take 82 = .ok (.ifCond .eq 32, 3) := by decide +kernel
theorem dX10_take_85 : decode cX10_take 85 = .ok (.aload_n 0, 1) := by decide +kernel
theorem dX10_take_86 : decode cX10_take 86 = .ok (.iload_n 1, 1) := by decide +kernel
theorem dX10_take_87 : decode cX10_take 87 = .ok (.aload_n 0, 1) := by decide +kernel
theorem dX10_take_88 : decode cX10_take 88 = .ok (.aload_n 0, 1) := by decide +kernel
theorem dX10_take_89 : decode cX10_take 89 = .ok (.getfield 120, 3) := by decide +kernel
theorem dX10_take_92 : decode cX10_take 92 = .ok (.iload_n 2, 1) := by decide +kernel
theorem dX10_take_93 : decode cX10_take 93 = .ok (.iaload, 1) := by decide +kernel
theorem dX10_take_94 : decode cX10_take 94 = .ok (.iload_n 3, 1) := by decide +kernel
theorem dX10_take_95 : decode cX10_take 95 = .ok (.aload_n 0, 1) := by decide +kernel
theorem dX10_take_96 : decode cX10_take 96 = .ok (.getfield 123, 3) := by decide +kernel
theorem dX10_take_99 : decode cX10_take 99 = .ok (.iload_n 2, 1) := by decide +kernel
theorem dX10_take_100 : decode cX10_take 100 = .ok (.iaload, 1) := by decide +kernel
theorem dX10_take_101 : decode cX10_take 101 = .ok (.invokevirtual 236, 3) := by decide +kernel
theorem dX10_take_104 : decode cX10_take 104 = .ok (.invokevirtual 240, 3) := by decide +kernel
theorem dX10_take_107 : decode cX10_take 107 = .ok (.ifCond .eq 7, 3) := by decide +kernel
theorem dX10_take_110 : decode cX10_take 110 = .ok (.iconst 1, 1) := by decide +kernel
theorem dX10_take_111 : decode cX10_take 111 = .ok (.goto 4, 3) := by decide +kernel
theorem dX10_take_114 : decode cX10_take 114 = .ok (.iconst 0, 1) := by decide +kernel
theorem dX10_take_115 : decode cX10_take 115 = .ok (.istore 6, 2) := by decide +kernel
theorem dX10_take_117 : decode cX10_take 117 = .ok (.aload_n 0, 1) := by decide +kernel
theorem dX10_take_118 : decode cX10_take 118 = .ok (.iload 4, 2) := by decide +kernel
theorem dX10_take_120 : decode cX10_take 120 = .ok (.ifCond .ne 7, 3) := by decide +kernel
theorem dX10_take_123 : decode cX10_take 123 = .ok (.iconst 1, 1) := by decide +kernel
theorem dX10_take_124 : decode cX10_take 124 = .ok (.goto 13, 3) := by decide +kernel
theorem dX10_take_127 : decode cX10_take 127 = .ok (.iload 6, 2) := by decide +kernel
theorem dX10_take_129 : decode cX10_take 129 = .ok (.ifCond .eq 7, 3) := by decide +kernel
theorem dX10_take_132 : decode cX10_take 132 = .ok (.iconst 0, 1) := by decide +kernel
theorem dX10_take_133 : decode cX10_take 133 = .ok (.goto 4, 3) := by decide +kernel
theorem dX10_take_136 : decode cX10_take 136 = .ok (.iconst 2, 1) := by decide +kernel
theorem dX10_take_137 : decode cX10_take 137 = .ok (.invokevirtual 178, 3) := by decide +kernel
theorem dX10_take_140 : decode cX10_take 140 = .ok (.ifCond .eq 5, 3) := by decide +kernel
theorem dX10_take_143 : decode cX10_take 143 = .ok (.iconst 0, 1) := by decide +kernel
theorem dX10_take_144 : decode cX10_take 144 = .ok (.ireturn, 1) := by decide +kernel
theorem dX10_take_145 : decode cX10_take 145 = .ok (.aload_n 0, 1) := by decide +kernel
theorem dX10_take_146 : decode cX10_take 146 = .ok (.aload_n 0, 1) := by decide +kernel
theorem dX10_take_147 : decode cX10_take 147 = .ok (.getfield 120, 3) := by decide +kernel
theorem dX10_take_150 : decode cX10_take 150 = .ok (.iload_n 2, 1) := by decide +kernel
theorem dX10_take_151 : decode cX10_take 151 = .ok (.iaload, 1) := by decide +kernel
theorem dX10_take_152 : decode cX10_take 152 = .ok (.iload_n 3, 1) := by decide +kernel
theorem dX10_take_153 : decode cX10_take 153 = .ok (.aload_n 0, 1) := by decide +kernel
theorem dX10_take_154 : decode cX10_take 154 = .ok (.getfield 123, 3) := by decide +kernel
theorem dX10_take_157 : decode cX10_take 157 = .ok (.iload_n 2, 1) := by decide +kernel
theorem dX10_take_158 : decode cX10_take 158 = .ok (.iaload, 1) := by decide +kernel
theorem dX10_take_159 : decode cX10_take 159 = .ok (.invokevirtual 236, 3) := by decide +kernel
theorem dX10_take_162 : decode cX10_take 162 = .ok (.istore 7, 2) := by decide +kernel
theorem dX10_take_164 : decode cX10_take 164 = .ok (.aload_n 0, 1) := by decide +kernel
theorem dX10_take_165 : decode cX10_take 165 = .ok (.iload_n 2, 1) := by decide +kernel
theorem dX10_take_166 : decode cX10_take 166 = .ok (.iload_n 3, 1) := by decide +kernel
theorem dX10_take_167 : decode cX10_take 167 = .ok (.invokevirtual 244, 3) := by decide +kernel
theorem dX10_take_170 : decode cX10_take 170 = .ok (.iload 7, 2) := by decide +kernel
theorem dX10_take_172 : decode cX10_take 172 = .ok (.ireturn, 1) := by decide +kernel
theorem dX10_hears_0 : decode cX10_hears 0 = .ok (.iconst 0, 1) := by decide +kernel
theorem dX10_hears_1 : decode cX10_hears 1 = .ok (.istore_n 2, 1) := by decide +kernel
theorem dX10_hears_2 : decode cX10_hears 2 = .ok (.bipush 8, 2) := by decide +kernel
theorem dX10_hears_4 : decode cX10_hears 4 = .ok (.iload_n 1, 1) := by decide +kernel
theorem dX10_hears_5 : decode cX10_hears 5 = .ok (.imul, 1) := by decide +kernel
theorem dX10_hears_6 : decode cX10_hears 6 = .ok (.istore_n 3, 1) := by decide +kernel
theorem dX10_hears_7 : decode cX10_hears 7 = .ok (.iload_n 3, 1) := by decide +kernel
theorem dX10_hears_8 : decode cX10_hears 8 = .ok (.bipush 8, 2) := by decide +kernel
theorem dX10_hears_10 : decode cX10_hears 10 = .ok (.iload_n 1, 1) := by decide +kernel
theorem dX10_hears_11 : decode cX10_hears 11 = .ok (.imul, 1) := by decide +kernel
theorem dX10_hears_12 : decode cX10_hears 12 = .ok (.bipush 8, 2) := by decide +kernel
theorem dX10_hears_14 : decode cX10_hears 14 = .ok (.iadd, 1) := by decide +kernel
theorem dX10_hears_15 : decode cX10_hears 15 = .ok (.if_icmp .ge 50, 3) := by decide +kernel
theorem dX10_hears_18 : decode cX10_hears 18 = .ok (.aload_n 0, 1) := by decide +kernel
theorem dX10_hears_19 : decode cX10_hears 19 = .ok (.getfield 132, 3) := by decide +kernel
theorem dX10_hears_22 : decode cX10_hears 22 = .ok (.iload_n 3, 1) := by decide +kernel
theorem dX10_hears_23 : decode cX10_hears 23 = .ok (.iaload, 1) := by decide +kernel
theorem dX10_hears_24 : decode cX10_hears 24 = .ok (.iconst (-1), 1) := by decide +kernel
theorem dX10_hears_25 : decode cX10_hears 25 = .ok (.if_icmp .eq 34, 3) := by decide +kernel
theorem dX10_hears_28 : decode cX10_hears 28 = .ok (.aload_n 0, 1) := by decide +kernel
theorem dX10_hears_29 : decode cX10_hears 29 = .ok (.getfield 141, 3) := by decide +kernel
theorem dX10_hears_32 : decode cX10_hears 32 = .ok (.iload_n 3, 1) := by decide +kernel
theorem dX10_hears_33 : decode cX10_hears 33 = .ok (.baload, 1) := by decide +kernel
theorem dX10_hears_34 : decode cX10_hears 34 = .ok (.ifCond .ne 25, 3) := by decide +kernel
theorem dX10_hears_37 : decode cX10_hears 37 = .ok (.aload_n 0, 1) := by decide +kernel
theorem dX10_hears_38 : decode cX10_hears 38 = .ok (.getfield 135, 3) := by decide +kernel
theorem dX10_hears_41 : decode cX10_hears 41 = .ok (.iload_n 3, 1) := by decide +kernel
theorem dX10_hears_42 : decode cX10_hears 42 = .ok (.iaload, 1) := by decide +kernel
theorem dX10_hears_43 : decode cX10_hears 43 = .ok (.aload_n 0, 1) := by decide +kernel
theorem dX10_hears_44 : decode cX10_hears 44 = .ok (.getfield 224, 3) := by decide +kernel
theorem dX10_hears_47 : decode cX10_hears 47 = .ok (.if_icmp .gt 12, 3) := by decide +kernel
theorem dX10_hears_50 : decode cX10_hears 50 = .ok (.aload_n 0, 1) := by decide +kernel
theorem dX10_hears_51 : decode cX10_hears 51 = .ok (.getfield 141, 3) := by decide +kernel
theorem dX10_hears_54 : decode cX10_hears 54 = .ok (.iload_n 3, 1) := by decide +kernel
theorem dX10_hears_55 : decode cX10_hears 55 = .ok (.iconst 1, 1) := by decide +kernel
theorem dX10_hears_56 : decode cX10_hears 56 = .ok (.bastore, 1) := by decide +kernel
theorem dX10_hears_57 : decode cX10_hears 57 = .ok (.iconst 1, 1) := by decide +kernel
theorem dX10_hears_58 : decode cX10_hears 58 = .ok (.istore_n 2, 1) := by decide +kernel
theorem dX10_hears_59 : decode cX10_hears 59 = .ok (.iinc 3 1, 3) := by decide +kernel
theorem dX10_hears_62 : decode cX10_hears 62 = .ok (.goto (-55), 3) := by decide +kernel
theorem dX10_hears_65 : decode cX10_hears 65 = .ok (.iload_n 2, 1) := by decide +kernel
theorem dX10_hears_66 : decode cX10_hears 66 = .ok (.ireturn, 1) := by decide +kernel
theorem dX10_slowest_0 : decode cX10_slowest 0 = .ok (.iconst 0, 1) := by decide +kernel
theorem dX10_slowest_1 : decode cX10_slowest 1 = .ok (.istore_n 1, 1) := by decide +kernel
theorem dX10_slowest_2 : decode cX10_slowest 2 = .ok (.iconst 0, 1) := by decide +kernel
theorem dX10_slowest_3 : decode cX10_slowest 3 = .ok (.istore_n 2, 1) := by decide +kernel
theorem dX10_slowest_4 : decode cX10_slowest 4 = .ok (.iload_n 2, 1) := by decide +kernel
theorem dX10_slowest_5 : decode cX10_slowest 5 = .ok (.bipush 8, 2) := by decide +kernel
theorem dX10_slowest_7 : decode cX10_slowest 7 = .ok (.if_icmp .ge 30, 3) := by decide +kernel
theorem dX10_slowest_10 : decode cX10_slowest 10 = .ok (.aload_n 0, 1) := by decide +kernel
theorem dX10_slowest_11 : decode cX10_slowest 11 = .ok (.getfield 42, 3) := by decide +kernel
theorem dX10_slowest_14 : decode cX10_slowest 14 = .ok (.iload_n 2, 1) := by decide +kernel
theorem dX10_slowest_15 : decode cX10_slowest 15 = .ok (.iaload, 1) := by decide +kernel
theorem dX10_slowest_16 : decode cX10_slowest 16 = .ok (.iload_n 1, 1) := by decide +kernel
theorem dX10_slowest_17 : decode cX10_slowest 17 = .ok (.if_icmp .le 12, 3) := by decide +kernel
theorem dX10_slowest_20 : decode cX10_slowest 20 = .ok (.aload_n 0, 1) := by decide +kernel
theorem dX10_slowest_21 : decode cX10_slowest 21 = .ok (.getfield 42, 3) := by decide +kernel
theorem dX10_slowest_24 : decode cX10_slowest 24 = .ok (.iload_n 2, 1) := by decide +kernel
theorem dX10_slowest_25 : decode cX10_slowest 25 = .ok (.iaload, 1) := by decide +kernel
theorem dX10_slowest_26 : decode cX10_slowest 26 = .ok (.goto 4, 3) := by decide +kernel
theorem dX10_slowest_29 : decode cX10_slowest 29 = .ok (.iload_n 1, 1) := by decide +kernel
theorem dX10_slowest_30 : decode cX10_slowest 30 = .ok (.istore_n 1, 1) := by decide +kernel
theorem dX10_slowest_31 : decode cX10_slowest 31 = .ok (.iinc 2 1, 3) := by decide +kernel
theorem dX10_slowest_34 : decode cX10_slowest 34 = .ok (.goto (-30), 3) := by decide +kernel
theorem dX10_slowest_37 : decode cX10_slowest 37 = .ok (.iload_n 1, 1) := by decide +kernel
theorem dX10_slowest_38 : decode cX10_slowest 38 = .ok (.ireturn, 1) := by decide +kernel
theorem dX10_falls_0 : decode cX10_falls 0 = .ok (.aload_n 0, 1) := by decide +kernel
theorem dX10_falls_1 : decode cX10_falls 1 = .ok (.iload_n 1, 1) := by decide +kernel
theorem dX10_falls_2 : decode cX10_falls 2 = .ok (.invokevirtual 248, 3) := by decide +kernel
theorem dX10_falls_5 : decode cX10_falls 5 = .ok (.ifCond .eq 26, 3) := by decide +kernel
theorem dX10_falls_8 : decode cX10_falls 8 = .ok (.aload_n 0, 1) := by decide +kernel
theorem dX10_falls_9 : decode cX10_falls 9 = .ok (.getfield 117, 3) := by decide +kernel
theorem dX10_falls_12 : decode cX10_falls 12 = .ok (.iload_n 1, 1) := by decide +kernel
theorem dX10_falls_13 : decode cX10_falls 13 = .ok (.iconst 2, 1) := by decide +kernel
theorem dX10_falls_14 : decode cX10_falls 14 = .ok (.iastore, 1) := by decide +kernel
theorem dX10_falls_15 : decode cX10_falls 15 = .ok (.aload_n 0, 1) := by decide +kernel
theorem dX10_falls_16 : decode cX10_falls 16 = .ok (.getfield 126, 3) := by decide +kernel
theorem dX10_falls_19 : decode cX10_falls 19 = .ok (.iload_n 1, 1) := by decide +kernel
theorem dX10_falls_20 : decode cX10_falls 20 = .ok (.aload_n 0, 1) := by decide +kernel
theorem dX10_falls_21 : decode cX10_falls 21 = .ok (.getfield 224, 3) := by decide +kernel
theorem dX10_falls_24 : decode cX10_falls 24 = .ok (.aload_n 0, 1) := by decide +kernel
theorem dX10_falls_25 : decode cX10_falls 25 = .ok (.invokevirtual 251, 3) := by decide +kernel
theorem dX10_falls_28 : decode cX10_falls 28 = .ok (.iadd, 1) := by decide +kernel
theorem dX10_falls_29 : decode cX10_falls 29 = .ok (.iastore, 1) := by decide +kernel
theorem dX10_falls_30 : decode cX10_falls 30 = .ok (.return_, 1) := by decide +kernel
theorem dX10_falls_31 : decode cX10_falls 31 = .ok (.aload_n 0, 1) := by decide +kernel
theorem dX10_falls_32 : decode cX10_falls 32 = .ok (.getfield 120, 3) := by decide +kernel
theorem dX10_falls_35 : decode cX10_falls 35 = .ok (.iload_n 1, 1) := by decide +kernel
theorem dX10_falls_36 : decode cX10_falls 36 = .ok (.iaload, 1) := by decide +kernel
theorem dX10_falls_37 : decode cX10_falls 37 = .ok (.istore_n 2, 1) := by decide +kernel
theorem dX10_falls_38 : decode cX10_falls 38 = .ok (.aload_n 0, 1) := by decide +kernel
theorem dX10_falls_39 : decode cX10_falls 39 = .ok (.getfield 123, 3) := by decide +kernel
theorem dX10_falls_42 : decode cX10_falls 42 = .ok (.iload_n 1, 1) := by decide +kernel
theorem dX10_falls_43 : decode cX10_falls 43 = .ok (.dup2, 1) := by decide +kernel
theorem dX10_falls_44 : decode cX10_falls 44 = .ok (.iaload, 1) := by decide +kernel
theorem dX10_falls_45 : decode cX10_falls 45 = .ok (.aload_n 0, 1) := by decide +kernel
theorem dX10_falls_46 : decode cX10_falls 46 = .ok (.getfield 111, 3) := by decide +kernel
theorem dX10_falls_49 : decode cX10_falls 49 = .ok (.iload_n 1, 1) := by decide +kernel
theorem dX10_falls_50 : decode cX10_falls 50 = .ok (.iaload, 1) := by decide +kernel
theorem dX10_falls_51 : decode cX10_falls 51 = .ok (.isub, 1) := by decide +kernel
theorem dX10_falls_52 : decode cX10_falls 52 = .ok (.iastore, 1) := by decide +kernel
theorem dX10_falls_53 : decode cX10_falls 53 = .ok (.aload_n 0, 1) := by decide +kernel
theorem dX10_falls_54 : decode cX10_falls 54 = .ok (.getfield 123, 3) := by decide +kernel
theorem dX10_falls_57 : decode cX10_falls 57 = .ok (.iload_n 1, 1) := by decide +kernel
theorem dX10_falls_58 : decode cX10_falls 58 = .ok (.iaload, 1) := by decide +kernel
theorem dX10_falls_59 : decode cX10_falls 59 = .ok (.aload_n 0, 1) := by decide +kernel
theorem dX10_falls_60 : decode cX10_falls 60 = .ok (.getfield 33, 3) := by decide +kernel
theorem dX10_falls_63 : decode cX10_falls 63 = .ok (.aload_n 0, 1) := by decide +kernel
theorem dX10_falls_64 : decode cX10_falls 64 = .ok (.getfield 96, 3) := by decide +kernel
theorem dX10_falls_67 : decode cX10_falls 67 = .ok (.iload_n 2, 1) := by decide +kernel
theorem dX10_falls_68 : decode cX10_falls 68 = .ok (.iaload, 1) := by decide +kernel
theorem dX10_falls_69 : decode cX10_falls 69 = .ok (.iaload, 1) := by decide +kernel
theorem dX10_falls_70 : decode cX10_falls 70 = .ok (.bipush 10, 2) := by decide +kernel
theorem dX10_falls_72 : decode cX10_falls 72 = .ok (.aload_n 0, 1) := by decide +kernel
theorem dX10_falls_73 : decode cX10_falls 73 = .ok (.getfield 99, 3) := by decide +kernel
theorem dX10_falls_76 : decode cX10_falls 76 = .ok (.iload_n 2, 1) := by decide +kernel
theorem dX10_falls_77 : decode cX10_falls 77 = .ok (.iaload, 1) := by decide +kernel
theorem dX10_falls_78 : decode cX10_falls 78 = .ok (.iadd, 1) := by decide +kernel
theorem dX10_falls_79 : decode cX10_falls 79 = .ok (.imul, 1) := by decide +kernel
theorem dX10_falls_80 : decode cX10_falls 80 = .ok (.bipush 10, 2) := by decide +kernel
theorem dX10_falls_82 : decode cX10_falls 82 = .ok (.idiv, 1) := by decide +kernel
theorem dX10_falls_83 : decode cX10_falls 83 = .ok (.if_icmp .ge 14, 3) := by decide +kernel
theorem dX10_falls_86 : decode cX10_falls 86 = .ok (.aload_n 0, 1) := by decide +kernel
theorem dX10_falls_87 : decode cX10_falls 87 = .ok (.iload_n 2, 1) := by decide +kernel
theorem dX10_falls_88 : decode cX10_falls 88 = .ok (.invokevirtual 218, 3) := by decide +kernel
theorem dX10_falls_91 : decode cX10_falls 91 = .ok (.pop, 1) := by decide +kernel
theorem dX10_falls_92 : decode cX10_falls 92 = .ok (.aload_n 0, 1) := by decide +kernel
theorem dX10_falls_93 : decode cX10_falls 93 = .ok (.iload_n 1, 1) := by decide +kernel
theorem dX10_falls_94 : decode cX10_falls 94 = .ok (.invokevirtual 233, 3) := by decide +kernel
theorem dX10_falls_97 : decode cX10_falls 97 = .ok (.return_, 1) := by decide +kernel
theorem dX10_isBefore_0 : decode cX10_isBefore 0 = .ok (.aload_n 0, 1) := by decide +kernel
theorem dX10_isBefore_1 : decode cX10_isBefore 1 = .ok (.getfield 138, 3) := by decide +kernel
theorem dX10_isBefore_4 : decode cX10_isBefore 4 = .ok (.iload_n 1, 1) := by decide +kernel
theorem dX10_isBefore_5 : decode cX10_isBefore 5 = .ok (.iaload, 1) := by decide +kernel
theorem dX10_isBefore_6 : decode cX10_isBefore 6 = .ok (.aload_n 0, 1) := by decide +kernel
theorem dX10_isBefore_7 : decode cX10_isBefore 7 = .ok (.getfield 138, 3) := by decide +kernel
theorem dX10_isBefore_10 : decode cX10_isBefore 10 = .ok (.iload_n 2, 1) := by decide +kernel
theorem dX10_isBefore_11 : decode cX10_isBefore 11 = .ok (.iaload, 1) := by decide +kernel
theorem dX10_isBefore_12 : decode cX10_isBefore 12 = .ok (.if_icmp .eq 24, 3) := by decide +kernel
theorem dX10_isBefore_15 : decode cX10_isBefore 15 = .ok (.aload_n 0, 1) := by decide +kernel
theorem dX10_isBefore_16 : decode cX10_isBefore 16 = .ok (.getfield 138, 3) := by decide +kernel
theorem dX10_isBefore_19 : decode cX10_isBefore 19 = .ok (.iload_n 1, 1) := by decide +kernel
theorem dX10_isBefore_20 : decode cX10_isBefore 20 = .ok (.iaload, 1) := by decide +kernel
theorem dX10_isBefore_21 : decode cX10_isBefore 21 = .ok (.aload_n 0, 1) := by decide +kernel
theorem dX10_isBefore_22 : decode cX10_isBefore 22 = .ok (.getfield 138, 3) := by decide +kernel
theorem dX10_isBefore_25 : decode cX10_isBefore 25 = .ok (.iload_n 2, 1) := by decide +kernel
theorem dX10_isBefore_26 : decode cX10_isBefore 26 = .ok (.iaload, 1) := by decide +kernel
theorem dX10_isBefore_27 : decode cX10_isBefore 27 = .ok (.if_icmp .le 7, 3) := by decide +kernel
theorem dX10_isBefore_30 : decode cX10_isBefore 30 = .ok (.iconst 1, 1) := by decide +kernel
theorem dX10_isBefore_31 : decode cX10_isBefore 31 = .ok (.goto 4, 3) := by decide +kernel
theorem dX10_isBefore_34 : decode cX10_isBefore 34 = .ok (.iconst 0, 1) := by decide +kernel
theorem dX10_isBefore_35 : decode cX10_isBefore 35 = .ok (.ireturn, 1) := by decide +kernel
theorem dX10_isBefore_36 : decode cX10_isBefore 36 = .ok (.aload_n 0, 1) := by decide +kernel
theorem dX10_isBefore_37 : decode cX10_isBefore 37 = .ok (.getfield 132, 3) := by decide +kernel
theorem dX10_isBefore_40 : decode cX10_isBefore 40 = .ok (.iload_n 1, 1) := by decide +kernel
theorem dX10_isBefore_41 : decode cX10_isBefore 41 = .ok (.iaload, 1) := by decide +kernel
theorem dX10_isBefore_42 : decode cX10_isBefore 42 = .ok (.aload_n 0, 1) := by decide +kernel
theorem dX10_isBefore_43 : decode cX10_isBefore 43 = .ok (.getfield 132, 3) := by decide +kernel
theorem dX10_isBefore_46 : decode cX10_isBefore 46 = .ok (.iload_n 2, 1) := by decide +kernel
theorem dX10_isBefore_47 : decode cX10_isBefore 47 = .ok (.iaload, 1) := by decide +kernel
theorem dX10_isBefore_48 : decode cX10_isBefore 48 = .ok (.if_icmp .ge 7, 3) := by decide +kernel
theorem dX10_isBefore_51 : decode cX10_isBefore 51 = .ok (.iconst 1, 1) := by decide +kernel
theorem dX10_isBefore_52 : decode cX10_isBefore 52 = .ok (.goto 4, 3) := by decide +kernel
theorem dX10_isBefore_55 : decode cX10_isBefore 55 = .ok (.iconst 0, 1) := by decide +kernel
theorem dX10_isBefore_56 : decode cX10_isBefore 56 = .ok (.ireturn, 1) := by decide +kernel
theorem dX10_stands_0 : decode cX10_stands 0 = .ok (.aload_n 0, 1) := by decide +kernel
theorem dX10_stands_1 : decode cX10_stands 1 = .ok (.iload_n 1, 1) := by decide +kernel
theorem dX10_stands_2 : decode cX10_stands 2 = .ok (.invokevirtual 248, 3) := by decide +kernel
theorem dX10_stands_5 : decode cX10_stands 5 = .ok (.pop, 1) := by decide +kernel
theorem dX10_stands_6 : decode cX10_stands 6 = .ok (.aload_n 0, 1) := by decide +kernel
theorem dX10_stands_7 : decode cX10_stands 7 = .ok (.getfield 224, 3) := by decide +kernel
theorem dX10_stands_10 : decode cX10_stands 10 = .ok (.aload_n 0, 1) := by decide +kernel
theorem dX10_stands_11 : decode cX10_stands 11 = .ok (.getfield 126, 3) := by decide +kernel
theorem dX10_stands_14 : decode cX10_stands 14 = .ok (.iload_n 1, 1) := by decide +kernel
theorem dX10_stands_15 : decode cX10_stands 15 = .ok (.iaload, 1) := by decide +kernel
theorem dX10_stands_16 : decode cX10_stands 16 = .ok (.if_icmp .ge 4, 3) := by decide +kernel
theorem dX10_stands_19 : decode cX10_stands 19 = .ok (.return_, 1) := by decide +kernel
theorem dX10_stands_20 : decode cX10_stands 20 = .ok (.aload_n 0, 1) := by decide +kernel
theorem dX10_stands_21 : decode cX10_stands 21 = .ok (.getfield 63, 3) := by decide +kernel
theorem dX10_stands_24 : decode cX10_stands 24 = .ok (.aload_n 0, 1) := by decide +kernel
theorem dX10_stands_25 : decode cX10_stands 25 = .ok (.aload_n 0, 1) := by decide +kernel
theorem dX10_stands_26 : decode cX10_stands 26 = .ok (.getfield 120, 3) := by decide +kernel
theorem dX10_stands_29 : decode cX10_stands 29 = .ok (.iload_n 1, 1) := by decide +kernel
theorem dX10_stands_30 : decode cX10_stands 30 = .ok (.iaload, 1) := by decide +kernel
theorem dX10_stands_31 : decode cX10_stands 31 = .ok (.invokevirtual 227, 3) := by decide +kernel
theorem dX10_stands_34 : decode cX10_stands 34 = .ok (.iaload, 1) := by decide +kernel
theorem dX10_stands_35 : decode cX10_stands 35 = .ok (.istore_n 2, 1) := by decide +kernel
theorem dX10_stands_36 : decode cX10_stands 36 = .ok (.iconst (-1), 1) := by decide +kernel
theorem dX10_stands_37 : decode cX10_stands 37 = .ok (.istore_n 3, 1) := by decide +kernel
theorem dX10_stands_38 : decode cX10_stands 38 = .ok (.bipush 8, 2) := by decide +kernel
theorem dX10_stands_40 : decode cX10_stands 40 = .ok (.iload_n 1, 1) := by decide +kernel
theorem dX10_stands_41 : decode cX10_stands 41 = .ok (.imul, 1) := by decide +kernel
theorem dX10_stands_42 : decode cX10_stands 42 = .ok (.istore 4, 2) := by decide +kernel
theorem dX10_stands_44 : decode cX10_stands 44 = .ok (.iload 4, 2) := by decide +kernel
theorem dX10_stands_46 : decode cX10_stands 46 = .ok (.bipush 8, 2) := by decide +kernel
theorem dX10_stands_48 : decode cX10_stands 48 = .ok (.iload_n 1, 1) := by decide +kernel
theorem dX10_stands_49 : decode cX10_stands 49 = .ok (.imul, 1) := by decide +kernel
theorem dX10_stands_50 : decode cX10_stands 50 = .ok (.bipush 8, 2) := by decide +kernel
theorem dX10_stands_52 : decode cX10_stands 52 = .ok (.iadd, 1) := by decide +kernel
theorem dX10_stands_53 : decode cX10_stands 53 = .ok (.if_icmp .ge 74, 3) := by decide +kernel
theorem dX10_stands_56 : decode cX10_stands 56 = .ok (.aload_n 0, 1) := by decide +kernel
theorem dX10_stands_57 : decode cX10_stands 57 = .ok (.getfield 141, 3) := by decide +kernel
theorem dX10_stands_60 : decode cX10_stands 60 = .ok (.iload 4, 2) := by decide +kernel
theorem dX10_stands_62 : decode cX10_stands 62 = .ok (.baload, 1) := by decide +kernel
theorem dX10_stands_63 : decode cX10_stands 63 = .ok (.ifCond .eq 28, 3) := by decide +kernel
theorem dX10_stands_66 : decode cX10_stands 66 = .ok (.aload_n 0, 1) := by decide +kernel
theorem dX10_stands_67 : decode cX10_stands 67 = .ok (.iload 4, 2) := by decide +kernel
theorem dX10_stands_69 : decode cX10_stands 69 = .ok (.bipush 8, 2) := by decide +kernel
theorem dX10_stands_71 : decode cX10_stands 71 = .ok (.irem, 1) := by decide +kernel
theorem dX10_stands_72 : decode cX10_stands 72 = .ok (.iload_n 2, 1) := by decide +kernel
theorem dX10_stands_73 : decode cX10_stands 73 = .ok (.aload_n 0, 1) := by decide +kernel
theorem dX10_stands_74 : decode cX10_stands 74 = .ok (.getfield 138, 3) := by decide +kernel
theorem dX10_stands_77 : decode cX10_stands 77 = .ok (.iload 4, 2) := by decide +kernel
theorem dX10_stands_79 : decode cX10_stands 79 = .ok (.iaload, 1) := by decide +kernel
theorem dX10_stands_80 : decode cX10_stands 80 = .ok (.imul, 1) := by decide +kernel
theorem dX10_stands_81 : decode cX10_stands 81 = .ok (.invokevirtual 240, 3) := by decide +kernel
theorem dX10_stands_84 : decode cX10_stands 84 = .ok (.ifCond .eq 7, 3) := by decide +kernel
theorem dX10_stands_87 : decode cX10_stands 87 = .ok (.iconst 1, 1) := by decide +kernel
theorem dX10_stands_88 : decode cX10_stands 88 = .ok (.goto 4, 3) := by decide +kernel
theorem dX10_stands_91 : decode cX10_stands 91 = .ok (.iconst 0, 1) := by decide +kernel
theorem dX10_stands_92 : decode cX10_stands 92 = .ok (.istore 5, 2) := by decide +kernel
theorem dX10_stands_94 : decode cX10_stands 94 = .ok (.iload 5, 2) := by decide +kernel
theorem dX10_stands_96 : decode cX10_stands 96 = .ok (.ifCond .eq 23, 3) := by decide +kernel
theorem dX10_stands_99 : decode cX10_stands 99 = .ok (.iload_n 3, 1) := by decide +kernel
theorem dX10_stands_100 : decode cX10_stands 100 = .ok (.iconst (-1), 1) := by decide +kernel
theorem dX10_stands_101 : decode cX10_stands 101 = .ok (.if_icmp .eq 13, 3) := by decide +kernel
theorem dX10_stands_104 : decode cX10_stands 104 = .ok (.aload_n 0, 1) := by decide +kernel
theorem dX10_stands_105 : decode cX10_stands 105 = .ok (.iload 4, 2) := by decide +kernel
theorem dX10_stands_107 : decode cX10_stands 107 = .ok (.iload_n 3, 1) := by decide +kernel
theorem dX10_stands_108 : decode cX10_stands 108 = .ok (.invokevirtual 255, 3) := by decide +kernel
theorem dX10_stands_111 : decode cX10_stands 111 = .ok (.ifCond .eq 8, 3) := by decide +kernel
theorem dX10_stands_114 : decode cX10_stands 114 = .ok (.iload 4, 2) := by decide +kernel
theorem dX10_stands_116 : decode cX10_stands 116 = .ok (.goto 4, 3) := by decide +kernel
theorem dX10_stands_119 : decode cX10_stands 119 = .ok (.iload_n 3, 1) := by decide +kernel
theorem dX10_stands_120 : decode cX10_stands 120 = .ok (.istore_n 3, 1) := by decide +kernel
theorem dX10_stands_121 : decode cX10_stands 121 = .ok (.iinc 4 1, 3) := by decide +kernel
theorem dX10_stands_124 : decode cX10_stands 124 = .ok (.goto (-80), 3) := by decide +kernel
theorem dX10_stands_127 : decode cX10_stands 127 = .ok (.aload_n 0, 1) := by decide +kernel
theorem dX10_stands_128 : decode cX10_stands 128 = .ok (.getfield 117, 3) := by decide +kernel
theorem dX10_stands_131 : decode cX10_stands 131 = .ok (.iload_n 1, 1) := by decide +kernel
theorem dX10_stands_132 : decode cX10_stands 132 = .ok (.iload_n 3, 1) := by decide +kernel
theorem dX10_stands_133 : decode cX10_stands 133 = .ok (.iconst (-1), 1) := by decide +kernel
theorem dX10_stands_134 : decode cX10_stands 134 = .ok (.if_icmp .ne 7, 3) := by decide +kernel
theorem dX10_stands_137 : decode cX10_stands 137 = .ok (.iconst 1, 1) := by decide +kernel
theorem dX10_stands_138 : decode cX10_stands 138 = .ok (.goto 4, 3) := by decide +kernel
theorem dX10_stands_141 : decode cX10_stands 141 = .ok (.iconst 3, 1) := by decide +kernel
theorem dX10_stands_142 : decode cX10_stands 142 = .ok (.iastore, 1) := by decide +kernel
theorem dX10_stands_143 : decode cX10_stands 143 = .ok (.aload_n 0, 1) := by decide +kernel
theorem dX10_stands_144 : decode cX10_stands 144 = .ok (.getfield 129, 3) := by decide +kernel
theorem dX10_stands_147 : decode cX10_stands 147 = .ok (.iload_n 1, 1) := by decide +kernel
theorem dX10_stands_148 : decode cX10_stands 148 = .ok (.iload_n 3, 1) := by decide +kernel
theorem dX10_stands_149 : decode cX10_stands 149 = .ok (.iconst (-1), 1) := by decide +kernel
theorem dX10_stands_150 : decode cX10_stands 150 = .ok (.if_icmp .ne 7, 3) := by decide +kernel
theorem dX10_stands_153 : decode cX10_stands 153 = .ok (.iconst (-1), 1) := by decide +kernel
theorem dX10_stands_154 : decode cX10_stands 154 = .ok (.goto 7, 3) := by decide +kernel
theorem dX10_stands_157 : decode cX10_stands 157 = .ok (.iload_n 3, 1) := by decide +kernel
theorem dX10_stands_158 : decode cX10_stands 158 = .ok (.bipush 8, 2) := by decide +kernel
theorem dX10_stands_160 : decode cX10_stands 160 = .ok (.irem, 1) := by decide +kernel
theorem dX10_stands_161 : decode cX10_stands 161 = .ok (.iastore, 1) := by decide +kernel
theorem dX10_stands_162 : decode cX10_stands 162 = .ok (.aload_n 0, 1) := by decide +kernel
theorem dX10_stands_163 : decode cX10_stands 163 = .ok (.getfield 123, 3) := by decide +kernel
theorem dX10_stands_166 : decode cX10_stands 166 = .ok (.iload_n 1, 1) := by decide +kernel
theorem dX10_stands_167 : decode cX10_stands 167 = .ok (.iload_n 3, 1) := by decide +kernel
theorem dX10_stands_168 : decode cX10_stands 168 = .ok (.iconst (-1), 1) := by decide +kernel
theorem dX10_stands_169 : decode cX10_stands 169 = .ok (.if_icmp .ne 12, 3) := by decide +kernel
theorem dX10_stands_172 : decode cX10_stands 172 = .ok (.aload_n 0, 1) := by decide +kernel
theorem dX10_stands_173 : decode cX10_stands 173 = .ok (.getfield 123, 3) := by decide +kernel
theorem dX10_stands_176 : decode cX10_stands 176 = .ok (.iload_n 1, 1) := by decide +kernel
theorem dX10_stands_177 : decode cX10_stands 177 = .ok (.iaload, 1) := by decide +kernel
theorem dX10_stands_178 : decode cX10_stands 178 = .ok (.goto 9, 3) := by decide +kernel
theorem dX10_stands_181 : decode cX10_stands 181 = .ok (.aload_n 0, 1) := by decide +kernel
theorem dX10_stands_182 : decode cX10_stands 182 = .ok (.getfield 138, 3) := by decide +kernel
theorem dX10_stands_185 : decode cX10_stands 185 = .ok (.iload_n 3, 1) := by decide +kernel
theorem dX10_stands_186 : decode cX10_stands 186 = .ok (.iaload, 1) := by decide +kernel
theorem dX10_stands_187 : decode cX10_stands 187 = .ok (.iastore, 1) := by decide +kernel
theorem dX10_stands_188 : decode cX10_stands 188 = .ok (.aload_n 0, 1) := by decide +kernel
theorem dX10_stands_189 : decode cX10_stands 189 = .ok (.getfield 126, 3) := by decide +kernel
theorem dX10_stands_192 : decode cX10_stands 192 = .ok (.iload_n 1, 1) := by decide +kernel
theorem dX10_stands_193 : decode cX10_stands 193 = .ok (.aload_n 0, 1) := by decide +kernel
theorem dX10_stands_194 : decode cX10_stands 194 = .ok (.getfield 224, 3) := by decide +kernel
theorem dX10_stands_197 : decode cX10_stands 197 = .ok (.iconst 3, 1) := by decide +kernel
theorem dX10_stands_198 : decode cX10_stands 198 = .ok (.iadd, 1) := by decide +kernel
theorem dX10_stands_199 : decode cX10_stands 199 = .ok (.iastore, 1) := by decide +kernel
theorem dX10_stands_200 : decode cX10_stands 200 = .ok (.aload_n 0, 1) := by decide +kernel
theorem dX10_stands_201 : decode cX10_stands 201 = .ok (.iload_n 1, 1) := by decide +kernel
theorem dX10_stands_202 : decode cX10_stands 202 = .ok (.invokevirtual 156, 3) := by decide +kernel
theorem dX10_stands_205 : decode cX10_stands 205 = .ok (.return_, 1) := by decide +kernel
theorem dX10_waits_0 : decode cX10_waits 0 = .ok (.aload_n 0, 1) := by decide +kernel
theorem dX10_waits_1 : decode cX10_waits 1 = .ok (.getfield 224, 3) := by decide +kernel
theorem dX10_waits_4 : decode cX10_waits 4 = .ok (.aload_n 0, 1) := by decide +kernel
theorem dX10_waits_5 : decode cX10_waits 5 = .ok (.getfield 126, 3) := by decide +kernel
theorem dX10_waits_8 : decode cX10_waits 8 = .ok (.iload_n 1, 1) := by decide +kernel
theorem dX10_waits_9 : decode cX10_waits 9 = .ok (.iaload, 1) := by decide +kernel
theorem dX10_waits_10 : decode cX10_waits 10 = .ok (.if_icmp .lt 43, 3) := by decide +kernel
theorem dX10_waits_13 : decode cX10_waits 13 = .ok (.aload_n 0, 1) := by decide +kernel
theorem dX10_waits_14 : decode cX10_waits 14 = .ok (.iload_n 1, 1) := by decide +kernel
theorem dX10_waits_15 : decode cX10_waits 15 = .ok (.aload_n 0, 1) := by decide +kernel
theorem dX10_waits_16 : decode cX10_waits 16 = .ok (.aload_n 0, 1) := by decide +kernel
theorem dX10_waits_17 : decode cX10_waits 17 = .ok (.getfield 129, 3) := by decide +kernel
theorem dX10_waits_20 : decode cX10_waits 20 = .ok (.iload_n 1, 1) := by decide +kernel
theorem dX10_waits_21 : decode cX10_waits 21 = .ok (.iaload, 1) := by decide +kernel
theorem dX10_waits_22 : decode cX10_waits 22 = .ok (.aload_n 0, 1) := by decide +kernel
theorem dX10_waits_23 : decode cX10_waits 23 = .ok (.aload_n 0, 1) := by decide +kernel
theorem dX10_waits_24 : decode cX10_waits 24 = .ok (.getfield 120, 3) := by decide +kernel
theorem dX10_waits_27 : decode cX10_waits 27 = .ok (.iload_n 1, 1) := by decide +kernel
theorem dX10_waits_28 : decode cX10_waits 28 = .ok (.iaload, 1) := by decide +kernel
theorem dX10_waits_29 : decode cX10_waits 29 = .ok (.iconst 1, 1) := by decide +kernel
theorem dX10_waits_30 : decode cX10_waits 30 = .ok (.aload_n 0, 1) := by decide +kernel
theorem dX10_waits_31 : decode cX10_waits 31 = .ok (.getfield 123, 3) := by decide +kernel
theorem dX10_waits_34 : decode cX10_waits 34 = .ok (.iload_n 1, 1) := by decide +kernel
theorem dX10_waits_35 : decode cX10_waits 35 = .ok (.iaload, 1) := by decide +kernel
theorem dX10_waits_36 : decode cX10_waits 36 = .ok (.invokevirtual 236, 3) := by decide +kernel
theorem dX10_waits_39 : decode cX10_waits 39 = .ok (.invokevirtual 240, 3) := by decide +kernel
theorem dX10_waits_42 : decode cX10_waits 42 = .ok (.ifCond .eq 7, 3) := by decide +kernel
theorem dX10_waits_45 : decode cX10_waits 45 = .ok (.iconst 1, 1) := by decide +kernel
theorem dX10_waits_46 : decode cX10_waits 46 = .ok (.goto 4, 3) := by decide +kernel
theorem dX10_waits_49 : decode cX10_waits 49 = .ok (.iconst 0, 1) := by decide +kernel
theorem dX10_waits_50 : decode cX10_waits 50 = .ok (.invokevirtual 244, 3) := by decide +kernel
theorem dX10_waits_53 : decode cX10_waits 53 = .ok (.return_, 1) := by decide +kernel
theorem dX10_leaves_0 : decode cX10_leaves 0 = .ok (.iconst 0, 1) := by decide +kernel
theorem dX10_leaves_1 : decode cX10_leaves 1 = .ok (.istore_n 2, 1) := by decide +kernel
theorem dX10_leaves_2 : decode cX10_leaves 2 = .ok (.iconst 0, 1) := by decide +kernel
theorem dX10_leaves_3 : decode cX10_leaves 3 = .ok (.istore_n 3, 1) := by decide +kernel
theorem dX10_leaves_4 : decode cX10_leaves 4 = .ok (.iload_n 3, 1) := by decide +kernel
theorem dX10_leaves_5 : decode cX10_leaves 5 = .ok (.aload_n 0, 1) := by decide +kernel
theorem dX10_leaves_6 : decode cX10_leaves 6 = .ok (.getfield 167, 3) := by decide +kernel
theorem dX10_leaves_9 : decode cX10_leaves 9 = .ok (.if_icmp .ge 54, 3) := by decide +kernel
theorem dX10_leaves_12 : decode cX10_leaves 12 = .ok (.aload_n 0, 1) := by decide +kernel
theorem dX10_leaves_13 : decode cX10_leaves 13 = .ok (.getfield 69, 3) := by decide +kernel
theorem dX10_leaves_16 : decode cX10_leaves 16 = .ok (.iload_n 3, 1) := by decide +kernel
theorem dX10_leaves_17 : decode cX10_leaves 17 = .ok (.iaload, 1) := by decide +kernel
theorem dX10_leaves_18 : decode cX10_leaves 18 = .ok (.iconst 3, 1) := by decide +kernel
theorem dX10_leaves_19 : decode cX10_leaves 19 = .ok (.if_icmp .ne 38, 3) := by decide +kernel
theorem dX10_leaves_22 : decode cX10_leaves 22 = .ok (.aload_n 0, 1) := by decide +kernel
theorem dX10_leaves_23 : decode cX10_leaves 23 = .ok (.getfield 75, 3) := by decide +kernel
theorem dX10_leaves_26 : decode cX10_leaves 26 = .ok (.iload_n 3, 1) := by decide +kernel
theorem dX10_leaves_27 : decode cX10_leaves 27 = .ok (.iaload, 1) := by decide +kernel
theorem dX10_leaves_28 : decode cX10_leaves 28 = .ok (.aload_n 0, 1) := by decide +kernel
theorem dX10_leaves_29 : decode cX10_leaves 29 = .ok (.getfield 144, 3) := by decide +kernel
theorem dX10_leaves_32 : decode cX10_leaves 32 = .ok (.iload_n 1, 1) := by decide +kernel
theorem dX10_leaves_33 : decode cX10_leaves 33 = .ok (.iaload, 1) := by decide +kernel
theorem dX10_leaves_34 : decode cX10_leaves 34 = .ok (.if_icmp .ne 23, 3) := by decide +kernel
theorem dX10_leaves_37 : decode cX10_leaves 37 = .ok (.iload_n 2, 1) := by decide +kernel
theorem dX10_leaves_38 : decode cX10_leaves 38 = .ok (.aload_n 0, 1) := by decide +kernel
theorem dX10_leaves_39 : decode cX10_leaves 39 = .ok (.getfield 150, 3) := by decide +kernel
theorem dX10_leaves_42 : decode cX10_leaves 42 = .ok (.iload_n 1, 1) := by decide +kernel
theorem dX10_leaves_43 : decode cX10_leaves 43 = .ok (.iaload, 1) := by decide +kernel
theorem dX10_leaves_44 : decode cX10_leaves 44 = .ok (.if_icmp .ge 13, 3) := by decide +kernel
theorem dX10_leaves_47 : decode cX10_leaves 47 = .ok (.aload_n 0, 1) := by decide +kernel
theorem dX10_leaves_48 : decode cX10_leaves 48 = .ok (.getfield 69, 3) := by decide +kernel
theorem dX10_leaves_51 : decode cX10_leaves 51 = .ok (.iload_n 3, 1) := by decide +kernel
theorem dX10_leaves_52 : decode cX10_leaves 52 = .ok (.iconst 4, 1) := by decide +kernel
theorem dX10_leaves_53 : decode cX10_leaves 53 = .ok (.iastore, 1) := by decide +kernel
theorem dX10_leaves_54 : decode cX10_leaves 54 = .ok (.iinc 2 1, 3) := by decide +kernel
theorem dX10_leaves_57 : decode cX10_leaves 57 = .ok (.iinc 3 1, 3) := by decide +kernel
theorem dX10_leaves_60 : decode cX10_leaves 60 = .ok (.goto (-56), 3) := by decide +kernel
theorem dX10_leaves_63 : decode cX10_leaves 63 = .ok (.aload_n 0, 1) := by decide +kernel
theorem dX10_leaves_64 : decode cX10_leaves 64 = .ok (.getfield 153, 3) := by decide +kernel
theorem dX10_leaves_67 : decode cX10_leaves 67 = .ok (.iload_n 1, 1) := by decide +kernel
theorem dX10_leaves_68 : decode cX10_leaves 68 = .ok (.iload_n 2, 1) := by decide +kernel
theorem dX10_leaves_69 : decode cX10_leaves 69 = .ok (.iastore, 1) := by decide +kernel
theorem dX10_leaves_70 : decode cX10_leaves 70 = .ok (.return_, 1) := by decide +kernel
theorem dX10_passes_0 : decode cX10_passes 0 = .ok (.aload_n 0, 1) := by decide +kernel
theorem dX10_passes_1 : decode cX10_passes 1 = .ok (.dup, 1) := by decide +kernel
theorem dX10_passes_2 : decode cX10_passes 2 = .ok (.getfield 224, 3) := by decide +kernel
theorem dX10_passes_5 : decode cX10_passes 5 = .ok (.iconst 1, 1) := by decide +kernel
theorem dX10_passes_6 : decode cX10_passes 6 = .ok (.iadd, 1) := by decide +kernel
theorem dX10_passes_7 : decode cX10_passes 7 = .ok (.putfield 224, 3) := by decide +kernel
theorem dX10_passes_10 : decode cX10_passes 10 = .ok (.iconst 0, 1) := by decide +kernel
theorem dX10_passes_11 : decode cX10_passes 11 = .ok (.istore_n 1, 1) := by decide +kernel
theorem dX10_passes_12 : decode cX10_passes 12 = .ok (.iload_n 1, 1) := by decide +kernel
theorem dX10_passes_13 : decode cX10_passes 13 = .ok (.iconst 3, 1) := by decide +kernel
theorem dX10_passes_14 : decode cX10_passes 14 = .ok (.if_icmp .ge 65, 3) := by decide +kernel
theorem dX10_passes_17 : decode cX10_passes 17 = .ok (.aload_n 0, 1) := by decide +kernel
theorem dX10_passes_18 : decode cX10_passes 18 = .ok (.getfield 114, 3) := by decide +kernel
theorem dX10_passes_21 : decode cX10_passes 21 = .ok (.iload_n 1, 1) := by decide +kernel
theorem dX10_passes_22 : decode cX10_passes 22 = .ok (.baload, 1) := by decide +kernel
theorem dX10_passes_23 : decode cX10_passes 23 = .ok (.ifCond .eq 12, 3) := by decide +kernel
theorem dX10_passes_26 : decode cX10_passes 26 = .ok (.aload_n 0, 1) := by decide +kernel
theorem dX10_passes_27 : decode cX10_passes 27 = .ok (.getfield 117, 3) := by decide +kernel
theorem dX10_passes_30 : decode cX10_passes 30 = .ok (.iload_n 1, 1) := by decide +kernel
theorem dX10_passes_31 : decode cX10_passes 31 = .ok (.iaload, 1) := by decide +kernel
theorem dX10_passes_32 : decode cX10_passes 32 = .ok (.goto 4, 3) := by decide +kernel
theorem dX10_passes_35 : decode cX10_passes 35 = .ok (.iconst 0, 1) := by decide +kernel
theorem dX10_passes_36 : decode cX10_passes 36 = .ok (.istore_n 2, 1) := by decide +kernel
theorem dX10_passes_37 : decode cX10_passes 37 = .ok (.iload_n 2, 1) := by decide +kernel
theorem dX10_passes_38 : decode cX10_passes 38 = .ok (.iconst 1, 1) := by decide +kernel
theorem dX10_passes_39 : decode cX10_passes 39 = .ok (.if_icmp .ne 11, 3) := by decide +kernel
theorem dX10_passes_42 : decode cX10_passes 42 = .ok (.aload_n 0, 1) := by decide +kernel
theorem dX10_passes_43 : decode cX10_passes 43 = .ok (.iload_n 1, 1) := by decide +kernel
theorem dX10_passes_44 : decode cX10_passes 44 = .ok (.invokevirtual 258, 3) := by decide +kernel
theorem dX10_passes_47 : decode cX10_passes 47 = .ok (.goto 26, 3) := by decide +kernel
theorem dX10_passes_50 : decode cX10_passes 50 = .ok (.iload_n 2, 1) := by decide +kernel
theorem dX10_passes_51 : decode cX10_passes 51 = .ok (.iconst 2, 1) := by decide +kernel
theorem dX10_passes_52 : decode cX10_passes 52 = .ok (.if_icmp .ne 11, 3) := by decide +kernel
theorem dX10_passes_55 : decode cX10_passes 55 = .ok (.aload_n 0, 1) := by decide +kernel
theorem dX10_passes_56 : decode cX10_passes 56 = .ok (.iload_n 1, 1) := by decide +kernel
theorem dX10_passes_57 : decode cX10_passes 57 = .ok (.invokevirtual 261, 3) := by decide +kernel
theorem dX10_passes_60 : decode cX10_passes 60 = .ok (.goto 13, 3) := by decide +kernel
theorem dX10_passes_63 : decode cX10_passes 63 = .ok (.iload_n 2, 1) := by decide +kernel
theorem dX10_passes_64 : decode cX10_passes 64 = .ok (.iconst 3, 1) := by decide +kernel
theorem dX10_passes_65 : decode cX10_passes 65 = .ok (.if_icmp .ne 8, 3) := by decide +kernel
theorem dX10_passes_68 : decode cX10_passes 68 = .ok (.aload_n 0, 1) := by decide +kernel
theorem dX10_passes_69 : decode cX10_passes 69 = .ok (.iload_n 1, 1) := by decide +kernel
theorem dX10_passes_70 : decode cX10_passes 70 = .ok (.invokevirtual 264, 3) := by decide +kernel
theorem dX10_passes_73 : decode cX10_passes 73 = .ok (.iinc 1 1, 3) := by decide +kernel
theorem dX10_passes_76 : decode cX10_passes 76 = .ok (.goto (-64), 3) := by decide +kernel
theorem dX10_passes_79 : decode cX10_passes 79 = .ok (.iconst 0, 1) := by decide +kernel
theorem dX10_passes_80 : decode cX10_passes 80 = .ok (.istore_n 1, 1) := by decide +kernel
theorem dX10_passes_81 : decode cX10_passes 81 = .ok (.iload_n 1, 1) := by decide +kernel
theorem dX10_passes_82 : decode cX10_passes 82 = .ok (.aload_n 0, 1) := by decide +kernel
theorem dX10_passes_83 : decode cX10_passes 83 = .ok (.getfield 267, 3) := by decide +kernel
theorem dX10_passes_86 : decode cX10_passes 86 = .ok (.if_icmp .ge 27, 3) := by decide +kernel
theorem dX10_passes_89 : decode cX10_passes 89 = .ok (.aload_n 0, 1) := by decide +kernel
theorem dX10_passes_90 : decode cX10_passes 90 = .ok (.getfield 147, 3) := by decide +kernel
theorem dX10_passes_93 : decode cX10_passes 93 = .ok (.iload_n 1, 1) := by decide +kernel
theorem dX10_passes_94 : decode cX10_passes 94 = .ok (.iaload, 1) := by decide +kernel
theorem dX10_passes_95 : decode cX10_passes 95 = .ok (.aload_n 0, 1) := by decide +kernel
theorem dX10_passes_96 : decode cX10_passes 96 = .ok (.getfield 224, 3) := by decide +kernel
theorem dX10_passes_99 : decode cX10_passes 99 = .ok (.if_icmp .ne 8, 3) := by decide +kernel
theorem dX10_passes_102 : decode cX10_passes 102 = .ok (.aload_n 0, 1) := by decide +kernel
theorem dX10_passes_103 : decode cX10_passes 103 = .ok (.iload_n 1, 1) := by decide +kernel
theorem dX10_passes_104 : decode cX10_passes 104 = .ok (.invokevirtual 270, 3) := by decide +kernel
theorem dX10_passes_107 : decode cX10_passes 107 = .ok (.iinc 1 1, 3) := by decide +kernel
theorem dX10_passes_110 : decode cX10_passes 110 = .ok (.goto (-29), 3) := by decide +kernel
theorem dX10_passes_113 : decode cX10_passes 113 = .ok (.return_, 1) := by decide +kernel
theorem dX10_pass_0 : decode cX10_pass 0 = .ok (.aload_n 0, 1) := by decide +kernel
theorem dX10_pass_1 : decode cX10_pass 1 = .ok (.iload_n 1, 1) := by decide +kernel
theorem dX10_pass_2 : decode cX10_pass 2 = .ok (.iconst 1, 1) := by decide +kernel
theorem dX10_pass_3 : decode cX10_pass 3 = .ok (.sipush 500, 3) := by decide +kernel
theorem dX10_pass_6 : decode cX10_pass 6 = .ok (.invokestatic 163, 3) := by decide +kernel
theorem dX10_pass_9 : decode cX10_pass 9 = .ok (.ifCond .ne 7, 3) := by decide +kernel
theorem dX10_pass_12 : decode cX10_pass 12 = .ok (.iconst 1, 1) := by decide +kernel
theorem dX10_pass_13 : decode cX10_pass 13 = .ok (.goto 19, 3) := by decide +kernel
theorem dX10_pass_16 : decode cX10_pass 16 = .ok (.aload_n 0, 1) := by decide +kernel
theorem dX10_pass_17 : decode cX10_pass 17 = .ok (.getfield 224, 3) := by decide +kernel
theorem dX10_pass_20 : decode cX10_pass 20 = .ok (.iload_n 1, 1) := by decide +kernel
theorem dX10_pass_21 : decode cX10_pass 21 = .ok (.iadd, 1) := by decide +kernel
theorem dX10_pass_22 : decode cX10_pass 22 = .ok (.ldc 177, 2) := by decide +kernel
theorem dX10_pass_24 : decode cX10_pass 24 = .ok (.if_icmp .le 7, 3) := by decide +kernel
theorem dX10_pass_27 : decode cX10_pass 27 = .ok (.iconst 2, 1) := by decide +kernel
theorem dX10_pass_28 : decode cX10_pass 28 = .ok (.goto 4, 3) := by decide +kernel
theorem dX10_pass_31 : decode cX10_pass 31 = .ok (.iconst 0, 1) := by decide +kernel
theorem dX10_pass_32 : decode cX10_pass 32 = .ok (.invokevirtual 178, 3) := by decide +kernel
theorem dX10_pass_35 : decode cX10_pass 35 = .ok (.ifCond .eq 5, 3) := by decide +kernel
theorem dX10_pass_38 : decode cX10_pass 38 = .ok (.iconst 0, 1) := by decide +kernel
theorem dX10_pass_39 : decode cX10_pass 39 = .ok (.ireturn, 1) := by decide +kernel
theorem dX10_pass_40 : decode cX10_pass 40 = .ok (.iconst 0, 1) := by decide +kernel
theorem dX10_pass_41 : decode cX10_pass 41 = .ok (.istore_n 2, 1) := by decide +kernel
theorem dX10_pass_42 : decode cX10_pass 42 = .ok (.iload_n 2, 1) := by decide +kernel
theorem dX10_pass_43 : decode cX10_pass 43 = .ok (.iload_n 1, 1) := by decide +kernel
theorem dX10_pass_44 : decode cX10_pass 44 = .ok (.if_icmp .ge 13, 3) := by decide +kernel
theorem dX10_pass_47 : decode cX10_pass 47 = .ok (.aload_n 0, 1) := by decide +kernel
theorem dX10_pass_48 : decode cX10_pass 48 = .ok (.invokevirtual 273, 3) := by decide +kernel
theorem dX10_pass_51 : decode cX10_pass 51 = .ok (.iinc 2 1, 3) := by decide +kernel
theorem dX10_pass_54 : decode cX10_pass 54 = .ok (.goto (-12), 3) := by decide +kernel
theorem dX10_pass_57 : decode cX10_pass 57 = .ok (.aload_n 0, 1) := by decide +kernel
theorem dX10_pass_58 : decode cX10_pass 58 = .ok (.getfield 224, 3) := by decide +kernel
theorem dX10_pass_61 : decode cX10_pass 61 = .ok (.ireturn, 1) := by decide +kernel
theorem dX10_lorry_0 : decode cX10_lorry 0 = .ok (.iload_n 2, 1) := by decide +kernel
theorem dX10_lorry_1 : decode cX10_lorry 1 = .ok (.aload_n 0, 1) := by decide +kernel
theorem dX10_lorry_2 : decode cX10_lorry 2 = .ok (.getfield 224, 3) := by decide +kernel
theorem dX10_lorry_5 : decode cX10_lorry 5 = .ok (.iconst 1, 1) := by decide +kernel
theorem dX10_lorry_6 : decode cX10_lorry 6 = .ok (.iadd, 1) := by decide +kernel
theorem dX10_lorry_7 : decode cX10_lorry 7 = .ok (.ldc 177, 2) := by decide +kernel
theorem dX10_lorry_9 : decode cX10_lorry 9 = .ok (.invokestatic 163, 3) := by decide +kernel
theorem dX10_lorry_12 : decode cX10_lorry 12 = .ok (.ifCond .eq 17, 3) := by decide +kernel
theorem dX10_lorry_15 : decode cX10_lorry 15 = .ok (.iload_n 3, 1) := by decide +kernel
theorem dX10_lorry_16 : decode cX10_lorry 16 = .ok (.iconst 1, 1) := by decide +kernel
theorem dX10_lorry_17 : decode cX10_lorry 17 = .ok (.bipush 50, 2) := by decide +kernel
theorem dX10_lorry_19 : decode cX10_lorry 19 = .ok (.invokestatic 163, 3) := by decide +kernel
theorem dX10_lorry_22 : decode cX10_lorry 22 = .ok (.ifCond .eq 7, 3) := by decide +kernel
theorem dX10_lorry_25 : decode cX10_lorry 25 = .ok (.iconst 1, 1) := by decide +kernel
theorem dX10_lorry_26 : decode cX10_lorry 26 = .ok (.goto 4, 3) := by decide +kernel
theorem dX10_lorry_29 : decode cX10_lorry 29 = .ok (.iconst 0, 1) := by decide +kernel
theorem dX10_lorry_30 : decode cX10_lorry 30 = .ok (.istore 4, 2) := by decide +kernel
theorem dX10_lorry_32 : decode cX10_lorry 32 = .ok (.aload_n 0, 1) := by decide +kernel
theorem dX10_lorry_33 : decode cX10_lorry 33 = .ok (.iload_n 1, 1) := by decide +kernel
theorem dX10_lorry_34 : decode cX10_lorry 34 = .ok (.invokestatic 170, 3) := by decide +kernel
theorem dX10_lorry_37 : decode cX10_lorry 37 = .ok (.ifCond .ne 7, 3) := by decide +kernel
theorem dX10_lorry_40 : decode cX10_lorry 40 = .ok (.iconst 1, 1) := by decide +kernel
theorem dX10_lorry_41 : decode cX10_lorry 41 = .ok (.goto 26, 3) := by decide +kernel
theorem dX10_lorry_44 : decode cX10_lorry 44 = .ok (.iload 4, 2) := by decide +kernel
theorem dX10_lorry_46 : decode cX10_lorry 46 = .ok (.ifCond .ne 7, 3) := by decide +kernel
theorem dX10_lorry_49 : decode cX10_lorry 49 = .ok (.iconst 2, 1) := by decide +kernel
theorem dX10_lorry_50 : decode cX10_lorry 50 = .ok (.goto 17, 3) := by decide +kernel
theorem dX10_lorry_53 : decode cX10_lorry 53 = .ok (.aload_n 0, 1) := by decide +kernel
theorem dX10_lorry_54 : decode cX10_lorry 54 = .ok (.getfield 267, 3) := by decide +kernel
theorem dX10_lorry_57 : decode cX10_lorry 57 = .ok (.bipush 20, 2) := by decide +kernel
theorem dX10_lorry_59 : decode cX10_lorry 59 = .ok (.if_icmp .ne 7, 3) := by decide +kernel
theorem dX10_lorry_62 : decode cX10_lorry 62 = .ok (.iconst 3, 1) := by decide +kernel
theorem dX10_lorry_63 : decode cX10_lorry 63 = .ok (.goto 4, 3) := by decide +kernel
theorem dX10_lorry_66 : decode cX10_lorry 66 = .ok (.iconst 0, 1) := by decide +kernel
theorem dX10_lorry_67 : decode cX10_lorry 67 = .ok (.invokevirtual 178, 3) := by decide +kernel
theorem dX10_lorry_70 : decode cX10_lorry 70 = .ok (.ifCond .eq 5, 3) := by decide +kernel
theorem dX10_lorry_73 : decode cX10_lorry 73 = .ok (.iconst 0, 1) := by decide +kernel
theorem dX10_lorry_74 : decode cX10_lorry 74 = .ok (.ireturn, 1) := by decide +kernel
theorem dX10_lorry_75 : decode cX10_lorry 75 = .ok (.aload_n 0, 1) := by decide +kernel
theorem dX10_lorry_76 : decode cX10_lorry 76 = .ok (.getfield 144, 3) := by decide +kernel
theorem dX10_lorry_79 : decode cX10_lorry 79 = .ok (.aload_n 0, 1) := by decide +kernel
theorem dX10_lorry_80 : decode cX10_lorry 80 = .ok (.getfield 267, 3) := by decide +kernel
theorem dX10_lorry_83 : decode cX10_lorry 83 = .ok (.iload_n 1, 1) := by decide +kernel
theorem dX10_lorry_84 : decode cX10_lorry 84 = .ok (.iastore, 1) := by decide +kernel
theorem dX10_lorry_85 : decode cX10_lorry 85 = .ok (.aload_n 0, 1) := by decide +kernel
theorem dX10_lorry_86 : decode cX10_lorry 86 = .ok (.getfield 147, 3) := by decide +kernel
theorem dX10_lorry_89 : decode cX10_lorry 89 = .ok (.aload_n 0, 1) := by decide +kernel
theorem dX10_lorry_90 : decode cX10_lorry 90 = .ok (.getfield 267, 3) := by decide +kernel
theorem dX10_lorry_93 : decode cX10_lorry 93 = .ok (.iload_n 2, 1) := by decide +kernel
theorem dX10_lorry_94 : decode cX10_lorry 94 = .ok (.iastore, 1) := by decide +kernel
theorem dX10_lorry_95 : decode cX10_lorry 95 = .ok (.aload_n 0, 1) := by decide +kernel
theorem dX10_lorry_96 : decode cX10_lorry 96 = .ok (.getfield 150, 3) := by decide +kernel
theorem dX10_lorry_99 : decode cX10_lorry 99 = .ok (.aload_n 0, 1) := by decide +kernel
theorem dX10_lorry_100 : decode cX10_lorry 100 = .ok (.getfield 267, 3) := by decide +kernel
theorem dX10_lorry_103 : decode cX10_lorry 103 = .ok (.iload_n 3, 1) := by decide +kernel
theorem dX10_lorry_104 : decode cX10_lorry 104 = .ok (.iastore, 1) := by decide +kernel
theorem dX10_lorry_105 : decode cX10_lorry 105 = .ok (.aload_n 0, 1) := by decide +kernel
theorem dX10_lorry_106 : decode cX10_lorry 106 = .ok (.getfield 153, 3) := by decide +kernel
theorem dX10_lorry_109 : decode cX10_lorry 109 = .ok (.aload_n 0, 1) := by decide +kernel
theorem dX10_lorry_110 : decode cX10_lorry 110 = .ok (.getfield 267, 3) := by decide +kernel
theorem dX10_lorry_113 : decode cX10_lorry 113 = .ok (.iconst (-1), 1) := by decide +kernel
theorem dX10_lorry_114 : decode cX10_lorry 114 = .ok (.iastore, 1) := by decide +kernel
theorem dX10_lorry_115 : decode cX10_lorry 115 = .ok (.aload_n 0, 1) := by decide +kernel
theorem dX10_lorry_116 : decode cX10_lorry 116 = .ok (.dup, 1) := by decide +kernel
theorem dX10_lorry_117 : decode cX10_lorry 117 = .ok (.getfield 267, 3) := by decide +kernel
theorem dX10_lorry_120 : decode cX10_lorry 120 = .ok (.iconst 1, 1) := by decide +kernel
theorem dX10_lorry_121 : decode cX10_lorry 121 = .ok (.iadd, 1) := by decide +kernel
theorem dX10_lorry_122 : decode cX10_lorry 122 = .ok (.putfield 267, 3) := by decide +kernel
theorem dX10_lorry_125 : decode cX10_lorry 125 = .ok (.aload_n 0, 1) := by decide +kernel
theorem dX10_lorry_126 : decode cX10_lorry 126 = .ok (.getfield 267, 3) := by decide +kernel
theorem dX10_lorry_129 : decode cX10_lorry 129 = .ok (.iconst 1, 1) := by decide +kernel
theorem dX10_lorry_130 : decode cX10_lorry 130 = .ok (.isub, 1) := by decide +kernel
theorem dX10_lorry_131 : decode cX10_lorry 131 = .ok (.ireturn, 1) := by decide +kernel
theorem dX10_areCents_0 : decode cX10_areCents 0 = .ok (.iload_n 0, 1) := by decide +kernel
theorem dX10_areCents_1 : decode cX10_areCents 1 = .ok (.iconst 1, 1) := by decide +kernel
theorem dX10_areCents_2 : decode cX10_areCents 2 = .ok (.ldc 184, 2) := by decide +kernel
theorem dX10_areCents_4 : decode cX10_areCents 4 = .ok (.invokestatic 163, 3) := by decide +kernel
theorem dX10_areCents_7 : decode cX10_areCents 7 = .ok (.ireturn, 1) := by decide +kernel
theorem dX10_pay_0 : decode cX10_pay 0 = .ok (.aload_n 0, 1) := by decide +kernel
theorem dX10_pay_1 : decode cX10_pay 1 = .ok (.iload_n 1, 1) := by decide +kernel
theorem dX10_pay_2 : decode cX10_pay 2 = .ok (.invokestatic 170, 3) := by decide +kernel
theorem dX10_pay_5 : decode cX10_pay 5 = .ok (.ifCond .ne 7, 3) := by decide +kernel
theorem dX10_pay_8 : decode cX10_pay 8 = .ok (.iconst 1, 1) := by decide +kernel
theorem dX10_pay_9 : decode cX10_pay 9 = .ok (.goto 15, 3) := by decide +kernel
theorem dX10_pay_12 : decode cX10_pay 12 = .ok (.iload_n 2, 1) := by decide +kernel
theorem dX10_pay_13 : decode cX10_pay 13 = .ok (.invokestatic 276, 3) := by decide +kernel
theorem dX10_pay_16 : decode cX10_pay 16 = .ok (.ifCond .eq 7, 3) := by decide +kernel
theorem dX10_pay_19 : decode cX10_pay 19 = .ok (.iconst 0, 1) := by decide +kernel
theorem dX10_pay_20 : decode cX10_pay 20 = .ok (.goto 4, 3) := by decide +kernel
theorem dX10_pay_23 : decode cX10_pay 23 = .ok (.iconst 2, 1) := by decide +kernel
theorem dX10_pay_24 : decode cX10_pay 24 = .ok (.invokevirtual 178, 3) := by decide +kernel
theorem dX10_pay_27 : decode cX10_pay 27 = .ok (.ifCond .eq 5, 3) := by decide +kernel
theorem dX10_pay_30 : decode cX10_pay 30 = .ok (.iconst 0, 1) := by decide +kernel
theorem dX10_pay_31 : decode cX10_pay 31 = .ok (.ireturn, 1) := by decide +kernel
theorem dX10_pay_32 : decode cX10_pay 32 = .ok (.aload_n 0, 1) := by decide +kernel
theorem dX10_pay_33 : decode cX10_pay 33 = .ok (.getfield 45, 3) := by decide +kernel
theorem dX10_pay_36 : decode cX10_pay 36 = .ok (.iload_n 1, 1) := by decide +kernel
theorem dX10_pay_37 : decode cX10_pay 37 = .ok (.iaload, 1) := by decide +kernel
theorem dX10_pay_38 : decode cX10_pay 38 = .ok (.iload_n 2, 1) := by decide +kernel
theorem dX10_pay_39 : decode cX10_pay 39 = .ok (.if_icmp .ge 12, 3) := by decide +kernel
theorem dX10_pay_42 : decode cX10_pay 42 = .ok (.aload_n 0, 1) := by decide +kernel
theorem dX10_pay_43 : decode cX10_pay 43 = .ok (.getfield 45, 3) := by decide +kernel
theorem dX10_pay_46 : decode cX10_pay 46 = .ok (.iload_n 1, 1) := by decide +kernel
theorem dX10_pay_47 : decode cX10_pay 47 = .ok (.iaload, 1) := by decide +kernel
theorem dX10_pay_48 : decode cX10_pay 48 = .ok (.goto 4, 3) := by decide +kernel
theorem dX10_pay_51 : decode cX10_pay 51 = .ok (.iload_n 2, 1) := by decide +kernel
theorem dX10_pay_52 : decode cX10_pay 52 = .ok (.istore_n 3, 1) := by decide +kernel
theorem dX10_pay_53 : decode cX10_pay 53 = .ok (.iload_n 3, 1) := by decide +kernel
theorem dX10_pay_54 : decode cX10_pay 54 = .ok (.ifCond .ge 7, 3) := by decide +kernel
theorem dX10_pay_57 : decode cX10_pay 57 = .ok (.iconst 0, 1) := by decide +kernel
theorem dX10_pay_58 : decode cX10_pay 58 = .ok (.goto 4, 3) := by decide +kernel
theorem dX10_pay_61 : decode cX10_pay 61 = .ok (.iload_n 3, 1) := by decide +kernel
theorem dX10_pay_62 : decode cX10_pay 62 = .ok (.istore_n 3, 1) := by decide +kernel
theorem dX10_pay_63 : decode cX10_pay 63 = .ok (.aload_n 0, 1) := by decide +kernel
theorem dX10_pay_64 : decode cX10_pay 64 = .ok (.getfield 45, 3) := by decide +kernel
theorem dX10_pay_67 : decode cX10_pay 67 = .ok (.iload_n 1, 1) := by decide +kernel
theorem dX10_pay_68 : decode cX10_pay 68 = .ok (.dup2, 1) := by decide +kernel
theorem dX10_pay_69 : decode cX10_pay 69 = .ok (.iaload, 1) := by decide +kernel
theorem dX10_pay_70 : decode cX10_pay 70 = .ok (.iload_n 3, 1) := by decide +kernel
theorem dX10_pay_71 : decode cX10_pay 71 = .ok (.isub, 1) := by decide +kernel
theorem dX10_pay_72 : decode cX10_pay 72 = .ok (.iastore, 1) := by decide +kernel
theorem dX10_pay_73 : decode cX10_pay 73 = .ok (.iload_n 3, 1) := by decide +kernel
theorem dX10_pay_74 : decode cX10_pay 74 = .ok (.ireturn, 1) := by decide +kernel
theorem dX10_claim_0 : decode cX10_claim 0 = .ok (.iload_n 1, 1) := by decide +kernel
theorem dX10_claim_1 : decode cX10_claim 1 = .ok (.invokestatic 170, 3) := by decide +kernel
theorem dX10_claim_4 : decode cX10_claim 4 = .ok (.ifCond .eq 15, 3) := by decide +kernel
theorem dX10_claim_7 : decode cX10_claim 7 = .ok (.aload_n 0, 1) := by decide +kernel
theorem dX10_claim_8 : decode cX10_claim 8 = .ok (.iload_n 2, 1) := by decide +kernel
theorem dX10_claim_9 : decode cX10_claim 9 = .ok (.invokevirtual 279, 3) := by decide +kernel
theorem dX10_claim_12 : decode cX10_claim 12 = .ok (.ifCond .eq 7, 3) := by decide +kernel
theorem dX10_claim_15 : decode cX10_claim 15 = .ok (.iconst 1, 1) := by decide +kernel
theorem dX10_claim_16 : decode cX10_claim 16 = .ok (.goto 4, 3) := by decide +kernel
theorem dX10_claim_19 : decode cX10_claim 19 = .ok (.iconst 0, 1) := by decide +kernel
theorem dX10_claim_20 : decode cX10_claim 20 = .ok (.istore_n 3, 1) := by decide +kernel
theorem dX10_claim_21 : decode cX10_claim 21 = .ok (.aload_n 0, 1) := by decide +kernel
theorem dX10_claim_22 : decode cX10_claim 22 = .ok (.iload_n 3, 1) := by decide +kernel
theorem dX10_claim_23 : decode cX10_claim 23 = .ok (.ifCond .ne 7, 3) := by decide +kernel
theorem dX10_claim_26 : decode cX10_claim 26 = .ok (.iconst 1, 1) := by decide +kernel
theorem dX10_claim_27 : decode cX10_claim 27 = .ok (.goto 44, 3) := by decide +kernel
theorem dX10_claim_30 : decode cX10_claim 30 = .ok (.aload_n 0, 1) := by decide +kernel
theorem dX10_claim_31 : decode cX10_claim 31 = .ok (.getfield 75, 3) := by decide +kernel
theorem dX10_claim_34 : decode cX10_claim 34 = .ok (.iload_n 2, 1) := by decide +kernel
theorem dX10_claim_35 : decode cX10_claim 35 = .ok (.iaload, 1) := by decide +kernel
theorem dX10_claim_36 : decode cX10_claim 36 = .ok (.iload_n 1, 1) := by decide +kernel
theorem dX10_claim_37 : decode cX10_claim 37 = .ok (.if_icmp .ne 29, 3) := by decide +kernel
theorem dX10_claim_40 : decode cX10_claim 40 = .ok (.aload_n 0, 1) := by decide +kernel
theorem dX10_claim_41 : decode cX10_claim 41 = .ok (.getfield 87, 3) := by decide +kernel
theorem dX10_claim_44 : decode cX10_claim 44 = .ok (.iload_n 2, 1) := by decide +kernel
theorem dX10_claim_45 : decode cX10_claim 45 = .ok (.baload, 1) := by decide +kernel
theorem dX10_claim_46 : decode cX10_claim 46 = .ok (.ifCond .ne 20, 3) := by decide +kernel
theorem dX10_claim_49 : decode cX10_claim 49 = .ok (.aload_n 0, 1) := by decide +kernel
theorem dX10_claim_50 : decode cX10_claim 50 = .ok (.getfield 224, 3) := by decide +kernel
theorem dX10_claim_53 : decode cX10_claim 53 = .ok (.aload_n 0, 1) := by decide +kernel
theorem dX10_claim_54 : decode cX10_claim 54 = .ok (.getfield 81, 3) := by decide +kernel
theorem dX10_claim_57 : decode cX10_claim 57 = .ok (.iload_n 2, 1) := by decide +kernel
theorem dX10_claim_58 : decode cX10_claim 58 = .ok (.iaload, 1) := by decide +kernel
theorem dX10_claim_59 : decode cX10_claim 59 = .ok (.sipush 240, 3) := by decide +kernel
theorem dX10_claim_62 : decode cX10_claim 62 = .ok (.iadd, 1) := by decide +kernel
theorem dX10_claim_63 : decode cX10_claim 63 = .ok (.if_icmp .le 7, 3) := by decide +kernel
theorem dX10_claim_66 : decode cX10_claim 66 = .ok (.iconst 2, 1) := by decide +kernel
theorem dX10_claim_67 : decode cX10_claim 67 = .ok (.goto 4, 3) := by decide +kernel
theorem dX10_claim_70 : decode cX10_claim 70 = .ok (.iconst 0, 1) := by decide +kernel
theorem dX10_claim_71 : decode cX10_claim 71 = .ok (.invokevirtual 178, 3) := by decide +kernel
theorem dX10_claim_74 : decode cX10_claim 74 = .ok (.ifCond .eq 5, 3) := by decide +kernel
theorem dX10_claim_77 : decode cX10_claim 77 = .ok (.iconst 0, 1) := by decide +kernel
theorem dX10_claim_78 : decode cX10_claim 78 = .ok (.ireturn, 1) := by decide +kernel
theorem dX10_claim_79 : decode cX10_claim 79 = .ok (.aload_n 0, 1) := by decide +kernel
theorem dX10_claim_80 : decode cX10_claim 80 = .ok (.getfield 87, 3) := by decide +kernel
theorem dX10_claim_83 : decode cX10_claim 83 = .ok (.iload_n 2, 1) := by decide +kernel
theorem dX10_claim_84 : decode cX10_claim 84 = .ok (.iconst 1, 1) := by decide +kernel
theorem dX10_claim_85 : decode cX10_claim 85 = .ok (.bastore, 1) := by decide +kernel
theorem dX10_claim_86 : decode cX10_claim 86 = .ok (.aload_n 0, 1) := by decide +kernel
theorem dX10_claim_87 : decode cX10_claim 87 = .ok (.getfield 63, 3) := by decide +kernel
theorem dX10_claim_90 : decode cX10_claim 90 = .ok (.iload_n 2, 1) := by decide +kernel
theorem dX10_claim_91 : decode cX10_claim 91 = .ok (.iaload, 1) := by decide +kernel
theorem dX10_claim_92 : decode cX10_claim 92 = .ok (.aload_n 0, 1) := by decide +kernel
theorem dX10_claim_93 : decode cX10_claim 93 = .ok (.getfield 66, 3) := by decide +kernel
theorem dX10_claim_96 : decode cX10_claim 96 = .ok (.iload_n 2, 1) := by decide +kernel
theorem dX10_claim_97 : decode cX10_claim 97 = .ok (.iaload, 1) := by decide +kernel
theorem dX10_claim_98 : decode cX10_claim 98 = .ok (.isub, 1) := by decide +kernel
theorem dX10_claim_99 : decode cX10_claim 99 = .ok (.istore 4, 2) := by decide +kernel
theorem dX10_claim_101 : decode cX10_claim 101 = .ok (.iload 4, 2) := by decide +kernel
theorem dX10_claim_103 : decode cX10_claim 103 = .ok (.bipush 100, 2) := by decide +kernel
theorem dX10_claim_105 : decode cX10_claim 105 = .ok (.imul, 1) := by decide +kernel
theorem dX10_claim_106 : decode cX10_claim 106 = .ok (.iconst 3, 1) := by decide +kernel
theorem dX10_claim_107 : decode cX10_claim 107 = .ok (.aload_n 0, 1) := by decide +kernel
theorem dX10_claim_108 : decode cX10_claim 108 = .ok (.getfield 63, 3) := by decide +kernel
theorem dX10_claim_111 : decode cX10_claim 111 = .ok (.iload_n 2, 1) := by decide +kernel
theorem dX10_claim_112 : decode cX10_claim 112 = .ok (.iaload, 1) := by decide +kernel
theorem dX10_claim_113 : decode cX10_claim 113 = .ok (.imul, 1) := by decide +kernel
theorem dX10_claim_114 : decode cX10_claim 114 = .ok (.if_icmp .le 15, 3) := by decide +kernel
theorem dX10_claim_117 : decode cX10_claim 117 = .ok (.iload 4, 2) := by decide +kernel
theorem dX10_claim_119 : decode cX10_claim 119 = .ok (.aload_n 0, 1) := by decide +kernel
theorem dX10_claim_120 : decode cX10_claim 120 = .ok (.getfield 78, 3) := by decide +kernel
theorem dX10_claim_123 : decode cX10_claim 123 = .ok (.iload_n 2, 1) := by decide +kernel
theorem dX10_claim_124 : decode cX10_claim 124 = .ok (.iaload, 1) := by decide +kernel
theorem dX10_claim_125 : decode cX10_claim 125 = .ok (.imul, 1) := by decide +kernel
theorem dX10_claim_126 : decode cX10_claim 126 = .ok (.goto 4, 3) := by decide +kernel
theorem dX10_claim_129 : decode cX10_claim 129 = .ok (.iconst 0, 1) := by decide +kernel
theorem dX10_claim_130 : decode cX10_claim 130 = .ok (.istore 5, 2) := by decide +kernel
theorem dX10_claim_132 : decode cX10_claim 132 = .ok (.aload_n 0, 1) := by decide +kernel
theorem dX10_claim_133 : decode cX10_claim 133 = .ok (.getfield 45, 3) := by decide +kernel
theorem dX10_claim_136 : decode cX10_claim 136 = .ok (.iload_n 1, 1) := by decide +kernel
theorem dX10_claim_137 : decode cX10_claim 137 = .ok (.dup2, 1) := by decide +kernel
theorem dX10_claim_138 : decode cX10_claim 138 = .ok (.iaload, 1) := by decide +kernel
theorem dX10_claim_139 : decode cX10_claim 139 = .ok (.iload 5, 2) := by decide +kernel
theorem dX10_claim_141 : decode cX10_claim 141 = .ok (.isub, 1) := by decide +kernel
theorem dX10_claim_142 : decode cX10_claim 142 = .ok (.iastore, 1) := by decide +kernel
theorem dX10_claim_143 : decode cX10_claim 143 = .ok (.aload_n 0, 1) := by decide +kernel
theorem dX10_claim_144 : decode cX10_claim 144 = .ok (.getfield 27, 3) := by decide +kernel
theorem dX10_claim_147 : decode cX10_claim 147 = .ok (.aload_n 0, 1) := by decide +kernel
theorem dX10_claim_148 : decode cX10_claim 148 = .ok (.getfield 51, 3) := by decide +kernel
theorem dX10_claim_151 : decode cX10_claim 151 = .ok (.iload_n 2, 1) := by decide +kernel
theorem dX10_claim_152 : decode cX10_claim 152 = .ok (.iaload, 1) := by decide +kernel
theorem dX10_claim_153 : decode cX10_claim 153 = .ok (.dup2, 1) := by decide +kernel
theorem dX10_claim_154 : decode cX10_claim 154 = .ok (.iaload, 1) := by decide +kernel
theorem dX10_claim_155 : decode cX10_claim 155 = .ok (.iload 5, 2) := by decide +kernel
theorem dX10_claim_157 : decode cX10_claim 157 = .ok (.isub, 1) := by decide +kernel
theorem dX10_claim_158 : decode cX10_claim 158 = .ok (.iastore, 1) := by decide +kernel
theorem dX10_claim_159 : decode cX10_claim 159 = .ok (.iload 5, 2) := by decide +kernel
theorem dX10_claim_161 : decode cX10_claim 161 = .ok (.ireturn, 1) := by decide +kernel
theorem dX10_settle_0 : decode cX10_settle 0 = .ok (.iload_n 2, 1) := by decide +kernel
theorem dX10_settle_1 : decode cX10_settle 1 = .ok (.iconst 0, 1) := by decide +kernel
theorem dX10_settle_2 : decode cX10_settle 2 = .ok (.ldc_w 282, 3) := by decide +kernel
theorem dX10_settle_5 : decode cX10_settle 5 = .ok (.invokestatic 163, 3) := by decide +kernel
theorem dX10_settle_8 : decode cX10_settle 8 = .ok (.ifCond .eq 17, 3) := by decide +kernel
theorem dX10_settle_11 : decode cX10_settle 11 = .ok (.iload_n 3, 1) := by decide +kernel
theorem dX10_settle_12 : decode cX10_settle 12 = .ok (.iconst 0, 1) := by decide +kernel
theorem dX10_settle_13 : decode cX10_settle 13 = .ok (.bipush 100, 2) := by decide +kernel
theorem dX10_settle_15 : decode cX10_settle 15 = .ok (.invokestatic 163, 3) := by decide +kernel
theorem dX10_settle_18 : decode cX10_settle 18 = .ok (.ifCond .eq 7, 3) := by decide +kernel
theorem dX10_settle_21 : decode cX10_settle 21 = .ok (.iconst 1, 1) := by decide +kernel
theorem dX10_settle_22 : decode cX10_settle 22 = .ok (.goto 4, 3) := by decide +kernel
theorem dX10_settle_25 : decode cX10_settle 25 = .ok (.iconst 0, 1) := by decide +kernel
theorem dX10_settle_26 : decode cX10_settle 26 = .ok (.istore 4, 2) := by decide +kernel
theorem dX10_settle_28 : decode cX10_settle 28 = .ok (.aload_n 0, 1) := by decide +kernel
theorem dX10_settle_29 : decode cX10_settle 29 = .ok (.iload_n 1, 1) := by decide +kernel
theorem dX10_settle_30 : decode cX10_settle 30 = .ok (.invokestatic 170, 3) := by decide +kernel
theorem dX10_settle_33 : decode cX10_settle 33 = .ok (.ifCond .ne 7, 3) := by decide +kernel
theorem dX10_settle_36 : decode cX10_settle 36 = .ok (.iconst 1, 1) := by decide +kernel
theorem dX10_settle_37 : decode cX10_settle 37 = .ok (.goto 13, 3) := by decide +kernel
theorem dX10_settle_40 : decode cX10_settle 40 = .ok (.iload 4, 2) := by decide +kernel
theorem dX10_settle_42 : decode cX10_settle 42 = .ok (.ifCond .eq 7, 3) := by decide +kernel
theorem dX10_settle_45 : decode cX10_settle 45 = .ok (.iconst 0, 1) := by decide +kernel
theorem dX10_settle_46 : decode cX10_settle 46 = .ok (.goto 4, 3) := by decide +kernel
theorem dX10_settle_49 : decode cX10_settle 49 = .ok (.iconst 2, 1) := by decide +kernel
theorem dX10_settle_50 : decode cX10_settle 50 = .ok (.invokevirtual 178, 3) := by decide +kernel
theorem dX10_settle_53 : decode cX10_settle 53 = .ok (.ifCond .eq 5, 3) := by decide +kernel
theorem dX10_settle_56 : decode cX10_settle 56 = .ok (.iconst 0, 1) := by decide +kernel
theorem dX10_settle_57 : decode cX10_settle 57 = .ok (.ireturn, 1) := by decide +kernel
theorem dX10_settle_58 : decode cX10_settle 58 = .ok (.aload_n 0, 1) := by decide +kernel
theorem dX10_settle_59 : decode cX10_settle 59 = .ok (.getfield 27, 3) := by decide +kernel
theorem dX10_settle_62 : decode cX10_settle 62 = .ok (.iload_n 1, 1) := by decide +kernel
theorem dX10_settle_63 : decode cX10_settle 63 = .ok (.iaload, 1) := by decide +kernel
theorem dX10_settle_64 : decode cX10_settle 64 = .ok (.i2l, 1) := by decide +kernel
theorem dX10_settle_65 : decode cX10_settle 65 = .ok (.lstore 5, 2) := by decide +kernel
theorem dX10_settle_67 : decode cX10_settle 67 = .ok (.lload 5, 2) := by decide +kernel
theorem dX10_settle_69 : decode cX10_settle 69 = .ok (.lload 5, 2) := by decide +kernel
theorem dX10_settle_71 : decode cX10_settle 71 = .ok (.lconst 0, 1) := by decide +kernel
theorem dX10_settle_72 : decode cX10_settle 72 = .ok (.lcmp, 1) := by decide +kernel
theorem dX10_settle_73 : decode cX10_settle 73 = .ok (.ifCond .ge 7, 3) := by decide +kernel
theorem dX10_settle_76 : decode cX10_settle 76 = .ok (.lconst 0, 1) := by decide +kernel
theorem dX10_settle_77 : decode cX10_settle 77 = .ok (.goto 13, 3) := by decide +kernel
theorem dX10_settle_80 : decode cX10_settle 80 = .ok (.lload 5, 2) := by decide +kernel
theorem dX10_settle_82 : decode cX10_settle 82 = .ok (.ldc2_w 283, 3) := by decide +kernel
theorem dX10_settle_85 : decode cX10_settle 85 = .ok (.lmul, 1) := by decide +kernel
theorem dX10_settle_86 : decode cX10_settle 86 = .ok (.ldc2_w 285, 3) := by decide +kernel
theorem dX10_settle_89 : decode cX10_settle 89 = .ok (.ldiv, 1) := by decide +kernel
theorem dX10_settle_90 : decode cX10_settle 90 = .ok (.lsub, 1) := by decide +kernel
theorem dX10_settle_91 : decode cX10_settle 91 = .ok (.iload_n 2, 1) := by decide +kernel
theorem dX10_settle_92 : decode cX10_settle 92 = .ok (.i2l, 1) := by decide +kernel
theorem dX10_settle_93 : decode cX10_settle 93 = .ok (.lsub, 1) := by decide +kernel
theorem dX10_settle_94 : decode cX10_settle 94 = .ok (.lstore 7, 2) := by decide +kernel
theorem dX10_settle_96 : decode cX10_settle 96 = .ok (.aload_n 0, 1) := by decide +kernel
theorem dX10_settle_97 : decode cX10_settle 97 = .ok (.getfield 27, 3) := by decide +kernel
theorem dX10_settle_100 : decode cX10_settle 100 = .ok (.iload_n 1, 1) := by decide +kernel
theorem dX10_settle_101 : decode cX10_settle 101 = .ok (.iconst 0, 1) := by decide +kernel
theorem dX10_settle_102 : decode cX10_settle 102 = .ok (.iastore, 1) := by decide +kernel
theorem dX10_settle_103 : decode cX10_settle 103 = .ok (.lload 7, 2) := by decide +kernel
theorem dX10_settle_105 : decode cX10_settle 105 = .ok (.lconst 0, 1) := by decide +kernel
theorem dX10_settle_106 : decode cX10_settle 106 = .ok (.lcmp, 1) := by decide +kernel
theorem dX10_settle_107 : decode cX10_settle 107 = .ok (.ifCond .ge 7, 3) := by decide +kernel
theorem dX10_settle_110 : decode cX10_settle 110 = .ok (.iconst 0, 1) := by decide +kernel
theorem dX10_settle_111 : decode cX10_settle 111 = .ok (.goto 13, 3) := by decide +kernel
theorem dX10_settle_114 : decode cX10_settle 114 = .ok (.lload 7, 2) := by decide +kernel
theorem dX10_settle_116 : decode cX10_settle 116 = .ok (.iload_n 3, 1) := by decide +kernel
theorem dX10_settle_117 : decode cX10_settle 117 = .ok (.i2l, 1) := by decide +kernel
theorem dX10_settle_118 : decode cX10_settle 118 = .ok (.lmul, 1) := by decide +kernel
theorem dX10_settle_119 : decode cX10_settle 119 = .ok (.ldc2_w 285, 3) := by decide +kernel
theorem dX10_settle_122 : decode cX10_settle 122 = .ok (.ldiv, 1) := by decide +kernel
theorem dX10_settle_123 : decode cX10_settle 123 = .ok (.l2i, 1) := by decide +kernel
theorem dX10_settle_124 : decode cX10_settle 124 = .ok (.ireturn, 1) := by decide +kernel
theorem dX10_now_0 : decode cX10_now 0 = .ok (.aload_n 0, 1) := by decide +kernel
theorem dX10_now_1 : decode cX10_now 1 = .ok (.iconst 0, 1) := by decide +kernel
theorem dX10_now_2 : decode cX10_now 2 = .ok (.putfield 160, 3) := by decide +kernel
theorem dX10_now_5 : decode cX10_now 5 = .ok (.aload_n 0, 1) := by decide +kernel
theorem dX10_now_6 : decode cX10_now 6 = .ok (.getfield 224, 3) := by decide +kernel
theorem dX10_now_9 : decode cX10_now 9 = .ok (.ireturn, 1) := by decide +kernel
theorem dX10_day_0 : decode cX10_day 0 = .ok (.aload_n 0, 1) := by decide +kernel
theorem dX10_day_1 : decode cX10_day 1 = .ok (.iconst 0, 1) := by decide +kernel
theorem dX10_day_2 : decode cX10_day 2 = .ok (.putfield 160, 3) := by decide +kernel
theorem dX10_day_5 : decode cX10_day 5 = .ok (.aload_n 0, 1) := by decide +kernel
theorem dX10_day_6 : decode cX10_day 6 = .ok (.getfield 221, 3) := by decide +kernel
theorem dX10_day_9 : decode cX10_day 9 = .ok (.ireturn, 1) := by decide +kernel
theorem dX10_isOpen_0 : decode cX10_isOpen 0 = .ok (.aload_n 0, 1) := by decide +kernel
theorem dX10_isOpen_1 : decode cX10_isOpen 1 = .ok (.iconst 0, 1) := by decide +kernel
theorem dX10_isOpen_2 : decode cX10_isOpen 2 = .ok (.putfield 160, 3) := by decide +kernel
theorem dX10_isOpen_5 : decode cX10_isOpen 5 = .ok (.aload_n 0, 1) := by decide +kernel
theorem dX10_isOpen_6 : decode cX10_isOpen 6 = .ok (.getfield 205, 3) := by decide +kernel
theorem dX10_isOpen_9 : decode cX10_isOpen 9 = .ok (.ireturn, 1) := by decide +kernel
theorem dX10_told_0 : decode cX10_told 0 = .ok (.aload_n 0, 1) := by decide +kernel
theorem dX10_told_1 : decode cX10_told 1 = .ok (.aload_n 0, 1) := by decide +kernel
theorem dX10_told_2 : decode cX10_told 2 = .ok (.iload_n 1, 1) := by decide +kernel
theorem dX10_told_3 : decode cX10_told 3 = .ok (.invokevirtual 279, 3) := by decide +kernel
theorem dX10_told_6 : decode cX10_told 6 = .ok (.ifCond .ne 7, 3) := by decide +kernel
theorem dX10_told_9 : decode cX10_told 9 = .ok (.iconst 1, 1) := by decide +kernel
theorem dX10_told_10 : decode cX10_told 10 = .ok (.goto 17, 3) := by decide +kernel
theorem dX10_told_13 : decode cX10_told 13 = .ok (.iload_n 2, 1) := by decide +kernel
theorem dX10_told_14 : decode cX10_told 14 = .ok (.iconst 0, 1) := by decide +kernel
theorem dX10_told_15 : decode cX10_told 15 = .ok (.iconst 4, 1) := by decide +kernel
theorem dX10_told_16 : decode cX10_told 16 = .ok (.invokestatic 163, 3) := by decide +kernel
theorem dX10_told_19 : decode cX10_told 19 = .ok (.ifCond .eq 7, 3) := by decide +kernel
theorem dX10_told_22 : decode cX10_told 22 = .ok (.iconst 0, 1) := by decide +kernel
theorem dX10_told_23 : decode cX10_told 23 = .ok (.goto 4, 3) := by decide +kernel
theorem dX10_told_26 : decode cX10_told 26 = .ok (.iconst 2, 1) := by decide +kernel
theorem dX10_told_27 : decode cX10_told 27 = .ok (.invokevirtual 178, 3) := by decide +kernel
theorem dX10_told_30 : decode cX10_told 30 = .ok (.ifCond .eq 5, 3) := by decide +kernel
theorem dX10_told_33 : decode cX10_told 33 = .ok (.iconst 0, 1) := by decide +kernel
theorem dX10_told_34 : decode cX10_told 34 = .ok (.ireturn, 1) := by decide +kernel
theorem dX10_told_35 : decode cX10_told 35 = .ok (.iload_n 2, 1) := by decide +kernel
theorem dX10_told_36 : decode cX10_told 36 = .ok (.ifCond .ne 12, 3) := by decide +kernel
theorem dX10_told_39 : decode cX10_told 39 = .ok (.aload_n 0, 1) := by decide +kernel
theorem dX10_told_40 : decode cX10_told 40 = .ok (.getfield 69, 3) := by decide +kernel
theorem dX10_told_43 : decode cX10_told 43 = .ok (.iload_n 1, 1) := by decide +kernel
theorem dX10_told_44 : decode cX10_told 44 = .ok (.iaload, 1) := by decide +kernel
theorem dX10_told_45 : decode cX10_told 45 = .ok (.goto 51, 3) := by decide +kernel
theorem dX10_told_48 : decode cX10_told 48 = .ok (.iload_n 2, 1) := by decide +kernel
theorem dX10_told_49 : decode cX10_told 49 = .ok (.iconst 1, 1) := by decide +kernel
theorem dX10_told_50 : decode cX10_told 50 = .ok (.if_icmp .ne 12, 3) := by decide +kernel
theorem dX10_told_53 : decode cX10_told 53 = .ok (.aload_n 0, 1) := by decide +kernel
theorem dX10_told_54 : decode cX10_told 54 = .ok (.getfield 60, 3) := by decide +kernel
theorem dX10_told_57 : decode cX10_told 57 = .ok (.iload_n 1, 1) := by decide +kernel
theorem dX10_told_58 : decode cX10_told 58 = .ok (.iaload, 1) := by decide +kernel
theorem dX10_told_59 : decode cX10_told 59 = .ok (.goto 37, 3) := by decide +kernel
theorem dX10_told_62 : decode cX10_told 62 = .ok (.iload_n 2, 1) := by decide +kernel
theorem dX10_told_63 : decode cX10_told 63 = .ok (.iconst 2, 1) := by decide +kernel
theorem dX10_told_64 : decode cX10_told 64 = .ok (.if_icmp .ne 12, 3) := by decide +kernel
theorem dX10_told_67 : decode cX10_told 67 = .ok (.aload_n 0, 1) := by decide +kernel
theorem dX10_told_68 : decode cX10_told 68 = .ok (.getfield 75, 3) := by decide +kernel
theorem dX10_told_71 : decode cX10_told 71 = .ok (.iload_n 1, 1) := by decide +kernel
theorem dX10_told_72 : decode cX10_told 72 = .ok (.iaload, 1) := by decide +kernel
theorem dX10_told_73 : decode cX10_told 73 = .ok (.goto 23, 3) := by decide +kernel
theorem dX10_told_76 : decode cX10_told 76 = .ok (.iload_n 2, 1) := by decide +kernel
theorem dX10_told_77 : decode cX10_told 77 = .ok (.iconst 3, 1) := by decide +kernel
theorem dX10_told_78 : decode cX10_told 78 = .ok (.if_icmp .ne 12, 3) := by decide +kernel
theorem dX10_told_81 : decode cX10_told 81 = .ok (.aload_n 0, 1) := by decide +kernel
theorem dX10_told_82 : decode cX10_told 82 = .ok (.getfield 78, 3) := by decide +kernel
theorem dX10_told_85 : decode cX10_told 85 = .ok (.iload_n 1, 1) := by decide +kernel
theorem dX10_told_86 : decode cX10_told 86 = .ok (.iaload, 1) := by decide +kernel
theorem dX10_told_87 : decode cX10_told 87 = .ok (.goto 9, 3) := by decide +kernel
theorem dX10_told_90 : decode cX10_told 90 = .ok (.aload_n 0, 1) := by decide +kernel
theorem dX10_told_91 : decode cX10_told 91 = .ok (.getfield 90, 3) := by decide +kernel
theorem dX10_told_94 : decode cX10_told 94 = .ok (.iload_n 1, 1) := by decide +kernel
theorem dX10_told_95 : decode cX10_told 95 = .ok (.iaload, 1) := by decide +kernel
theorem dX10_told_96 : decode cX10_told 96 = .ok (.ireturn, 1) := by decide +kernel
theorem dX10_lot_0 : decode cX10_lot 0 = .ok (.aload_n 0, 1) := by decide +kernel
theorem dX10_lot_1 : decode cX10_lot 1 = .ok (.iload_n 1, 1) := by decide +kernel
theorem dX10_lot_2 : decode cX10_lot 2 = .ok (.iconst 0, 1) := by decide +kernel
theorem dX10_lot_3 : decode cX10_lot 3 = .ok (.aload_n 0, 1) := by decide +kernel
theorem dX10_lot_4 : decode cX10_lot 4 = .ok (.getfield 192, 3) := by decide +kernel
theorem dX10_lot_7 : decode cX10_lot 7 = .ok (.iconst 1, 1) := by decide +kernel
theorem dX10_lot_8 : decode cX10_lot 8 = .ok (.isub, 1) := by decide +kernel
theorem dX10_lot_9 : decode cX10_lot 9 = .ok (.invokestatic 163, 3) := by decide +kernel
theorem dX10_lot_12 : decode cX10_lot 12 = .ok (.ifCond .ne 7, 3) := by decide +kernel
theorem dX10_lot_15 : decode cX10_lot 15 = .ok (.iconst 1, 1) := by decide +kernel
theorem dX10_lot_16 : decode cX10_lot 16 = .ok (.goto 17, 3) := by decide +kernel
theorem dX10_lot_19 : decode cX10_lot 19 = .ok (.iload_n 2, 1) := by decide +kernel
theorem dX10_lot_20 : decode cX10_lot 20 = .ok (.iconst 0, 1) := by decide +kernel
theorem dX10_lot_21 : decode cX10_lot 21 = .ok (.iconst 5, 1) := by decide +kernel
theorem dX10_lot_22 : decode cX10_lot 22 = .ok (.invokestatic 163, 3) := by decide +kernel
theorem dX10_lot_25 : decode cX10_lot 25 = .ok (.ifCond .eq 7, 3) := by decide +kernel
theorem dX10_lot_28 : decode cX10_lot 28 = .ok (.iconst 0, 1) := by decide +kernel
theorem dX10_lot_29 : decode cX10_lot 29 = .ok (.goto 4, 3) := by decide +kernel
theorem dX10_lot_32 : decode cX10_lot 32 = .ok (.iconst 2, 1) := by decide +kernel
theorem dX10_lot_33 : decode cX10_lot 33 = .ok (.invokevirtual 178, 3) := by decide +kernel
theorem dX10_lot_36 : decode cX10_lot 36 = .ok (.ifCond .eq 5, 3) := by decide +kernel
theorem dX10_lot_39 : decode cX10_lot 39 = .ok (.iconst 0, 1) := by decide +kernel
theorem dX10_lot_40 : decode cX10_lot 40 = .ok (.ireturn, 1) := by decide +kernel
theorem dX10_lot_41 : decode cX10_lot 41 = .ok (.iload_n 2, 1) := by decide +kernel
theorem dX10_lot_42 : decode cX10_lot 42 = .ok (.tableswitch 69 0 4 #[34, 41, 48, 55, 62], 34) := by decide +kernel
theorem dX10_lot_76 : decode cX10_lot 76 = .ok (.aload_n 0, 1) := by decide +kernel
theorem dX10_lot_77 : decode cX10_lot 77 = .ok (.getfield 93, 3) := by decide +kernel
theorem dX10_lot_80 : decode cX10_lot 80 = .ok (.iload_n 1, 1) := by decide +kernel
theorem dX10_lot_81 : decode cX10_lot 81 = .ok (.iaload, 1) := by decide +kernel
theorem dX10_lot_82 : decode cX10_lot 82 = .ok (.ireturn, 1) := by decide +kernel
theorem dX10_lot_83 : decode cX10_lot 83 = .ok (.aload_n 0, 1) := by decide +kernel
theorem dX10_lot_84 : decode cX10_lot 84 = .ok (.getfield 96, 3) := by decide +kernel
theorem dX10_lot_87 : decode cX10_lot 87 = .ok (.iload_n 1, 1) := by decide +kernel
theorem dX10_lot_88 : decode cX10_lot 88 = .ok (.iaload, 1) := by decide +kernel
theorem dX10_lot_89 : decode cX10_lot 89 = .ok (.ireturn, 1) := by decide +kernel
theorem dX10_lot_90 : decode cX10_lot 90 = .ok (.aload_n 0, 1) := by decide +kernel
theorem dX10_lot_91 : decode cX10_lot 91 = .ok (.getfield 99, 3) := by decide +kernel
theorem dX10_lot_94 : decode cX10_lot 94 = .ok (.iload_n 1, 1) := by decide +kernel
theorem dX10_lot_95 : decode cX10_lot 95 = .ok (.iaload, 1) := by decide +kernel
theorem dX10_lot_96 : decode cX10_lot 96 = .ok (.ireturn, 1) := by decide +kernel
theorem dX10_lot_97 : decode cX10_lot 97 = .ok (.aload_n 0, 1) := by decide +kernel
theorem dX10_lot_98 : decode cX10_lot 98 = .ok (.getfield 102, 3) := by decide +kernel
theorem dX10_lot_101 : decode cX10_lot 101 = .ok (.iload_n 1, 1) := by decide +kernel
theorem dX10_lot_102 : decode cX10_lot 102 = .ok (.iaload, 1) := by decide +kernel
theorem dX10_lot_103 : decode cX10_lot 103 = .ok (.ireturn, 1) := by decide +kernel
theorem dX10_lot_104 : decode cX10_lot 104 = .ok (.aload_n 0, 1) := by decide +kernel
theorem dX10_lot_105 : decode cX10_lot 105 = .ok (.getfield 105, 3) := by decide +kernel
theorem dX10_lot_108 : decode cX10_lot 108 = .ok (.iload_n 1, 1) := by decide +kernel
theorem dX10_lot_109 : decode cX10_lot 109 = .ok (.iaload, 1) := by decide +kernel
theorem dX10_lot_110 : decode cX10_lot 110 = .ok (.ireturn, 1) := by decide +kernel
theorem dX10_lot_111 : decode cX10_lot 111 = .ok (.aload_n 0, 1) := by decide +kernel
theorem dX10_lot_112 : decode cX10_lot 112 = .ok (.iload_n 1, 1) := by decide +kernel
theorem dX10_lot_113 : decode cX10_lot 113 = .ok (.invokevirtual 230, 3) := by decide +kernel
theorem dX10_lot_116 : decode cX10_lot 116 = .ok (.ireturn, 1) := by decide +kernel
theorem dX10_lotsOf_0 : decode cX10_lotsOf 0 = .ok (.iconst 0, 1) := by decide +kernel
theorem dX10_lotsOf_1 : decode cX10_lotsOf 1 = .ok (.istore_n 2, 1) := by decide +kernel
theorem dX10_lotsOf_2 : decode cX10_lotsOf 2 = .ok (.iconst 0, 1) := by decide +kernel
theorem dX10_lotsOf_3 : decode cX10_lotsOf 3 = .ok (.istore_n 3, 1) := by decide +kernel
theorem dX10_lotsOf_4 : decode cX10_lotsOf 4 = .ok (.iload_n 3, 1) := by decide +kernel
theorem dX10_lotsOf_5 : decode cX10_lotsOf 5 = .ok (.aload_n 0, 1) := by decide +kernel
theorem dX10_lotsOf_6 : decode cX10_lotsOf 6 = .ok (.getfield 192, 3) := by decide +kernel
theorem dX10_lotsOf_9 : decode cX10_lotsOf 9 = .ok (.if_icmp .ge 36, 3) := by decide +kernel
theorem dX10_lotsOf_12 : decode cX10_lotsOf 12 = .ok (.iload_n 2, 1) := by decide +kernel
theorem dX10_lotsOf_13 : decode cX10_lotsOf 13 = .ok (.aload_n 0, 1) := by decide +kernel
theorem dX10_lotsOf_14 : decode cX10_lotsOf 14 = .ok (.getfield 105, 3) := by decide +kernel
theorem dX10_lotsOf_17 : decode cX10_lotsOf 17 = .ok (.iload_n 3, 1) := by decide +kernel
theorem dX10_lotsOf_18 : decode cX10_lotsOf 18 = .ok (.iaload, 1) := by decide +kernel
theorem dX10_lotsOf_19 : decode cX10_lotsOf 19 = .ok (.iload_n 1, 1) := by decide +kernel
theorem dX10_lotsOf_20 : decode cX10_lotsOf 20 = .ok (.if_icmp .ne 16, 3) := by decide +kernel
theorem dX10_lotsOf_23 : decode cX10_lotsOf 23 = .ok (.aload_n 0, 1) := by decide +kernel
theorem dX10_lotsOf_24 : decode cX10_lotsOf 24 = .ok (.getfield 108, 3) := by decide +kernel
theorem dX10_lotsOf_27 : decode cX10_lotsOf 27 = .ok (.iload_n 3, 1) := by decide +kernel
theorem dX10_lotsOf_28 : decode cX10_lotsOf 28 = .ok (.baload, 1) := by decide +kernel
theorem dX10_lotsOf_29 : decode cX10_lotsOf 29 = .ok (.ifCond .ne 7, 3) := by decide +kernel
theorem dX10_lotsOf_32 : decode cX10_lotsOf 32 = .ok (.iconst 1, 1) := by decide +kernel
theorem dX10_lotsOf_33 : decode cX10_lotsOf 33 = .ok (.goto 4, 3) := by decide +kernel
theorem dX10_lotsOf_36 : decode cX10_lotsOf 36 = .ok (.iconst 0, 1) := by decide +kernel
theorem dX10_lotsOf_37 : decode cX10_lotsOf 37 = .ok (.iadd, 1) := by decide +kernel
theorem dX10_lotsOf_38 : decode cX10_lotsOf 38 = .ok (.istore_n 2, 1) := by decide +kernel
theorem dX10_lotsOf_39 : decode cX10_lotsOf 39 = .ok (.iinc 3 1, 3) := by decide +kernel
theorem dX10_lotsOf_42 : decode cX10_lotsOf 42 = .ok (.goto (-38), 3) := by decide +kernel
theorem dX10_lotsOf_45 : decode cX10_lotsOf 45 = .ok (.iload_n 2, 1) := by decide +kernel
theorem dX10_lotsOf_46 : decode cX10_lotsOf 46 = .ok (.ireturn, 1) := by decide +kernel
theorem dX10_hall_0 : decode cX10_hall 0 = .ok (.aload_n 0, 1) := by decide +kernel
theorem dX10_hall_1 : decode cX10_hall 1 = .ok (.iload_n 1, 1) := by decide +kernel
theorem dX10_hall_2 : decode cX10_hall 2 = .ok (.invokestatic 181, 3) := by decide +kernel
theorem dX10_hall_5 : decode cX10_hall 5 = .ok (.ifCond .ne 7, 3) := by decide +kernel
theorem dX10_hall_8 : decode cX10_hall 8 = .ok (.iconst 1, 1) := by decide +kernel
theorem dX10_hall_9 : decode cX10_hall 9 = .ok (.goto 17, 3) := by decide +kernel
theorem dX10_hall_12 : decode cX10_hall 12 = .ok (.iload_n 2, 1) := by decide +kernel
theorem dX10_hall_13 : decode cX10_hall 13 = .ok (.iconst 0, 1) := by decide +kernel
theorem dX10_hall_14 : decode cX10_hall 14 = .ok (.iconst 4, 1) := by decide +kernel
theorem dX10_hall_15 : decode cX10_hall 15 = .ok (.invokestatic 163, 3) := by decide +kernel
theorem dX10_hall_18 : decode cX10_hall 18 = .ok (.ifCond .eq 7, 3) := by decide +kernel
theorem dX10_hall_21 : decode cX10_hall 21 = .ok (.iconst 0, 1) := by decide +kernel
theorem dX10_hall_22 : decode cX10_hall 22 = .ok (.goto 4, 3) := by decide +kernel
theorem dX10_hall_25 : decode cX10_hall 25 = .ok (.iconst 2, 1) := by decide +kernel
theorem dX10_hall_26 : decode cX10_hall 26 = .ok (.invokevirtual 178, 3) := by decide +kernel
theorem dX10_hall_29 : decode cX10_hall 29 = .ok (.ifCond .eq 5, 3) := by decide +kernel
theorem dX10_hall_32 : decode cX10_hall 32 = .ok (.iconst 0, 1) := by decide +kernel
theorem dX10_hall_33 : decode cX10_hall 33 = .ok (.ireturn, 1) := by decide +kernel
theorem dX10_hall_34 : decode cX10_hall 34 = .ok (.iload_n 2, 1) := by decide +kernel
theorem dX10_hall_35 : decode cX10_hall 35 = .ok (.ifCond .ne 12, 3) := by decide +kernel
theorem dX10_hall_38 : decode cX10_hall 38 = .ok (.aload_n 0, 1) := by decide +kernel
theorem dX10_hall_39 : decode cX10_hall 39 = .ok (.getfield 117, 3) := by decide +kernel
theorem dX10_hall_42 : decode cX10_hall 42 = .ok (.iload_n 1, 1) := by decide +kernel
theorem dX10_hall_43 : decode cX10_hall 43 = .ok (.iaload, 1) := by decide +kernel
theorem dX10_hall_44 : decode cX10_hall 44 = .ok (.goto 50, 3) := by decide +kernel
theorem dX10_hall_47 : decode cX10_hall 47 = .ok (.iload_n 2, 1) := by decide +kernel
theorem dX10_hall_48 : decode cX10_hall 48 = .ok (.iconst 1, 1) := by decide +kernel
theorem dX10_hall_49 : decode cX10_hall 49 = .ok (.if_icmp .ne 12, 3) := by decide +kernel
theorem dX10_hall_52 : decode cX10_hall 52 = .ok (.aload_n 0, 1) := by decide +kernel
theorem dX10_hall_53 : decode cX10_hall 53 = .ok (.getfield 120, 3) := by decide +kernel
theorem dX10_hall_56 : decode cX10_hall 56 = .ok (.iload_n 1, 1) := by decide +kernel
theorem dX10_hall_57 : decode cX10_hall 57 = .ok (.iaload, 1) := by decide +kernel
theorem dX10_hall_58 : decode cX10_hall 58 = .ok (.goto 36, 3) := by decide +kernel
theorem dX10_hall_61 : decode cX10_hall 61 = .ok (.iload_n 2, 1) := by decide +kernel
theorem dX10_hall_62 : decode cX10_hall 62 = .ok (.iconst 2, 1) := by decide +kernel
theorem dX10_hall_63 : decode cX10_hall 63 = .ok (.if_icmp .ne 12, 3) := by decide +kernel
theorem dX10_hall_66 : decode cX10_hall 66 = .ok (.aload_n 0, 1) := by decide +kernel
theorem dX10_hall_67 : decode cX10_hall 67 = .ok (.getfield 123, 3) := by decide +kernel
theorem dX10_hall_70 : decode cX10_hall 70 = .ok (.iload_n 1, 1) := by decide +kernel
theorem dX10_hall_71 : decode cX10_hall 71 = .ok (.iaload, 1) := by decide +kernel
theorem dX10_hall_72 : decode cX10_hall 72 = .ok (.goto 22, 3) := by decide +kernel
theorem dX10_hall_75 : decode cX10_hall 75 = .ok (.iload_n 2, 1) := by decide +kernel
theorem dX10_hall_76 : decode cX10_hall 76 = .ok (.iconst 3, 1) := by decide +kernel
theorem dX10_hall_77 : decode cX10_hall 77 = .ok (.if_icmp .ne 12, 3) := by decide +kernel
theorem dX10_hall_80 : decode cX10_hall 80 = .ok (.aload_n 0, 1) := by decide +kernel
theorem dX10_hall_81 : decode cX10_hall 81 = .ok (.getfield 129, 3) := by decide +kernel
theorem dX10_hall_84 : decode cX10_hall 84 = .ok (.iload_n 1, 1) := by decide +kernel
theorem dX10_hall_85 : decode cX10_hall 85 = .ok (.iaload, 1) := by decide +kernel
theorem dX10_hall_86 : decode cX10_hall 86 = .ok (.goto 8, 3) := by decide +kernel
theorem dX10_hall_89 : decode cX10_hall 89 = .ok (.aload_n 0, 1) := by decide +kernel
theorem dX10_hall_90 : decode cX10_hall 90 = .ok (.iload_n 1, 1) := by decide +kernel
theorem dX10_hall_91 : decode cX10_hall 91 = .ok (.invokevirtual 287, 3) := by decide +kernel
theorem dX10_hall_94 : decode cX10_hall 94 = .ok (.ireturn, 1) := by decide +kernel
theorem dX10_account_0 : decode cX10_account 0 = .ok (.aload_n 0, 1) := by decide +kernel
theorem dX10_account_1 : decode cX10_account 1 = .ok (.iload_n 1, 1) := by decide +kernel
theorem dX10_account_2 : decode cX10_account 2 = .ok (.invokestatic 170, 3) := by decide +kernel
theorem dX10_account_5 : decode cX10_account 5 = .ok (.ifCond .ne 7, 3) := by decide +kernel
theorem dX10_account_8 : decode cX10_account 8 = .ok (.iconst 1, 1) := by decide +kernel
theorem dX10_account_9 : decode cX10_account 9 = .ok (.goto 17, 3) := by decide +kernel
theorem dX10_account_12 : decode cX10_account 12 = .ok (.iload_n 2, 1) := by decide +kernel
theorem dX10_account_13 : decode cX10_account 13 = .ok (.iconst 0, 1) := by decide +kernel
theorem dX10_account_14 : decode cX10_account 14 = .ok (.iconst 2, 1) := by decide +kernel
theorem dX10_account_15 : decode cX10_account 15 = .ok (.invokestatic 163, 3) := by decide +kernel
theorem dX10_account_18 : decode cX10_account 18 = .ok (.ifCond .eq 7, 3) := by decide +kernel
theorem dX10_account_21 : decode cX10_account 21 = .ok (.iconst 0, 1) := by decide +kernel
theorem dX10_account_22 : decode cX10_account 22 = .ok (.goto 4, 3) := by decide +kernel
theorem dX10_account_25 : decode cX10_account 25 = .ok (.iconst 2, 1) := by decide +kernel
theorem dX10_account_26 : decode cX10_account 26 = .ok (.invokevirtual 178, 3) := by decide +kernel
theorem dX10_account_29 : decode cX10_account 29 = .ok (.ifCond .eq 5, 3) := by decide +kernel
theorem dX10_account_32 : decode cX10_account 32 = .ok (.iconst 0, 1) := by decide +kernel
theorem dX10_account_33 : decode cX10_account 33 = .ok (.ireturn, 1) := by decide +kernel
theorem dX10_account_34 : decode cX10_account 34 = .ok (.iconst 0, 1) := by decide +kernel
theorem dX10_account_35 : decode cX10_account 35 = .ok (.istore_n 3, 1) := by decide +kernel
theorem dX10_account_36 : decode cX10_account 36 = .ok (.iconst 0, 1) := by decide +kernel
theorem dX10_account_37 : decode cX10_account 37 = .ok (.istore 4, 2) := by decide +kernel
theorem dX10_account_39 : decode cX10_account 39 = .ok (.iload 4, 2) := by decide +kernel
theorem dX10_account_41 : decode cX10_account 41 = .ok (.aload_n 0, 1) := by decide +kernel
theorem dX10_account_42 : decode cX10_account 42 = .ok (.getfield 167, 3) := by decide +kernel
theorem dX10_account_45 : decode cX10_account 45 = .ok (.if_icmp .ge 28, 3) := by decide +kernel
theorem dX10_account_48 : decode cX10_account 48 = .ok (.iload_n 3, 1) := by decide +kernel
theorem dX10_account_49 : decode cX10_account 49 = .ok (.aload_n 0, 1) := by decide +kernel
theorem dX10_account_50 : decode cX10_account 50 = .ok (.getfield 75, 3) := by decide +kernel
theorem dX10_account_53 : decode cX10_account 53 = .ok (.iload 4, 2) := by decide +kernel
theorem dX10_account_55 : decode cX10_account 55 = .ok (.iaload, 1) := by decide +kernel
theorem dX10_account_56 : decode cX10_account 56 = .ok (.iload_n 1, 1) := by decide +kernel
theorem dX10_account_57 : decode cX10_account 57 = .ok (.if_icmp .ne 7, 3) := by decide +kernel
theorem dX10_account_60 : decode cX10_account 60 = .ok (.iconst 1, 1) := by decide +kernel
theorem dX10_account_61 : decode cX10_account 61 = .ok (.goto 4, 3) := by decide +kernel
theorem dX10_account_64 : decode cX10_account 64 = .ok (.iconst 0, 1) := by decide +kernel
theorem dX10_account_65 : decode cX10_account 65 = .ok (.iadd, 1) := by decide +kernel
theorem dX10_account_66 : decode cX10_account 66 = .ok (.istore_n 3, 1) := by decide +kernel
theorem dX10_account_67 : decode cX10_account 67 = .ok (.iinc 4 1, 3) := by decide +kernel
theorem dX10_account_70 : decode cX10_account 70 = .ok (.goto (-31), 3) := by decide +kernel
theorem dX10_account_73 : decode cX10_account 73 = .ok (.iload_n 2, 1) := by decide +kernel
theorem dX10_account_74 : decode cX10_account 74 = .ok (.ifCond .ne 12, 3) := by decide +kernel
theorem dX10_account_77 : decode cX10_account 77 = .ok (.aload_n 0, 1) := by decide +kernel
theorem dX10_account_78 : decode cX10_account 78 = .ok (.getfield 39, 3) := by decide +kernel
theorem dX10_account_81 : decode cX10_account 81 = .ok (.iload_n 1, 1) := by decide +kernel
theorem dX10_account_82 : decode cX10_account 82 = .ok (.iaload, 1) := by decide +kernel
theorem dX10_account_83 : decode cX10_account 83 = .ok (.goto 18, 3) := by decide +kernel
theorem dX10_account_86 : decode cX10_account 86 = .ok (.iload_n 2, 1) := by decide +kernel
theorem dX10_account_87 : decode cX10_account 87 = .ok (.iconst 1, 1) := by decide +kernel
theorem dX10_account_88 : decode cX10_account 88 = .ok (.if_icmp .ne 12, 3) := by decide +kernel
theorem dX10_account_91 : decode cX10_account 91 = .ok (.aload_n 0, 1) := by decide +kernel
theorem dX10_account_92 : decode cX10_account 92 = .ok (.getfield 45, 3) := by decide +kernel
theorem dX10_account_95 : decode cX10_account 95 = .ok (.iload_n 1, 1) := by decide +kernel
theorem dX10_account_96 : decode cX10_account 96 = .ok (.iaload, 1) := by decide +kernel
theorem dX10_account_97 : decode cX10_account 97 = .ok (.goto 4, 3) := by decide +kernel
theorem dX10_account_100 : decode cX10_account 100 = .ok (.iload_n 3, 1) := by decide +kernel
theorem dX10_account_101 : decode cX10_account 101 = .ok (.ireturn, 1) := by decide +kernel
theorem dX10_ship_0 : decode cX10_ship 0 = .ok (.aload_n 0, 1) := by decide +kernel
theorem dX10_ship_1 : decode cX10_ship 1 = .ok (.iload_n 1, 1) := by decide +kernel
theorem dX10_ship_2 : decode cX10_ship 2 = .ok (.invokestatic 170, 3) := by decide +kernel
theorem dX10_ship_5 : decode cX10_ship 5 = .ok (.ifCond .ne 7, 3) := by decide +kernel
theorem dX10_ship_8 : decode cX10_ship 8 = .ok (.iconst 1, 1) := by decide +kernel
theorem dX10_ship_9 : decode cX10_ship 9 = .ok (.goto 17, 3) := by decide +kernel
theorem dX10_ship_12 : decode cX10_ship 12 = .ok (.iload_n 2, 1) := by decide +kernel
theorem dX10_ship_13 : decode cX10_ship 13 = .ok (.iconst 0, 1) := by decide +kernel
theorem dX10_ship_14 : decode cX10_ship 14 = .ok (.iconst 2, 1) := by decide +kernel
theorem dX10_ship_15 : decode cX10_ship 15 = .ok (.invokestatic 163, 3) := by decide +kernel
theorem dX10_ship_18 : decode cX10_ship 18 = .ok (.ifCond .eq 7, 3) := by decide +kernel
theorem dX10_ship_21 : decode cX10_ship 21 = .ok (.iconst 0, 1) := by decide +kernel
theorem dX10_ship_22 : decode cX10_ship 22 = .ok (.goto 4, 3) := by decide +kernel
theorem dX10_ship_25 : decode cX10_ship 25 = .ok (.iconst 2, 1) := by decide +kernel
theorem dX10_ship_26 : decode cX10_ship 26 = .ok (.invokevirtual 178, 3) := by decide +kernel
theorem dX10_ship_29 : decode cX10_ship 29 = .ok (.ifCond .eq 5, 3) := by decide +kernel
theorem dX10_ship_32 : decode cX10_ship 32 = .ok (.iconst 0, 1) := by decide +kernel
theorem dX10_ship_33 : decode cX10_ship 33 = .ok (.ireturn, 1) := by decide +kernel
theorem dX10_ship_34 : decode cX10_ship 34 = .ok (.iconst 0, 1) := by decide +kernel
theorem dX10_ship_35 : decode cX10_ship 35 = .ok (.istore_n 3, 1) := by decide +kernel
theorem dX10_ship_36 : decode cX10_ship 36 = .ok (.iconst 4, 1) := by decide +kernel
theorem dX10_ship_37 : decode cX10_ship 37 = .ok (.iload_n 1, 1) := by decide +kernel
theorem dX10_ship_38 : decode cX10_ship 38 = .ok (.imul, 1) := by decide +kernel
theorem dX10_ship_39 : decode cX10_ship 39 = .ok (.istore 4, 2) := by decide +kernel
theorem dX10_ship_41 : decode cX10_ship 41 = .ok (.iload 4, 2) := by decide +kernel
theorem dX10_ship_43 : decode cX10_ship 43 = .ok (.iconst 4, 1) := by decide +kernel
theorem dX10_ship_44 : decode cX10_ship 44 = .ok (.iload_n 1, 1) := by decide +kernel
theorem dX10_ship_45 : decode cX10_ship 45 = .ok (.imul, 1) := by decide +kernel
theorem dX10_ship_46 : decode cX10_ship 46 = .ok (.iconst 4, 1) := by decide +kernel
theorem dX10_ship_47 : decode cX10_ship 47 = .ok (.iadd, 1) := by decide +kernel
theorem dX10_ship_48 : decode cX10_ship 48 = .ok (.if_icmp .ge 19, 3) := by decide +kernel
theorem dX10_ship_51 : decode cX10_ship 51 = .ok (.iload_n 3, 1) := by decide +kernel
theorem dX10_ship_52 : decode cX10_ship 52 = .ok (.aload_n 0, 1) := by decide +kernel
theorem dX10_ship_53 : decode cX10_ship 53 = .ok (.getfield 17, 3) := by decide +kernel
theorem dX10_ship_56 : decode cX10_ship 56 = .ok (.iload 4, 2) := by decide +kernel
theorem dX10_ship_58 : decode cX10_ship 58 = .ok (.iaload, 1) := by decide +kernel
theorem dX10_ship_59 : decode cX10_ship 59 = .ok (.iadd, 1) := by decide +kernel
theorem dX10_ship_60 : decode cX10_ship 60 = .ok (.istore_n 3, 1) := by decide +kernel
theorem dX10_ship_61 : decode cX10_ship 61 = .ok (.iinc 4 1, 3) := by decide +kernel
theorem dX10_ship_64 : decode cX10_ship 64 = .ok (.goto (-23), 3) := by decide +kernel
theorem dX10_ship_67 : decode cX10_ship 67 = .ok (.iload_n 2, 1) := by decide +kernel
theorem dX10_ship_68 : decode cX10_ship 68 = .ok (.ifCond .ne 12, 3) := by decide +kernel
theorem dX10_ship_71 : decode cX10_ship 71 = .ok (.aload_n 0, 1) := by decide +kernel
theorem dX10_ship_72 : decode cX10_ship 72 = .ok (.getfield 27, 3) := by decide +kernel
theorem dX10_ship_75 : decode cX10_ship 75 = .ok (.iload_n 1, 1) := by decide +kernel
theorem dX10_ship_76 : decode cX10_ship 76 = .ok (.iaload, 1) := by decide +kernel
theorem dX10_ship_77 : decode cX10_ship 77 = .ok (.goto 18, 3) := by decide +kernel
theorem dX10_ship_80 : decode cX10_ship 80 = .ok (.iload_n 2, 1) := by decide +kernel
theorem dX10_ship_81 : decode cX10_ship 81 = .ok (.iconst 1, 1) := by decide +kernel
theorem dX10_ship_82 : decode cX10_ship 82 = .ok (.if_icmp .ne 12, 3) := by decide +kernel
theorem dX10_ship_85 : decode cX10_ship 85 = .ok (.aload_n 0, 1) := by decide +kernel
theorem dX10_ship_86 : decode cX10_ship 86 = .ok (.getfield 20, 3) := by decide +kernel
theorem dX10_ship_89 : decode cX10_ship 89 = .ok (.iload_n 1, 1) := by decide +kernel
theorem dX10_ship_90 : decode cX10_ship 90 = .ok (.iaload, 1) := by decide +kernel
theorem dX10_ship_91 : decode cX10_ship 91 = .ok (.goto 4, 3) := by decide +kernel
theorem dX10_ship_94 : decode cX10_ship 94 = .ok (.iload_n 3, 1) := by decide +kernel
theorem dX10_ship_95 : decode cX10_ship 95 = .ok (.ireturn, 1) := by decide +kernel
theorem dX10_isOf_0 : decode cX10_isOf 0 = .ok (.iload_n 1, 1) := by decide +kernel
theorem dX10_isOf_1 : decode cX10_isOf 1 = .ok (.tableswitch 87 0 4 #[35, 37, 53, 64, 76], 35) := by decide +kernel
theorem dX10_isOf_36 : decode cX10_isOf 36 = .ok (.iconst 1, 1) := by decide +kernel
theorem dX10_isOf_37 : decode cX10_isOf 37 = .ok (.ireturn, 1) := by decide +kernel
theorem dX10_isOf_38 : decode cX10_isOf 38 = .ok (.iload_n 0, 1) := by decide +kernel
theorem dX10_isOf_39 : decode cX10_isOf 39 = .ok (.iconst 3, 1) := by decide +kernel
theorem dX10_isOf_40 : decode cX10_isOf 40 = .ok (.if_icmp .eq 8, 3) := by decide +kernel
theorem dX10_isOf_43 : decode cX10_isOf 43 = .ok (.iload_n 0, 1) := by decide +kernel
theorem dX10_isOf_44 : decode cX10_isOf 44 = .ok (.iconst 4, 1) := by decide +kernel
theorem dX10_isOf_45 : decode cX10_isOf 45 = .ok (.if_icmp .ne 7, 3) := by decide +kernel
theorem dX10_isOf_48 : decode cX10_isOf 48 = .ok (.iconst 1, 1) := by decide +kernel
theorem dX10_isOf_49 : decode cX10_isOf 49 = .ok (.goto 4, 3) := by decide +kernel
theorem dX10_isOf_52 : decode cX10_isOf 52 = .ok (.iconst 0, 1) := by decide +kernel
theorem dX10_isOf_53 : decode cX10_isOf 53 = .ok (.ireturn, 1) := by decide +kernel
theorem dX10_isOf_54 : decode cX10_isOf 54 = .ok (.iload_n 0, 1) := by decide +kernel
theorem dX10_isOf_55 : decode cX10_isOf 55 = .ok (.iconst 5, 1) := by decide +kernel
theorem dX10_isOf_56 : decode cX10_isOf 56 = .ok (.if_icmp .ne 7, 3) := by decide +kernel
theorem dX10_isOf_59 : decode cX10_isOf 59 = .ok (.iconst 1, 1) := by decide +kernel
theorem dX10_isOf_60 : decode cX10_isOf 60 = .ok (.goto 4, 3) := by decide +kernel
theorem dX10_isOf_63 : decode cX10_isOf 63 = .ok (.iconst 0, 1) := by decide +kernel
theorem dX10_isOf_64 : decode cX10_isOf 64 = .ok (.ireturn, 1) := by decide +kernel
theorem dX10_isOf_65 : decode cX10_isOf 65 = .ok (.iload_n 0, 1) := by decide +kernel
theorem dX10_isOf_66 : decode cX10_isOf 66 = .ok (.bipush 7, 2) := by decide +kernel
theorem dX10_isOf_68 : decode cX10_isOf 68 = .ok (.if_icmp .ne 7, 3) := by decide +kernel
theorem dX10_isOf_71 : decode cX10_isOf 71 = .ok (.iconst 1, 1) := by decide +kernel
theorem dX10_isOf_72 : decode cX10_isOf 72 = .ok (.goto 4, 3) := by decide +kernel
theorem dX10_isOf_75 : decode cX10_isOf 75 = .ok (.iconst 0, 1) := by decide +kernel
theorem dX10_isOf_76 : decode cX10_isOf 76 = .ok (.ireturn, 1) := by decide +kernel
theorem dX10_isOf_77 : decode cX10_isOf 77 = .ok (.iload_n 0, 1) := by decide +kernel
theorem dX10_isOf_78 : decode cX10_isOf 78 = .ok (.iconst 1, 1) := by decide +kernel
theorem dX10_isOf_79 : decode cX10_isOf 79 = .ok (.if_icmp .ne 7, 3) := by decide +kernel
theorem dX10_isOf_82 : decode cX10_isOf 82 = .ok (.iconst 1, 1) := by decide +kernel
theorem dX10_isOf_83 : decode cX10_isOf 83 = .ok (.goto 4, 3) := by decide +kernel
theorem dX10_isOf_86 : decode cX10_isOf 86 = .ok (.iconst 0, 1) := by decide +kernel
theorem dX10_isOf_87 : decode cX10_isOf 87 = .ok (.ireturn, 1) := by decide +kernel
theorem dX10_isOf_88 : decode cX10_isOf 88 = .ok (.iload_n 0, 1) := by decide +kernel
theorem dX10_isOf_89 : decode cX10_isOf 89 = .ok (.ifCond .eq 14, 3) := by decide +kernel
theorem dX10_isOf_92 : decode cX10_isOf 92 = .ok (.iload_n 0, 1) := by decide +kernel
theorem dX10_isOf_93 : decode cX10_isOf 93 = .ok (.bipush 6, 2) := by decide +kernel
theorem dX10_isOf_95 : decode cX10_isOf 95 = .ok (.if_icmp .eq 8, 3) := by decide +kernel
theorem dX10_isOf_98 : decode cX10_isOf 98 = .ok (.iload_n 0, 1) := by decide +kernel
theorem dX10_isOf_99 : decode cX10_isOf 99 = .ok (.iconst 2, 1) := by decide +kernel
theorem dX10_isOf_100 : decode cX10_isOf 100 = .ok (.if_icmp .ne 7, 3) := by decide +kernel
theorem dX10_isOf_103 : decode cX10_isOf 103 = .ok (.iconst 1, 1) := by decide +kernel
theorem dX10_isOf_104 : decode cX10_isOf 104 = .ok (.goto 4, 3) := by decide +kernel
theorem dX10_isOf_107 : decode cX10_isOf 107 = .ok (.iconst 0, 1) := by decide +kernel
theorem dX10_isOf_108 : decode cX10_isOf 108 = .ok (.ireturn, 1) := by decide +kernel
theorem dX10_kilos_0 : decode cX10_kilos 0 = .ok (.aload_n 0, 1) := by decide +kernel
theorem dX10_kilos_1 : decode cX10_kilos 1 = .ok (.iload_n 1, 1) := by decide +kernel
theorem dX10_kilos_2 : decode cX10_kilos 2 = .ok (.iconst 0, 1) := by decide +kernel
theorem dX10_kilos_3 : decode cX10_kilos 3 = .ok (.iconst 5, 1) := by decide +kernel
theorem dX10_kilos_4 : decode cX10_kilos 4 = .ok (.invokestatic 163, 3) := by decide +kernel
theorem dX10_kilos_7 : decode cX10_kilos 7 = .ok (.ifCond .eq 7, 3) := by decide +kernel
theorem dX10_kilos_10 : decode cX10_kilos 10 = .ok (.iconst 0, 1) := by decide +kernel
theorem dX10_kilos_11 : decode cX10_kilos 11 = .ok (.goto 4, 3) := by decide +kernel
theorem dX10_kilos_14 : decode cX10_kilos 14 = .ok (.iconst 1, 1) := by decide +kernel
theorem dX10_kilos_15 : decode cX10_kilos 15 = .ok (.invokevirtual 178, 3) := by decide +kernel
theorem dX10_kilos_18 : decode cX10_kilos 18 = .ok (.ifCond .eq 5, 3) := by decide +kernel
theorem dX10_kilos_21 : decode cX10_kilos 21 = .ok (.iconst 0, 1) := by decide +kernel
theorem dX10_kilos_22 : decode cX10_kilos 22 = .ok (.ireturn, 1) := by decide +kernel
theorem dX10_kilos_23 : decode cX10_kilos 23 = .ok (.iconst 0, 1) := by decide +kernel
theorem dX10_kilos_24 : decode cX10_kilos 24 = .ok (.istore_n 2, 1) := by decide +kernel
theorem dX10_kilos_25 : decode cX10_kilos 25 = .ok (.iconst 0, 1) := by decide +kernel
theorem dX10_kilos_26 : decode cX10_kilos 26 = .ok (.istore_n 3, 1) := by decide +kernel
theorem dX10_kilos_27 : decode cX10_kilos 27 = .ok (.iload_n 3, 1) := by decide +kernel
theorem dX10_kilos_28 : decode cX10_kilos 28 = .ok (.aload_n 0, 1) := by decide +kernel
theorem dX10_kilos_29 : decode cX10_kilos 29 = .ok (.getfield 167, 3) := by decide +kernel
theorem dX10_kilos_32 : decode cX10_kilos 32 = .ok (.if_icmp .ge 35, 3) := by decide +kernel
theorem dX10_kilos_35 : decode cX10_kilos 35 = .ok (.iload_n 2, 1) := by decide +kernel
theorem dX10_kilos_36 : decode cX10_kilos 36 = .ok (.aload_n 0, 1) := by decide +kernel
theorem dX10_kilos_37 : decode cX10_kilos 37 = .ok (.getfield 69, 3) := by decide +kernel
theorem dX10_kilos_40 : decode cX10_kilos 40 = .ok (.iload_n 3, 1) := by decide +kernel
theorem dX10_kilos_41 : decode cX10_kilos 41 = .ok (.iaload, 1) := by decide +kernel
theorem dX10_kilos_42 : decode cX10_kilos 42 = .ok (.iload_n 1, 1) := by decide +kernel
theorem dX10_kilos_43 : decode cX10_kilos 43 = .ok (.invokestatic 290, 3) := by decide +kernel
theorem dX10_kilos_46 : decode cX10_kilos 46 = .ok (.ifCond .eq 12, 3) := by decide +kernel
theorem dX10_kilos_49 : decode cX10_kilos 49 = .ok (.aload_n 0, 1) := by decide +kernel
theorem dX10_kilos_50 : decode cX10_kilos 50 = .ok (.getfield 63, 3) := by decide +kernel
theorem dX10_kilos_53 : decode cX10_kilos 53 = .ok (.iload_n 3, 1) := by decide +kernel
theorem dX10_kilos_54 : decode cX10_kilos 54 = .ok (.iaload, 1) := by decide +kernel
theorem dX10_kilos_55 : decode cX10_kilos 55 = .ok (.goto 4, 3) := by decide +kernel
theorem dX10_kilos_58 : decode cX10_kilos 58 = .ok (.iconst 0, 1) := by decide +kernel
theorem dX10_kilos_59 : decode cX10_kilos 59 = .ok (.iadd, 1) := by decide +kernel
theorem dX10_kilos_60 : decode cX10_kilos 60 = .ok (.istore_n 2, 1) := by decide +kernel
theorem dX10_kilos_61 : decode cX10_kilos 61 = .ok (.iinc 3 1, 3) := by decide +kernel
theorem dX10_kilos_64 : decode cX10_kilos 64 = .ok (.goto (-37), 3) := by decide +kernel
theorem dX10_kilos_67 : decode cX10_kilos 67 = .ok (.iload_n 2, 1) := by decide +kernel
theorem dX10_kilos_68 : decode cX10_kilos 68 = .ok (.ireturn, 1) := by decide +kernel
theorem dX10_kilosAnew_0 : decode cX10_kilosAnew 0 = .ok (.aload_n 0, 1) := by decide +kernel
theorem dX10_kilosAnew_1 : decode cX10_kilosAnew 1 = .ok (.iload_n 1, 1) := by decide +kernel
theorem dX10_kilosAnew_2 : decode cX10_kilosAnew 2 = .ok (.invokevirtual 293, 3) := by decide +kernel
theorem dX10_kilosAnew_5 : decode cX10_kilosAnew 5 = .ok (.ireturn, 1) := by decide +kernel
theorem dX10_average_0 : decode cX10_average 0 = .ok (.aload_n 0, 1) := by decide +kernel
theorem dX10_average_1 : decode cX10_average 1 = .ok (.iload_n 1, 1) := by decide +kernel
theorem dX10_average_2 : decode cX10_average 2 = .ok (.invokestatic 174, 3) := by decide +kernel
theorem dX10_average_5 : decode cX10_average 5 = .ok (.ifCond .ne 7, 3) := by decide +kernel
theorem dX10_average_8 : decode cX10_average 8 = .ok (.iconst 1, 1) := by decide +kernel
theorem dX10_average_9 : decode cX10_average 9 = .ok (.goto 20, 3) := by decide +kernel
theorem dX10_average_12 : decode cX10_average 12 = .ok (.iload_n 2, 1) := by decide +kernel
theorem dX10_average_13 : decode cX10_average 13 = .ok (.iconst 0, 1) := by decide +kernel
theorem dX10_average_14 : decode cX10_average 14 = .ok (.aload_n 0, 1) := by decide +kernel
theorem dX10_average_15 : decode cX10_average 15 = .ok (.getfield 221, 3) := by decide +kernel
theorem dX10_average_18 : decode cX10_average 18 = .ok (.invokestatic 163, 3) := by decide +kernel
theorem dX10_average_21 : decode cX10_average 21 = .ok (.ifCond .eq 7, 3) := by decide +kernel
theorem dX10_average_24 : decode cX10_average 24 = .ok (.iconst 0, 1) := by decide +kernel
theorem dX10_average_25 : decode cX10_average 25 = .ok (.goto 4, 3) := by decide +kernel
theorem dX10_average_28 : decode cX10_average 28 = .ok (.iconst 2, 1) := by decide +kernel
theorem dX10_average_29 : decode cX10_average 29 = .ok (.invokevirtual 178, 3) := by decide +kernel
theorem dX10_average_32 : decode cX10_average 32 = .ok (.ifCond .eq 5, 3) := by decide +kernel
theorem dX10_average_35 : decode cX10_average 35 = .ok (.iconst 0, 1) := by decide +kernel
theorem dX10_average_36 : decode cX10_average 36 = .ok (.ireturn, 1) := by decide +kernel
theorem dX10_average_37 : decode cX10_average 37 = .ok (.iconst 0, 1) := by decide +kernel
theorem dX10_average_38 : decode cX10_average 38 = .ok (.istore_n 3, 1) := by decide +kernel
theorem dX10_average_39 : decode cX10_average 39 = .ok (.iconst 0, 1) := by decide +kernel
theorem dX10_average_40 : decode cX10_average 40 = .ok (.istore 4, 2) := by decide +kernel
theorem dX10_average_42 : decode cX10_average 42 = .ok (.iconst 0, 1) := by decide +kernel
theorem dX10_average_43 : decode cX10_average 43 = .ok (.istore 5, 2) := by decide +kernel
theorem dX10_average_45 : decode cX10_average 45 = .ok (.iload 5, 2) := by decide +kernel
theorem dX10_average_47 : decode cX10_average 47 = .ok (.aload_n 0, 1) := by decide +kernel
theorem dX10_average_48 : decode cX10_average 48 = .ok (.getfield 167, 3) := by decide +kernel
theorem dX10_average_51 : decode cX10_average 51 = .ok (.if_icmp .ge 97, 3) := by decide +kernel
theorem dX10_average_54 : decode cX10_average 54 = .ok (.aload_n 0, 1) := by decide +kernel
theorem dX10_average_55 : decode cX10_average 55 = .ok (.getfield 54, 3) := by decide +kernel
theorem dX10_average_58 : decode cX10_average 58 = .ok (.iload 5, 2) := by decide +kernel
theorem dX10_average_60 : decode cX10_average 60 = .ok (.iaload, 1) := by decide +kernel
theorem dX10_average_61 : decode cX10_average 61 = .ok (.iload_n 1, 1) := by decide +kernel
theorem dX10_average_62 : decode cX10_average 62 = .ok (.if_icmp .ne 29, 3) := by decide +kernel
theorem dX10_average_65 : decode cX10_average 65 = .ok (.aload_n 0, 1) := by decide +kernel
theorem dX10_average_66 : decode cX10_average 66 = .ok (.getfield 75, 3) := by decide +kernel
theorem dX10_average_69 : decode cX10_average 69 = .ok (.iload 5, 2) := by decide +kernel
theorem dX10_average_71 : decode cX10_average 71 = .ok (.iaload, 1) := by decide +kernel
theorem dX10_average_72 : decode cX10_average 72 = .ok (.iconst (-1), 1) := by decide +kernel
theorem dX10_average_73 : decode cX10_average 73 = .ok (.if_icmp .eq 18, 3) := by decide +kernel
theorem dX10_average_76 : decode cX10_average 76 = .ok (.aload_n 0, 1) := by decide +kernel
theorem dX10_average_77 : decode cX10_average 77 = .ok (.getfield 84, 3) := by decide +kernel
theorem dX10_average_80 : decode cX10_average 80 = .ok (.iload 5, 2) := by decide +kernel
theorem dX10_average_82 : decode cX10_average 82 = .ok (.iaload, 1) := by decide +kernel
theorem dX10_average_83 : decode cX10_average 83 = .ok (.iload_n 2, 1) := by decide +kernel
theorem dX10_average_84 : decode cX10_average 84 = .ok (.if_icmp .ne 7, 3) := by decide +kernel
theorem dX10_average_87 : decode cX10_average 87 = .ok (.iconst 1, 1) := by decide +kernel
theorem dX10_average_88 : decode cX10_average 88 = .ok (.goto 4, 3) := by decide +kernel
theorem dX10_average_91 : decode cX10_average 91 = .ok (.iconst 0, 1) := by decide +kernel
theorem dX10_average_92 : decode cX10_average 92 = .ok (.istore 6, 2) := by decide +kernel
theorem dX10_average_94 : decode cX10_average 94 = .ok (.iload_n 3, 1) := by decide +kernel
theorem dX10_average_95 : decode cX10_average 95 = .ok (.iload 6, 2) := by decide +kernel
theorem dX10_average_97 : decode cX10_average 97 = .ok (.ifCond .eq 21, 3) := by decide +kernel
theorem dX10_average_100 : decode cX10_average 100 = .ok (.aload_n 0, 1) := by decide +kernel
theorem dX10_average_101 : decode cX10_average 101 = .ok (.getfield 63, 3) := by decide +kernel
theorem dX10_average_104 : decode cX10_average 104 = .ok (.iload 5, 2) := by decide +kernel
theorem dX10_average_106 : decode cX10_average 106 = .ok (.iaload, 1) := by decide +kernel
theorem dX10_average_107 : decode cX10_average 107 = .ok (.aload_n 0, 1) := by decide +kernel
theorem dX10_average_108 : decode cX10_average 108 = .ok (.getfield 78, 3) := by decide +kernel
theorem dX10_average_111 : decode cX10_average 111 = .ok (.iload 5, 2) := by decide +kernel
theorem dX10_average_113 : decode cX10_average 113 = .ok (.iaload, 1) := by decide +kernel
theorem dX10_average_114 : decode cX10_average 114 = .ok (.imul, 1) := by decide +kernel
theorem dX10_average_115 : decode cX10_average 115 = .ok (.goto 4, 3) := by decide +kernel
theorem dX10_average_118 : decode cX10_average 118 = .ok (.iconst 0, 1) := by decide +kernel
theorem dX10_average_119 : decode cX10_average 119 = .ok (.iadd, 1) := by decide +kernel
theorem dX10_average_120 : decode cX10_average 120 = .ok (.istore_n 3, 1) := by decide +kernel
theorem dX10_average_121 : decode cX10_average 121 = .ok (.iload 4, 2) := by decide +kernel
theorem dX10_average_123 : decode cX10_average 123 = .ok (.iload 6, 2) := by decide +kernel
theorem dX10_average_125 : decode cX10_average 125 = .ok (.ifCond .eq 13, 3) := by decide +kernel
theorem dX10_average_128 : decode cX10_average 128 = .ok (.aload_n 0, 1) := by decide +kernel
theorem dX10_average_129 : decode cX10_average 129 = .ok (.getfield 63, 3) := by decide +kernel
theorem dX10_average_132 : decode cX10_average 132 = .ok (.iload 5, 2) := by decide +kernel
theorem dX10_average_134 : decode cX10_average 134 = .ok (.iaload, 1) := by decide +kernel
theorem dX10_average_135 : decode cX10_average 135 = .ok (.goto 4, 3) := by decide +kernel
theorem dX10_average_138 : decode cX10_average 138 = .ok (.iconst 0, 1) := by decide +kernel
theorem dX10_average_139 : decode cX10_average 139 = .ok (.iadd, 1) := by decide +kernel
theorem dX10_average_140 : decode cX10_average 140 = .ok (.istore 4, 2) := by decide +kernel
theorem dX10_average_142 : decode cX10_average 142 = .ok (.iinc 5 1, 3) := by decide +kernel
theorem dX10_average_145 : decode cX10_average 145 = .ok (.goto (-100), 3) := by decide +kernel
theorem dX10_average_148 : decode cX10_average 148 = .ok (.iload 4, 2) := by decide +kernel
theorem dX10_average_150 : decode cX10_average 150 = .ok (.ifCond .ne 7, 3) := by decide +kernel
theorem dX10_average_153 : decode cX10_average 153 = .ok (.iconst (-1), 1) := by decide +kernel
theorem dX10_average_154 : decode cX10_average 154 = .ok (.goto 7, 3) := by decide +kernel
theorem dX10_average_157 : decode cX10_average 157 = .ok (.iload_n 3, 1) := by decide +kernel
theorem dX10_average_158 : decode cX10_average 158 = .ok (.iload 4, 2) := by decide +kernel
theorem dX10_average_160 : decode cX10_average 160 = .ok (.idiv, 1) := by decide +kernel
theorem dX10_average_161 : decode cX10_average 161 = .ok (.ireturn, 1) := by decide +kernel
theorem dX10_loaded_0 : decode cX10_loaded 0 = .ok (.aload_n 0, 1) := by decide +kernel
theorem dX10_loaded_1 : decode cX10_loaded 1 = .ok (.iload_n 1, 1) := by decide +kernel
theorem dX10_loaded_2 : decode cX10_loaded 2 = .ok (.iconst 0, 1) := by decide +kernel
theorem dX10_loaded_3 : decode cX10_loaded 3 = .ok (.aload_n 0, 1) := by decide +kernel
theorem dX10_loaded_4 : decode cX10_loaded 4 = .ok (.getfield 267, 3) := by decide +kernel
theorem dX10_loaded_7 : decode cX10_loaded 7 = .ok (.iconst 1, 1) := by decide +kernel
theorem dX10_loaded_8 : decode cX10_loaded 8 = .ok (.isub, 1) := by decide +kernel
theorem dX10_loaded_9 : decode cX10_loaded 9 = .ok (.invokestatic 163, 3) := by decide +kernel
theorem dX10_loaded_12 : decode cX10_loaded 12 = .ok (.ifCond .eq 7, 3) := by decide +kernel
theorem dX10_loaded_15 : decode cX10_loaded 15 = .ok (.iconst 0, 1) := by decide +kernel
theorem dX10_loaded_16 : decode cX10_loaded 16 = .ok (.goto 4, 3) := by decide +kernel
theorem dX10_loaded_19 : decode cX10_loaded 19 = .ok (.iconst 1, 1) := by decide +kernel
theorem dX10_loaded_20 : decode cX10_loaded 20 = .ok (.invokevirtual 178, 3) := by decide +kernel
theorem dX10_loaded_23 : decode cX10_loaded 23 = .ok (.ifCond .eq 7, 3) := by decide +kernel
theorem dX10_loaded_26 : decode cX10_loaded 26 = .ok (.iconst 0, 1) := by decide +kernel
theorem dX10_loaded_27 : decode cX10_loaded 27 = .ok (.goto 9, 3) := by decide +kernel
theorem dX10_loaded_30 : decode cX10_loaded 30 = .ok (.aload_n 0, 1) := by decide +kernel
theorem dX10_loaded_31 : decode cX10_loaded 31 = .ok (.getfield 153, 3) := by decide +kernel
theorem dX10_loaded_34 : decode cX10_loaded 34 = .ok (.iload_n 1, 1) := by decide +kernel
theorem dX10_loaded_35 : decode cX10_loaded 35 = .ok (.iaload, 1) := by decide +kernel
theorem dX10_loaded_36 : decode cX10_loaded 36 = .ok (.ireturn, 1) := by decide +kernel
end
section
theorem dL_quota_0 : decode cL_quota 0 = .ok (.aload 4, 2) := by decide +kernel
theorem dL_quota_2 : decode cL_quota 2 = .ok (.iconst 0, 1) := by decide +kernel
theorem dL_quota_3 : decode cL_quota 3 = .ok (.aload_n 0, 1) := by decide +kernel
theorem dL_quota_4 : decode cL_quota 4 = .ok (.iload_n 1, 1) := by decide +kernel
theorem dL_quota_5 : decode cL_quota 5 = .ok (.iload_n 2, 1) := by decide +kernel
theorem dL_quota_6 : decode cL_quota 6 = .ok (.iload_n 3, 1) := by decide +kernel
theorem dL_quota_7 : decode cL_quota 7 = .ok (.invokevirtual 7, 3) := by decide +kernel
theorem dL_quota_10 : decode cL_quota 10 = .ok (.i2l, 1) := by decide +kernel
theorem dL_quota_11 : decode cL_quota 11 = .ok (.lastore, 1) := by decide +kernel
theorem dL_quota_12 : decode cL_quota 12 = .ok (.goto 11, 3) := by decide +kernel
theorem dL_quota_15 : decode cL_quota 15 = .ok (.astore 5, 2) := by decide +kernel
theorem dL_quota_17 : decode cL_quota 17 = .ok (.iconst 1, 1) := by decide +kernel
theorem dL_quota_18 : decode cL_quota 18 = .ok (.ireturn, 1) := by decide +kernel
theorem dL_quota_19 : decode cL_quota 19 = .ok (.astore 5, 2) := by decide +kernel
theorem dL_quota_21 : decode cL_quota 21 = .ok (.iconst 2, 1) := by decide +kernel
theorem dL_quota_22 : decode cL_quota 22 = .ok (.ireturn, 1) := by decide +kernel
theorem dL_quota_23 : decode cL_quota 23 = .ok (.iconst 0, 1) := by decide +kernel
theorem dL_quota_24 : decode cL_quota 24 = .ok (.ireturn, 1) := by decide +kernel
theorem dL_aid_0 : decode cL_aid 0 = .ok (.aload 4, 2) := by decide +kernel
theorem dL_aid_2 : decode cL_aid 2 = .ok (.iconst 0, 1) := by decide +kernel
theorem dL_aid_3 : decode cL_aid 3 = .ok (.aload_n 0, 1) := by decide +kernel
theorem dL_aid_4 : decode cL_aid 4 = .ok (.iload_n 1, 1) := by decide +kernel
theorem dL_aid_5 : decode cL_aid 5 = .ok (.iload_n 2, 1) := by decide +kernel
theorem dL_aid_6 : decode cL_aid 6 = .ok (.iload_n 3, 1) := by decide +kernel
theorem dL_aid_7 : decode cL_aid 7 = .ok (.invokevirtual 17, 3) := by decide +kernel
theorem dL_aid_10 : decode cL_aid 10 = .ok (.i2l, 1) := by decide +kernel
theorem dL_aid_11 : decode cL_aid 11 = .ok (.lastore, 1) := by decide +kernel
theorem dL_aid_12 : decode cL_aid 12 = .ok (.goto 11, 3) := by decide +kernel
theorem dL_aid_15 : decode cL_aid 15 = .ok (.astore 5, 2) := by decide +kernel
theorem dL_aid_17 : decode cL_aid 17 = .ok (.iconst 1, 1) := by decide +kernel
theorem dL_aid_18 : decode cL_aid 18 = .ok (.ireturn, 1) := by decide +kernel
theorem dL_aid_19 : decode cL_aid 19 = .ok (.astore 5, 2) := by decide +kernel
theorem dL_aid_21 : decode cL_aid 21 = .ok (.iconst 2, 1) := by decide +kernel
theorem dL_aid_22 : decode cL_aid 22 = .ok (.ireturn, 1) := by decide +kernel
theorem dL_aid_23 : decode cL_aid 23 = .ok (.iconst 0, 1) := by decide +kernel
theorem dL_aid_24 : decode cL_aid 24 = .ok (.ireturn, 1) := by decide +kernel
theorem dL_kind_0 : decode cL_kind 0 = .ok (.aload_n 0, 1) := by decide +kernel
theorem dL_kind_1 : decode cL_kind 1 = .ok (.iload_n 1, 1) := by decide +kernel
theorem dL_kind_2 : decode cL_kind 2 = .ok (.iload_n 2, 1) := by decide +kernel
theorem dL_kind_3 : decode cL_kind 3 = .ok (.iload_n 3, 1) := by decide +kernel
theorem dL_kind_4 : decode cL_kind 4 = .ok (.iload 4, 2) := by decide +kernel
theorem dL_kind_6 : decode cL_kind 6 = .ok (.invokevirtual 21, 3) := by decide +kernel
theorem dL_kind_9 : decode cL_kind 9 = .ok (.goto 11, 3) := by decide +kernel
theorem dL_kind_12 : decode cL_kind 12 = .ok (.astore 5, 2) := by decide +kernel
theorem dL_kind_14 : decode cL_kind 14 = .ok (.iconst 1, 1) := by decide +kernel
theorem dL_kind_15 : decode cL_kind 15 = .ok (.ireturn, 1) := by decide +kernel
theorem dL_kind_16 : decode cL_kind 16 = .ok (.astore 5, 2) := by decide +kernel
theorem dL_kind_18 : decode cL_kind 18 = .ok (.iconst 2, 1) := by decide +kernel
theorem dL_kind_19 : decode cL_kind 19 = .ok (.ireturn, 1) := by decide +kernel
theorem dL_kind_20 : decode cL_kind 20 = .ok (.iconst 0, 1) := by decide +kernel
theorem dL_kind_21 : decode cL_kind 21 = .ok (.ireturn, 1) := by decide +kernel
theorem dL_step_0 : decode cL_step 0 = .ok (.aload_n 3, 1) := by decide +kernel
theorem dL_step_1 : decode cL_step 1 = .ok (.iconst 0, 1) := by decide +kernel
theorem dL_step_2 : decode cL_step 2 = .ok (.aload_n 0, 1) := by decide +kernel
theorem dL_step_3 : decode cL_step 3 = .ok (.iload_n 1, 1) := by decide +kernel
theorem dL_step_4 : decode cL_step 4 = .ok (.iload_n 2, 1) := by decide +kernel
theorem dL_step_5 : decode cL_step 5 = .ok (.invokevirtual 25, 3) := by decide +kernel
theorem dL_step_8 : decode cL_step 8 = .ok (.i2l, 1) := by decide +kernel
theorem dL_step_9 : decode cL_step 9 = .ok (.lastore, 1) := by decide +kernel
theorem dL_step_10 : decode cL_step 10 = .ok (.goto 11, 3) := by decide +kernel
theorem dL_step_13 : decode cL_step 13 = .ok (.astore 4, 2) := by decide +kernel
theorem dL_step_15 : decode cL_step 15 = .ok (.iconst 1, 1) := by decide +kernel
theorem dL_step_16 : decode cL_step 16 = .ok (.ireturn, 1) := by decide +kernel
theorem dL_step_17 : decode cL_step 17 = .ok (.astore 4, 2) := by decide +kernel
theorem dL_step_19 : decode cL_step 19 = .ok (.iconst 2, 1) := by decide +kernel
theorem dL_step_20 : decode cL_step 20 = .ok (.ireturn, 1) := by decide +kernel
theorem dL_step_21 : decode cL_step 21 = .ok (.iconst 0, 1) := by decide +kernel
theorem dL_step_22 : decode cL_step 22 = .ok (.ireturn, 1) := by decide +kernel
theorem dL_buyer_0 : decode cL_buyer 0 = .ok (.aload 4, 2) := by decide +kernel
theorem dL_buyer_2 : decode cL_buyer 2 = .ok (.iconst 0, 1) := by decide +kernel
theorem dL_buyer_3 : decode cL_buyer 3 = .ok (.aload_n 0, 1) := by decide +kernel
theorem dL_buyer_4 : decode cL_buyer 4 = .ok (.iload_n 1, 1) := by decide +kernel
theorem dL_buyer_5 : decode cL_buyer 5 = .ok (.iload_n 2, 1) := by decide +kernel
theorem dL_buyer_6 : decode cL_buyer 6 = .ok (.iload_n 3, 1) := by decide +kernel
theorem dL_buyer_7 : decode cL_buyer 7 = .ok (.invokevirtual 29, 3) := by decide +kernel
theorem dL_buyer_10 : decode cL_buyer 10 = .ok (.i2l, 1) := by decide +kernel
theorem dL_buyer_11 : decode cL_buyer 11 = .ok (.lastore, 1) := by decide +kernel
theorem dL_buyer_12 : decode cL_buyer 12 = .ok (.goto 11, 3) := by decide +kernel
theorem dL_buyer_15 : decode cL_buyer 15 = .ok (.astore 5, 2) := by decide +kernel
theorem dL_buyer_17 : decode cL_buyer 17 = .ok (.iconst 1, 1) := by decide +kernel
theorem dL_buyer_18 : decode cL_buyer 18 = .ok (.ireturn, 1) := by decide +kernel
theorem dL_buyer_19 : decode cL_buyer 19 = .ok (.astore 5, 2) := by decide +kernel
theorem dL_buyer_21 : decode cL_buyer 21 = .ok (.iconst 2, 1) := by decide +kernel
theorem dL_buyer_22 : decode cL_buyer 22 = .ok (.ireturn, 1) := by decide +kernel
theorem dL_buyer_23 : decode cL_buyer 23 = .ok (.iconst 0, 1) := by decide +kernel
theorem dL_buyer_24 : decode cL_buyer 24 = .ok (.ireturn, 1) := by decide +kernel
theorem dL_power_0 : decode cL_power 0 = .ok (.aload_n 3, 1) := by decide +kernel
theorem dL_power_1 : decode cL_power 1 = .ok (.iconst 0, 1) := by decide +kernel
theorem dL_power_2 : decode cL_power 2 = .ok (.aload_n 0, 1) := by decide +kernel
theorem dL_power_3 : decode cL_power 3 = .ok (.iload_n 1, 1) := by decide +kernel
theorem dL_power_4 : decode cL_power 4 = .ok (.iload_n 2, 1) := by decide +kernel
theorem dL_power_5 : decode cL_power 5 = .ok (.invokevirtual 32, 3) := by decide +kernel
theorem dL_power_8 : decode cL_power 8 = .ok (.ifCond .eq 7, 3) := by decide +kernel
theorem dL_power_11 : decode cL_power 11 = .ok (.lconst 1, 1) := by decide +kernel
theorem dL_power_12 : decode cL_power 12 = .ok (.goto 4, 3) := by decide +kernel
theorem dL_power_15 : decode cL_power 15 = .ok (.lconst 0, 1) := by decide +kernel
theorem dL_power_16 : decode cL_power 16 = .ok (.lastore, 1) := by decide +kernel
theorem dL_power_17 : decode cL_power 17 = .ok (.goto 7, 3) := by decide +kernel
theorem dL_power_20 : decode cL_power 20 = .ok (.astore 4, 2) := by decide +kernel
theorem dL_power_22 : decode cL_power 22 = .ok (.iconst 1, 1) := by decide +kernel
theorem dL_power_23 : decode cL_power 23 = .ok (.ireturn, 1) := by decide +kernel
theorem dL_power_24 : decode cL_power 24 = .ok (.iconst 0, 1) := by decide +kernel
theorem dL_power_25 : decode cL_power 25 = .ok (.ireturn, 1) := by decide +kernel
theorem dL_line_0 : decode cL_line 0 = .ok (.aload_n 3, 1) := by decide +kernel
theorem dL_line_1 : decode cL_line 1 = .ok (.iconst 0, 1) := by decide +kernel
theorem dL_line_2 : decode cL_line 2 = .ok (.aload_n 0, 1) := by decide +kernel
theorem dL_line_3 : decode cL_line 3 = .ok (.iload_n 1, 1) := by decide +kernel
theorem dL_line_4 : decode cL_line 4 = .ok (.iload_n 2, 1) := by decide +kernel
theorem dL_line_5 : decode cL_line 5 = .ok (.invokevirtual 36, 3) := by decide +kernel
theorem dL_line_8 : decode cL_line 8 = .ok (.ifCond .eq 7, 3) := by decide +kernel
theorem dL_line_11 : decode cL_line 11 = .ok (.lconst 1, 1) := by decide +kernel
theorem dL_line_12 : decode cL_line 12 = .ok (.goto 4, 3) := by decide +kernel
theorem dL_line_15 : decode cL_line 15 = .ok (.lconst 0, 1) := by decide +kernel
theorem dL_line_16 : decode cL_line 16 = .ok (.lastore, 1) := by decide +kernel
theorem dL_line_17 : decode cL_line 17 = .ok (.goto 7, 3) := by decide +kernel
theorem dL_line_20 : decode cL_line 20 = .ok (.astore 4, 2) := by decide +kernel
theorem dL_line_22 : decode cL_line 22 = .ok (.iconst 1, 1) := by decide +kernel
theorem dL_line_23 : decode cL_line 23 = .ok (.ireturn, 1) := by decide +kernel
theorem dL_line_24 : decode cL_line 24 = .ok (.iconst 0, 1) := by decide +kernel
theorem dL_line_25 : decode cL_line 25 = .ok (.ireturn, 1) := by decide +kernel
theorem dL_land_0 : decode cL_land 0 = .ok (.aload 7, 2) := by decide +kernel
theorem dL_land_2 : decode cL_land 2 = .ok (.iconst 0, 1) := by decide +kernel
theorem dL_land_3 : decode cL_land 3 = .ok (.aload_n 0, 1) := by decide +kernel
theorem dL_land_4 : decode cL_land 4 = .ok (.iload_n 1, 1) := by decide +kernel
theorem dL_land_5 : decode cL_land 5 = .ok (.iload_n 2, 1) := by decide +kernel
theorem dL_land_6 : decode cL_land 6 = .ok (.iload_n 3, 1) := by decide +kernel
theorem dL_land_7 : decode cL_land 7 = .ok (.iload 4, 2) := by decide +kernel
theorem dL_land_9 : decode cL_land 9 = .ok (.iload 5, 2) := by decide +kernel
theorem dL_land_11 : decode cL_land 11 = .ok (.iload 6, 2) := by decide +kernel
theorem dL_land_13 : decode cL_land 13 = .ok (.invokevirtual 39, 3) := by decide +kernel
theorem dL_land_16 : decode cL_land 16 = .ok (.i2l, 1) := by decide +kernel
theorem dL_land_17 : decode cL_land 17 = .ok (.lastore, 1) := by decide +kernel
theorem dL_land_18 : decode cL_land 18 = .ok (.goto 15, 3) := by decide +kernel
theorem dL_land_21 : decode cL_land 21 = .ok (.astore 8, 2) := by decide +kernel
theorem dL_land_23 : decode cL_land 23 = .ok (.iconst 1, 1) := by decide +kernel
theorem dL_land_24 : decode cL_land 24 = .ok (.ireturn, 1) := by decide +kernel
theorem dL_land_25 : decode cL_land 25 = .ok (.astore 8, 2) := by decide +kernel
theorem dL_land_27 : decode cL_land 27 = .ok (.iconst 2, 1) := by decide +kernel
theorem dL_land_28 : decode cL_land 28 = .ok (.ireturn, 1) := by decide +kernel
theorem dL_land_29 : decode cL_land 29 = .ok (.astore 8, 2) := by decide +kernel
theorem dL_land_31 : decode cL_land 31 = .ok (.iconst 3, 1) := by decide +kernel
theorem dL_land_32 : decode cL_land 32 = .ok (.ireturn, 1) := by decide +kernel
theorem dL_land_33 : decode cL_land 33 = .ok (.iconst 0, 1) := by decide +kernel
theorem dL_land_34 : decode cL_land 34 = .ok (.ireturn, 1) := by decide +kernel
theorem dL_open_0 : decode cL_open 0 = .ok (.aload_n 1, 1) := by decide +kernel
theorem dL_open_1 : decode cL_open 1 = .ok (.iconst 0, 1) := by decide +kernel
theorem dL_open_2 : decode cL_open 2 = .ok (.aload_n 0, 1) := by decide +kernel
theorem dL_open_3 : decode cL_open 3 = .ok (.invokevirtual 45, 3) := by decide +kernel
theorem dL_open_6 : decode cL_open 6 = .ok (.i2l, 1) := by decide +kernel
theorem dL_open_7 : decode cL_open 7 = .ok (.lastore, 1) := by decide +kernel
theorem dL_open_8 : decode cL_open 8 = .ok (.goto 6, 3) := by decide +kernel
theorem dL_open_11 : decode cL_open 11 = .ok (.astore_n 2, 1) := by decide +kernel
theorem dL_open_12 : decode cL_open 12 = .ok (.iconst 1, 1) := by decide +kernel
theorem dL_open_13 : decode cL_open 13 = .ok (.ireturn, 1) := by decide +kernel
theorem dL_open_14 : decode cL_open 14 = .ok (.iconst 0, 1) := by decide +kernel
theorem dL_open_15 : decode cL_open 15 = .ok (.ireturn, 1) := by decide +kernel
theorem dL_end_0 : decode cL_end 0 = .ok (.aload_n 1, 1) := by decide +kernel
theorem dL_end_1 : decode cL_end 1 = .ok (.iconst 0, 1) := by decide +kernel
theorem dL_end_2 : decode cL_end 2 = .ok (.aload_n 0, 1) := by decide +kernel
theorem dL_end_3 : decode cL_end 3 = .ok (.invokevirtual 49, 3) := by decide +kernel
theorem dL_end_6 : decode cL_end 6 = .ok (.i2l, 1) := by decide +kernel
theorem dL_end_7 : decode cL_end 7 = .ok (.lastore, 1) := by decide +kernel
theorem dL_end_8 : decode cL_end 8 = .ok (.goto 6, 3) := by decide +kernel
theorem dL_end_11 : decode cL_end 11 = .ok (.astore_n 2, 1) := by decide +kernel
theorem dL_end_12 : decode cL_end 12 = .ok (.iconst 1, 1) := by decide +kernel
theorem dL_end_13 : decode cL_end 13 = .ok (.ireturn, 1) := by decide +kernel
theorem dL_end_14 : decode cL_end 14 = .ok (.iconst 0, 1) := by decide +kernel
theorem dL_end_15 : decode cL_end 15 = .ok (.ireturn, 1) := by decide +kernel
theorem dL_press_0 : decode cL_press 0 = .ok (.aload_n 3, 1) := by decide +kernel
theorem dL_press_1 : decode cL_press 1 = .ok (.iconst 0, 1) := by decide +kernel
theorem dL_press_2 : decode cL_press 2 = .ok (.aload_n 0, 1) := by decide +kernel
theorem dL_press_3 : decode cL_press 3 = .ok (.iload_n 1, 1) := by decide +kernel
theorem dL_press_4 : decode cL_press 4 = .ok (.iload_n 2, 1) := by decide +kernel
theorem dL_press_5 : decode cL_press 5 = .ok (.invokevirtual 52, 3) := by decide +kernel
theorem dL_press_8 : decode cL_press 8 = .ok (.i2l, 1) := by decide +kernel
theorem dL_press_9 : decode cL_press 9 = .ok (.lastore, 1) := by decide +kernel
theorem dL_press_10 : decode cL_press 10 = .ok (.goto 11, 3) := by decide +kernel
theorem dL_press_13 : decode cL_press 13 = .ok (.astore 4, 2) := by decide +kernel
theorem dL_press_15 : decode cL_press 15 = .ok (.iconst 1, 1) := by decide +kernel
theorem dL_press_16 : decode cL_press 16 = .ok (.ireturn, 1) := by decide +kernel
theorem dL_press_17 : decode cL_press 17 = .ok (.astore 4, 2) := by decide +kernel
theorem dL_press_19 : decode cL_press 19 = .ok (.iconst 2, 1) := by decide +kernel
theorem dL_press_20 : decode cL_press 20 = .ok (.ireturn, 1) := by decide +kernel
theorem dL_press_21 : decode cL_press 21 = .ok (.iconst 0, 1) := by decide +kernel
theorem dL_press_22 : decode cL_press 22 = .ok (.ireturn, 1) := by decide +kernel
theorem dL_take_0 : decode cL_take 0 = .ok (.aload 4, 2) := by decide +kernel
theorem dL_take_2 : decode cL_take 2 = .ok (.iconst 0, 1) := by decide +kernel
theorem dL_take_3 : decode cL_take 3 = .ok (.aload_n 0, 1) := by decide +kernel
theorem dL_take_4 : decode cL_take 4 = .ok (.iload_n 1, 1) := by decide +kernel
theorem dL_take_5 : decode cL_take 5 = .ok (.iload_n 2, 1) := by decide +kernel
theorem dL_take_6 : decode cL_take 6 = .ok (.iload_n 3, 1) := by decide +kernel
theorem dL_take_7 : decode cL_take 7 = .ok (.invokevirtual 55, 3) := by decide +kernel
theorem dL_take_10 : decode cL_take 10 = .ok (.i2l, 1) := by decide +kernel
theorem dL_take_11 : decode cL_take 11 = .ok (.lastore, 1) := by decide +kernel
theorem dL_take_12 : decode cL_take 12 = .ok (.goto 11, 3) := by decide +kernel
theorem dL_take_15 : decode cL_take 15 = .ok (.astore 5, 2) := by decide +kernel
theorem dL_take_17 : decode cL_take 17 = .ok (.iconst 1, 1) := by decide +kernel
theorem dL_take_18 : decode cL_take 18 = .ok (.ireturn, 1) := by decide +kernel
theorem dL_take_19 : decode cL_take 19 = .ok (.astore 5, 2) := by decide +kernel
theorem dL_take_21 : decode cL_take 21 = .ok (.iconst 2, 1) := by decide +kernel
theorem dL_take_22 : decode cL_take 22 = .ok (.ireturn, 1) := by decide +kernel
theorem dL_take_23 : decode cL_take 23 = .ok (.iconst 0, 1) := by decide +kernel
theorem dL_take_24 : decode cL_take 24 = .ok (.ireturn, 1) := by decide +kernel
theorem dL_pass_0 : decode cL_pass 0 = .ok (.aload_n 2, 1) := by decide +kernel
theorem dL_pass_1 : decode cL_pass 1 = .ok (.iconst 0, 1) := by decide +kernel
theorem dL_pass_2 : decode cL_pass 2 = .ok (.aload_n 0, 1) := by decide +kernel
theorem dL_pass_3 : decode cL_pass 3 = .ok (.iload_n 1, 1) := by decide +kernel
theorem dL_pass_4 : decode cL_pass 4 = .ok (.invokevirtual 58, 3) := by decide +kernel
theorem dL_pass_7 : decode cL_pass 7 = .ok (.i2l, 1) := by decide +kernel
theorem dL_pass_8 : decode cL_pass 8 = .ok (.lastore, 1) := by decide +kernel
theorem dL_pass_9 : decode cL_pass 9 = .ok (.goto 9, 3) := by decide +kernel
theorem dL_pass_12 : decode cL_pass 12 = .ok (.astore_n 3, 1) := by decide +kernel
theorem dL_pass_13 : decode cL_pass 13 = .ok (.iconst 1, 1) := by decide +kernel
theorem dL_pass_14 : decode cL_pass 14 = .ok (.ireturn, 1) := by decide +kernel
theorem dL_pass_15 : decode cL_pass 15 = .ok (.astore_n 3, 1) := by decide +kernel
theorem dL_pass_16 : decode cL_pass 16 = .ok (.iconst 2, 1) := by decide +kernel
theorem dL_pass_17 : decode cL_pass 17 = .ok (.ireturn, 1) := by decide +kernel
theorem dL_pass_18 : decode cL_pass 18 = .ok (.iconst 0, 1) := by decide +kernel
theorem dL_pass_19 : decode cL_pass 19 = .ok (.ireturn, 1) := by decide +kernel
theorem dL_lorry_0 : decode cL_lorry 0 = .ok (.aload 4, 2) := by decide +kernel
theorem dL_lorry_2 : decode cL_lorry 2 = .ok (.iconst 0, 1) := by decide +kernel
theorem dL_lorry_3 : decode cL_lorry 3 = .ok (.aload_n 0, 1) := by decide +kernel
theorem dL_lorry_4 : decode cL_lorry 4 = .ok (.iload_n 1, 1) := by decide +kernel
theorem dL_lorry_5 : decode cL_lorry 5 = .ok (.iload_n 2, 1) := by decide +kernel
theorem dL_lorry_6 : decode cL_lorry 6 = .ok (.iload_n 3, 1) := by decide +kernel
theorem dL_lorry_7 : decode cL_lorry 7 = .ok (.invokevirtual 62, 3) := by decide +kernel
theorem dL_lorry_10 : decode cL_lorry 10 = .ok (.i2l, 1) := by decide +kernel
theorem dL_lorry_11 : decode cL_lorry 11 = .ok (.lastore, 1) := by decide +kernel
theorem dL_lorry_12 : decode cL_lorry 12 = .ok (.goto 15, 3) := by decide +kernel
theorem dL_lorry_15 : decode cL_lorry 15 = .ok (.astore 5, 2) := by decide +kernel
theorem dL_lorry_17 : decode cL_lorry 17 = .ok (.iconst 1, 1) := by decide +kernel
theorem dL_lorry_18 : decode cL_lorry 18 = .ok (.ireturn, 1) := by decide +kernel
theorem dL_lorry_19 : decode cL_lorry 19 = .ok (.astore 5, 2) := by decide +kernel
theorem dL_lorry_21 : decode cL_lorry 21 = .ok (.iconst 2, 1) := by decide +kernel
theorem dL_lorry_22 : decode cL_lorry 22 = .ok (.ireturn, 1) := by decide +kernel
theorem dL_lorry_23 : decode cL_lorry 23 = .ok (.astore 5, 2) := by decide +kernel
theorem dL_lorry_25 : decode cL_lorry 25 = .ok (.iconst 3, 1) := by decide +kernel
theorem dL_lorry_26 : decode cL_lorry 26 = .ok (.ireturn, 1) := by decide +kernel
theorem dL_lorry_27 : decode cL_lorry 27 = .ok (.iconst 0, 1) := by decide +kernel
theorem dL_lorry_28 : decode cL_lorry 28 = .ok (.ireturn, 1) := by decide +kernel
theorem dL_pay_0 : decode cL_pay 0 = .ok (.aload_n 3, 1) := by decide +kernel
theorem dL_pay_1 : decode cL_pay 1 = .ok (.iconst 0, 1) := by decide +kernel
theorem dL_pay_2 : decode cL_pay 2 = .ok (.aload_n 0, 1) := by decide +kernel
theorem dL_pay_3 : decode cL_pay 3 = .ok (.iload_n 1, 1) := by decide +kernel
theorem dL_pay_4 : decode cL_pay 4 = .ok (.iload_n 2, 1) := by decide +kernel
theorem dL_pay_5 : decode cL_pay 5 = .ok (.invokevirtual 65, 3) := by decide +kernel
theorem dL_pay_8 : decode cL_pay 8 = .ok (.i2l, 1) := by decide +kernel
theorem dL_pay_9 : decode cL_pay 9 = .ok (.lastore, 1) := by decide +kernel
theorem dL_pay_10 : decode cL_pay 10 = .ok (.goto 11, 3) := by decide +kernel
theorem dL_pay_13 : decode cL_pay 13 = .ok (.astore 4, 2) := by decide +kernel
theorem dL_pay_15 : decode cL_pay 15 = .ok (.iconst 1, 1) := by decide +kernel
theorem dL_pay_16 : decode cL_pay 16 = .ok (.ireturn, 1) := by decide +kernel
theorem dL_pay_17 : decode cL_pay 17 = .ok (.astore 4, 2) := by decide +kernel
theorem dL_pay_19 : decode cL_pay 19 = .ok (.iconst 2, 1) := by decide +kernel
theorem dL_pay_20 : decode cL_pay 20 = .ok (.ireturn, 1) := by decide +kernel
theorem dL_pay_21 : decode cL_pay 21 = .ok (.iconst 0, 1) := by decide +kernel
theorem dL_pay_22 : decode cL_pay 22 = .ok (.ireturn, 1) := by decide +kernel
theorem dL_claim_0 : decode cL_claim 0 = .ok (.aload_n 3, 1) := by decide +kernel
theorem dL_claim_1 : decode cL_claim 1 = .ok (.iconst 0, 1) := by decide +kernel
theorem dL_claim_2 : decode cL_claim 2 = .ok (.aload_n 0, 1) := by decide +kernel
theorem dL_claim_3 : decode cL_claim 3 = .ok (.iload_n 1, 1) := by decide +kernel
theorem dL_claim_4 : decode cL_claim 4 = .ok (.iload_n 2, 1) := by decide +kernel
theorem dL_claim_5 : decode cL_claim 5 = .ok (.invokevirtual 68, 3) := by decide +kernel
theorem dL_claim_8 : decode cL_claim 8 = .ok (.i2l, 1) := by decide +kernel
theorem dL_claim_9 : decode cL_claim 9 = .ok (.lastore, 1) := by decide +kernel
theorem dL_claim_10 : decode cL_claim 10 = .ok (.goto 11, 3) := by decide +kernel
theorem dL_claim_13 : decode cL_claim 13 = .ok (.astore 4, 2) := by decide +kernel
theorem dL_claim_15 : decode cL_claim 15 = .ok (.iconst 1, 1) := by decide +kernel
theorem dL_claim_16 : decode cL_claim 16 = .ok (.ireturn, 1) := by decide +kernel
theorem dL_claim_17 : decode cL_claim 17 = .ok (.astore 4, 2) := by decide +kernel
theorem dL_claim_19 : decode cL_claim 19 = .ok (.iconst 2, 1) := by decide +kernel
theorem dL_claim_20 : decode cL_claim 20 = .ok (.ireturn, 1) := by decide +kernel
theorem dL_claim_21 : decode cL_claim 21 = .ok (.iconst 0, 1) := by decide +kernel
theorem dL_claim_22 : decode cL_claim 22 = .ok (.ireturn, 1) := by decide +kernel
theorem dL_settle_0 : decode cL_settle 0 = .ok (.aload 4, 2) := by decide +kernel
theorem dL_settle_2 : decode cL_settle 2 = .ok (.iconst 0, 1) := by decide +kernel
theorem dL_settle_3 : decode cL_settle 3 = .ok (.aload_n 0, 1) := by decide +kernel
theorem dL_settle_4 : decode cL_settle 4 = .ok (.iload_n 1, 1) := by decide +kernel
theorem dL_settle_5 : decode cL_settle 5 = .ok (.iload_n 2, 1) := by decide +kernel
theorem dL_settle_6 : decode cL_settle 6 = .ok (.iload_n 3, 1) := by decide +kernel
theorem dL_settle_7 : decode cL_settle 7 = .ok (.invokevirtual 71, 3) := by decide +kernel
theorem dL_settle_10 : decode cL_settle 10 = .ok (.i2l, 1) := by decide +kernel
theorem dL_settle_11 : decode cL_settle 11 = .ok (.lastore, 1) := by decide +kernel
theorem dL_settle_12 : decode cL_settle 12 = .ok (.goto 11, 3) := by decide +kernel
theorem dL_settle_15 : decode cL_settle 15 = .ok (.astore 5, 2) := by decide +kernel
theorem dL_settle_17 : decode cL_settle 17 = .ok (.iconst 1, 1) := by decide +kernel
theorem dL_settle_18 : decode cL_settle 18 = .ok (.ireturn, 1) := by decide +kernel
theorem dL_settle_19 : decode cL_settle 19 = .ok (.astore 5, 2) := by decide +kernel
theorem dL_settle_21 : decode cL_settle 21 = .ok (.iconst 2, 1) := by decide +kernel
theorem dL_settle_22 : decode cL_settle 22 = .ok (.ireturn, 1) := by decide +kernel
theorem dL_settle_23 : decode cL_settle 23 = .ok (.iconst 0, 1) := by decide +kernel
theorem dL_settle_24 : decode cL_settle 24 = .ok (.ireturn, 1) := by decide +kernel
theorem dL_told_0 : decode cL_told 0 = .ok (.aload_n 3, 1) := by decide +kernel
theorem dL_told_1 : decode cL_told 1 = .ok (.iconst 0, 1) := by decide +kernel
theorem dL_told_2 : decode cL_told 2 = .ok (.aload_n 0, 1) := by decide +kernel
theorem dL_told_3 : decode cL_told 3 = .ok (.iload_n 1, 1) := by decide +kernel
theorem dL_told_4 : decode cL_told 4 = .ok (.iload_n 2, 1) := by decide +kernel
theorem dL_told_5 : decode cL_told 5 = .ok (.invokevirtual 74, 3) := by decide +kernel
theorem dL_told_8 : decode cL_told 8 = .ok (.i2l, 1) := by decide +kernel
theorem dL_told_9 : decode cL_told 9 = .ok (.lastore, 1) := by decide +kernel
theorem dL_told_10 : decode cL_told 10 = .ok (.goto 11, 3) := by decide +kernel
theorem dL_told_13 : decode cL_told 13 = .ok (.astore 4, 2) := by decide +kernel
theorem dL_told_15 : decode cL_told 15 = .ok (.iconst 1, 1) := by decide +kernel
theorem dL_told_16 : decode cL_told 16 = .ok (.ireturn, 1) := by decide +kernel
theorem dL_told_17 : decode cL_told 17 = .ok (.astore 4, 2) := by decide +kernel
theorem dL_told_19 : decode cL_told 19 = .ok (.iconst 2, 1) := by decide +kernel
theorem dL_told_20 : decode cL_told 20 = .ok (.ireturn, 1) := by decide +kernel
theorem dL_told_21 : decode cL_told 21 = .ok (.iconst 0, 1) := by decide +kernel
theorem dL_told_22 : decode cL_told 22 = .ok (.ireturn, 1) := by decide +kernel
theorem dL_lot_0 : decode cL_lot 0 = .ok (.aload_n 3, 1) := by decide +kernel
theorem dL_lot_1 : decode cL_lot 1 = .ok (.iconst 0, 1) := by decide +kernel
theorem dL_lot_2 : decode cL_lot 2 = .ok (.aload_n 0, 1) := by decide +kernel
theorem dL_lot_3 : decode cL_lot 3 = .ok (.iload_n 1, 1) := by decide +kernel
theorem dL_lot_4 : decode cL_lot 4 = .ok (.iload_n 2, 1) := by decide +kernel
theorem dL_lot_5 : decode cL_lot 5 = .ok (.invokevirtual 77, 3) := by decide +kernel
theorem dL_lot_8 : decode cL_lot 8 = .ok (.i2l, 1) := by decide +kernel
theorem dL_lot_9 : decode cL_lot 9 = .ok (.lastore, 1) := by decide +kernel
theorem dL_lot_10 : decode cL_lot 10 = .ok (.goto 11, 3) := by decide +kernel
theorem dL_lot_13 : decode cL_lot 13 = .ok (.astore 4, 2) := by decide +kernel
theorem dL_lot_15 : decode cL_lot 15 = .ok (.iconst 1, 1) := by decide +kernel
theorem dL_lot_16 : decode cL_lot 16 = .ok (.ireturn, 1) := by decide +kernel
theorem dL_lot_17 : decode cL_lot 17 = .ok (.astore 4, 2) := by decide +kernel
theorem dL_lot_19 : decode cL_lot 19 = .ok (.iconst 2, 1) := by decide +kernel
theorem dL_lot_20 : decode cL_lot 20 = .ok (.ireturn, 1) := by decide +kernel
theorem dL_lot_21 : decode cL_lot 21 = .ok (.iconst 0, 1) := by decide +kernel
theorem dL_lot_22 : decode cL_lot 22 = .ok (.ireturn, 1) := by decide +kernel
theorem dL_hall_0 : decode cL_hall 0 = .ok (.aload_n 3, 1) := by decide +kernel
theorem dL_hall_1 : decode cL_hall 1 = .ok (.iconst 0, 1) := by decide +kernel
theorem dL_hall_2 : decode cL_hall 2 = .ok (.aload_n 0, 1) := by decide +kernel
theorem dL_hall_3 : decode cL_hall 3 = .ok (.iload_n 1, 1) := by decide +kernel
theorem dL_hall_4 : decode cL_hall 4 = .ok (.iload_n 2, 1) := by decide +kernel
theorem dL_hall_5 : decode cL_hall 5 = .ok (.invokevirtual 80, 3) := by decide +kernel
theorem dL_hall_8 : decode cL_hall 8 = .ok (.i2l, 1) := by decide +kernel
theorem dL_hall_9 : decode cL_hall 9 = .ok (.lastore, 1) := by decide +kernel
theorem dL_hall_10 : decode cL_hall 10 = .ok (.goto 11, 3) := by decide +kernel
theorem dL_hall_13 : decode cL_hall 13 = .ok (.astore 4, 2) := by decide +kernel
theorem dL_hall_15 : decode cL_hall 15 = .ok (.iconst 1, 1) := by decide +kernel
theorem dL_hall_16 : decode cL_hall 16 = .ok (.ireturn, 1) := by decide +kernel
theorem dL_hall_17 : decode cL_hall 17 = .ok (.astore 4, 2) := by decide +kernel
theorem dL_hall_19 : decode cL_hall 19 = .ok (.iconst 2, 1) := by decide +kernel
theorem dL_hall_20 : decode cL_hall 20 = .ok (.ireturn, 1) := by decide +kernel
theorem dL_hall_21 : decode cL_hall 21 = .ok (.iconst 0, 1) := by decide +kernel
theorem dL_hall_22 : decode cL_hall 22 = .ok (.ireturn, 1) := by decide +kernel
theorem dL_account_0 : decode cL_account 0 = .ok (.aload_n 3, 1) := by decide +kernel
theorem dL_account_1 : decode cL_account 1 = .ok (.iconst 0, 1) := by decide +kernel
theorem dL_account_2 : decode cL_account 2 = .ok (.aload_n 0, 1) := by decide +kernel
theorem dL_account_3 : decode cL_account 3 = .ok (.iload_n 1, 1) := by decide +kernel
theorem dL_account_4 : decode cL_account 4 = .ok (.iload_n 2, 1) := by decide +kernel
theorem dL_account_5 : decode cL_account 5 = .ok (.invokevirtual 83, 3) := by decide +kernel
theorem dL_account_8 : decode cL_account 8 = .ok (.i2l, 1) := by decide +kernel
theorem dL_account_9 : decode cL_account 9 = .ok (.lastore, 1) := by decide +kernel
theorem dL_account_10 : decode cL_account 10 = .ok (.goto 11, 3) := by decide +kernel
theorem dL_account_13 : decode cL_account 13 = .ok (.astore 4, 2) := by decide +kernel
theorem dL_account_15 : decode cL_account 15 = .ok (.iconst 1, 1) := by decide +kernel
theorem dL_account_16 : decode cL_account 16 = .ok (.ireturn, 1) := by decide +kernel
theorem dL_account_17 : decode cL_account 17 = .ok (.astore 4, 2) := by decide +kernel
theorem dL_account_19 : decode cL_account 19 = .ok (.iconst 2, 1) := by decide +kernel
theorem dL_account_20 : decode cL_account 20 = .ok (.ireturn, 1) := by decide +kernel
theorem dL_account_21 : decode cL_account 21 = .ok (.iconst 0, 1) := by decide +kernel
theorem dL_account_22 : decode cL_account 22 = .ok (.ireturn, 1) := by decide +kernel
theorem dL_ship_0 : decode cL_ship 0 = .ok (.aload_n 3, 1) := by decide +kernel
theorem dL_ship_1 : decode cL_ship 1 = .ok (.iconst 0, 1) := by decide +kernel
theorem dL_ship_2 : decode cL_ship 2 = .ok (.aload_n 0, 1) := by decide +kernel
theorem dL_ship_3 : decode cL_ship 3 = .ok (.iload_n 1, 1) := by decide +kernel
theorem dL_ship_4 : decode cL_ship 4 = .ok (.iload_n 2, 1) := by decide +kernel
theorem dL_ship_5 : decode cL_ship 5 = .ok (.invokevirtual 86, 3) := by decide +kernel
theorem dL_ship_8 : decode cL_ship 8 = .ok (.i2l, 1) := by decide +kernel
theorem dL_ship_9 : decode cL_ship 9 = .ok (.lastore, 1) := by decide +kernel
theorem dL_ship_10 : decode cL_ship 10 = .ok (.goto 11, 3) := by decide +kernel
theorem dL_ship_13 : decode cL_ship 13 = .ok (.astore 4, 2) := by decide +kernel
theorem dL_ship_15 : decode cL_ship 15 = .ok (.iconst 1, 1) := by decide +kernel
theorem dL_ship_16 : decode cL_ship 16 = .ok (.ireturn, 1) := by decide +kernel
theorem dL_ship_17 : decode cL_ship 17 = .ok (.astore 4, 2) := by decide +kernel
theorem dL_ship_19 : decode cL_ship 19 = .ok (.iconst 2, 1) := by decide +kernel
theorem dL_ship_20 : decode cL_ship 20 = .ok (.ireturn, 1) := by decide +kernel
theorem dL_ship_21 : decode cL_ship 21 = .ok (.iconst 0, 1) := by decide +kernel
theorem dL_ship_22 : decode cL_ship 22 = .ok (.ireturn, 1) := by decide +kernel
theorem dL_kilos_0 : decode cL_kilos 0 = .ok (.aload_n 2, 1) := by decide +kernel
theorem dL_kilos_1 : decode cL_kilos 1 = .ok (.iconst 0, 1) := by decide +kernel
theorem dL_kilos_2 : decode cL_kilos 2 = .ok (.aload_n 0, 1) := by decide +kernel
theorem dL_kilos_3 : decode cL_kilos 3 = .ok (.iload_n 1, 1) := by decide +kernel
theorem dL_kilos_4 : decode cL_kilos 4 = .ok (.invokevirtual 89, 3) := by decide +kernel
theorem dL_kilos_7 : decode cL_kilos 7 = .ok (.i2l, 1) := by decide +kernel
theorem dL_kilos_8 : decode cL_kilos 8 = .ok (.lastore, 1) := by decide +kernel
theorem dL_kilos_9 : decode cL_kilos 9 = .ok (.goto 6, 3) := by decide +kernel
theorem dL_kilos_12 : decode cL_kilos 12 = .ok (.astore_n 3, 1) := by decide +kernel
theorem dL_kilos_13 : decode cL_kilos 13 = .ok (.iconst 1, 1) := by decide +kernel
theorem dL_kilos_14 : decode cL_kilos 14 = .ok (.ireturn, 1) := by decide +kernel
theorem dL_kilos_15 : decode cL_kilos 15 = .ok (.iconst 0, 1) := by decide +kernel
theorem dL_kilos_16 : decode cL_kilos 16 = .ok (.ireturn, 1) := by decide +kernel
theorem dL_kilosAnew_0 : decode cL_kilosAnew 0 = .ok (.aload_n 2, 1) := by decide +kernel
theorem dL_kilosAnew_1 : decode cL_kilosAnew 1 = .ok (.iconst 0, 1) := by decide +kernel
theorem dL_kilosAnew_2 : decode cL_kilosAnew 2 = .ok (.aload_n 0, 1) := by decide +kernel
theorem dL_kilosAnew_3 : decode cL_kilosAnew 3 = .ok (.iload_n 1, 1) := by decide +kernel
theorem dL_kilosAnew_4 : decode cL_kilosAnew 4 = .ok (.invokevirtual 92, 3) := by decide +kernel
theorem dL_kilosAnew_7 : decode cL_kilosAnew 7 = .ok (.i2l, 1) := by decide +kernel
theorem dL_kilosAnew_8 : decode cL_kilosAnew 8 = .ok (.lastore, 1) := by decide +kernel
theorem dL_kilosAnew_9 : decode cL_kilosAnew 9 = .ok (.goto 6, 3) := by decide +kernel
theorem dL_kilosAnew_12 : decode cL_kilosAnew 12 = .ok (.astore_n 3, 1) := by decide +kernel
theorem dL_kilosAnew_13 : decode cL_kilosAnew 13 = .ok (.iconst 1, 1) := by decide +kernel
theorem dL_kilosAnew_14 : decode cL_kilosAnew 14 = .ok (.ireturn, 1) := by decide +kernel
theorem dL_kilosAnew_15 : decode cL_kilosAnew 15 = .ok (.iconst 0, 1) := by decide +kernel
theorem dL_kilosAnew_16 : decode cL_kilosAnew 16 = .ok (.ireturn, 1) := by decide +kernel
theorem dL_average_0 : decode cL_average 0 = .ok (.aload_n 3, 1) := by decide +kernel
theorem dL_average_1 : decode cL_average 1 = .ok (.iconst 0, 1) := by decide +kernel
theorem dL_average_2 : decode cL_average 2 = .ok (.aload_n 0, 1) := by decide +kernel
theorem dL_average_3 : decode cL_average 3 = .ok (.iload_n 1, 1) := by decide +kernel
theorem dL_average_4 : decode cL_average 4 = .ok (.iload_n 2, 1) := by decide +kernel
theorem dL_average_5 : decode cL_average 5 = .ok (.invokevirtual 95, 3) := by decide +kernel
theorem dL_average_8 : decode cL_average 8 = .ok (.i2l, 1) := by decide +kernel
theorem dL_average_9 : decode cL_average 9 = .ok (.lastore, 1) := by decide +kernel
theorem dL_average_10 : decode cL_average 10 = .ok (.goto 11, 3) := by decide +kernel
theorem dL_average_13 : decode cL_average 13 = .ok (.astore 4, 2) := by decide +kernel
theorem dL_average_15 : decode cL_average 15 = .ok (.iconst 1, 1) := by decide +kernel
theorem dL_average_16 : decode cL_average 16 = .ok (.ireturn, 1) := by decide +kernel
theorem dL_average_17 : decode cL_average 17 = .ok (.astore 4, 2) := by decide +kernel
theorem dL_average_19 : decode cL_average 19 = .ok (.iconst 2, 1) := by decide +kernel
theorem dL_average_20 : decode cL_average 20 = .ok (.ireturn, 1) := by decide +kernel
theorem dL_average_21 : decode cL_average 21 = .ok (.iconst 0, 1) := by decide +kernel
theorem dL_average_22 : decode cL_average 22 = .ok (.ireturn, 1) := by decide +kernel
theorem dL_loaded_0 : decode cL_loaded 0 = .ok (.aload_n 2, 1) := by decide +kernel
theorem dL_loaded_1 : decode cL_loaded 1 = .ok (.iconst 0, 1) := by decide +kernel
theorem dL_loaded_2 : decode cL_loaded 2 = .ok (.aload_n 0, 1) := by decide +kernel
theorem dL_loaded_3 : decode cL_loaded 3 = .ok (.iload_n 1, 1) := by decide +kernel
theorem dL_loaded_4 : decode cL_loaded 4 = .ok (.invokevirtual 98, 3) := by decide +kernel
theorem dL_loaded_7 : decode cL_loaded 7 = .ok (.i2l, 1) := by decide +kernel
theorem dL_loaded_8 : decode cL_loaded 8 = .ok (.lastore, 1) := by decide +kernel
theorem dL_loaded_9 : decode cL_loaded 9 = .ok (.goto 6, 3) := by decide +kernel
theorem dL_loaded_12 : decode cL_loaded 12 = .ok (.astore_n 3, 1) := by decide +kernel
theorem dL_loaded_13 : decode cL_loaded 13 = .ok (.iconst 1, 1) := by decide +kernel
theorem dL_loaded_14 : decode cL_loaded 14 = .ok (.ireturn, 1) := by decide +kernel
theorem dL_loaded_15 : decode cL_loaded 15 = .ok (.iconst 0, 1) := by decide +kernel
theorem dL_loaded_16 : decode cL_loaded 16 = .ok (.ireturn, 1) := by decide +kernel
theorem dL_law_0 : decode cL_law 0 = .ok (.new 8, 3) := by decide +kernel
theorem dL_law_3 : decode cL_law 3 = .ok (.dup, 1) := by decide +kernel
theorem dL_law_4 : decode cL_law 4 = .ok (.invokespecial 101, 3) := by decide +kernel
theorem dL_law_7 : decode cL_law 7 = .ok (.astore_n 1, 1) := by decide +kernel
theorem dL_law_8 : decode cL_law 8 = .ok (.new 102, 3) := by decide +kernel
theorem dL_law_11 : decode cL_law 11 = .ok (.dup, 1) := by decide +kernel
theorem dL_law_12 : decode cL_law 12 = .ok (.invokespecial 104, 3) := by decide +kernel
theorem dL_law_15 : decode cL_law 15 = .ok (.astore_n 2, 1) := by decide +kernel
theorem dL_law_16 : decode cL_law 16 = .ok (.iconst 1, 1) := by decide +kernel
theorem dL_law_17 : decode cL_law 17 = .ok (.newarray .long, 2) := by decide +kernel
theorem dL_law_19 : decode cL_law 19 = .ok (.astore_n 3, 1) := by decide +kernel
theorem dL_law_20 : decode cL_law 20 = .ok (.iconst 0, 1) := by decide +kernel
theorem dL_law_21 : decode cL_law 21 = .ok (.istore 4, 2) := by decide +kernel
theorem dL_law_23 : decode cL_law 23 = .ok (.iload 4, 2) := by decide +kernel
theorem dL_law_25 : decode cL_law 25 = .ok (.aload_n 0, 1) := by decide +kernel
theorem dL_law_26 : decode cL_law 26 = .ok (.arraylength, 1) := by decide +kernel
theorem dL_law_27 : decode cL_law 27 = .ok (.bipush 7, 2) := by decide +kernel
theorem dL_law_29 : decode cL_law 29 = .ok (.isub, 1) := by decide +kernel
theorem dL_law_30 : decode cL_law 30 = .ok (.if_icmp .gt 2076, 3) := by decide +kernel
theorem dL_law_33 : decode cL_law 33 = .ok (.aload_n 0, 1) := by decide +kernel
theorem dL_law_34 : decode cL_law 34 = .ok (.iload 4, 2) := by decide +kernel
theorem dL_law_36 : decode cL_law 36 = .ok (.iaload, 1) := by decide +kernel
theorem dL_law_37 : decode cL_law 37 = .ok (.bipush 31, 2) := by decide +kernel
theorem dL_law_39 : decode cL_law 39 = .ok (.iand, 1) := by decide +kernel
theorem dL_law_40 : decode cL_law 40 = .ok (.tableswitch 2060 0 29 #[136, 216, 312, 384, 452, 532, 557, 648, 739, 857, 901, 945, 1013, 1093, 1149, 1229, 1297, 1365, 1445, 1458, 1471, 1484, 1552, 1620, 1688, 1756, 1824, 1880, 1936, 2004], 136) := by decide +kernel
theorem dL_law_176 : decode cL_law 176 = .ok (.aload_n 1, 1) := by decide +kernel
theorem dL_law_177 : decode cL_law 177 = .ok (.aload_n 0, 1) := by decide +kernel
theorem dL_law_178 : decode cL_law 178 = .ok (.iload 4, 2) := by decide +kernel
theorem dL_law_180 : decode cL_law 180 = .ok (.iconst 1, 1) := by decide +kernel
theorem dL_law_181 : decode cL_law 181 = .ok (.iadd, 1) := by decide +kernel
theorem dL_law_182 : decode cL_law 182 = .ok (.iaload, 1) := by decide +kernel
theorem dL_law_183 : decode cL_law 183 = .ok (.aload_n 0, 1) := by decide +kernel
theorem dL_law_184 : decode cL_law 184 = .ok (.iload 4, 2) := by decide +kernel
theorem dL_law_186 : decode cL_law 186 = .ok (.iconst 2, 1) := by decide +kernel
theorem dL_law_187 : decode cL_law 187 = .ok (.iadd, 1) := by decide +kernel
theorem dL_law_188 : decode cL_law 188 = .ok (.iaload, 1) := by decide +kernel
theorem dL_law_189 : decode cL_law 189 = .ok (.aload_n 0, 1) := by decide +kernel
theorem dL_law_190 : decode cL_law 190 = .ok (.iload 4, 2) := by decide +kernel
theorem dL_law_192 : decode cL_law 192 = .ok (.iconst 3, 1) := by decide +kernel
theorem dL_law_193 : decode cL_law 193 = .ok (.iadd, 1) := by decide +kernel
theorem dL_law_194 : decode cL_law 194 = .ok (.iaload, 1) := by decide +kernel
theorem dL_law_195 : decode cL_law 195 = .ok (.aload_n 3, 1) := by decide +kernel
theorem dL_law_196 : decode cL_law 196 = .ok (.invokestatic 105, 3) := by decide +kernel
theorem dL_law_199 : decode cL_law 199 = .ok (.istore 5, 2) := by decide +kernel
theorem dL_law_201 : decode cL_law 201 = .ok (.aload_n 2, 1) := by decide +kernel
theorem dL_law_202 : decode cL_law 202 = .ok (.aload_n 0, 1) := by decide +kernel
theorem dL_law_203 : decode cL_law 203 = .ok (.iload 4, 2) := by decide +kernel
theorem dL_law_205 : decode cL_law 205 = .ok (.iconst 1, 1) := by decide +kernel
theorem dL_law_206 : decode cL_law 206 = .ok (.iadd, 1) := by decide +kernel
theorem dL_law_207 : decode cL_law 207 = .ok (.iaload, 1) := by decide +kernel
theorem dL_law_208 : decode cL_law 208 = .ok (.aload_n 0, 1) := by decide +kernel
theorem dL_law_209 : decode cL_law 209 = .ok (.iload 4, 2) := by decide +kernel
theorem dL_law_211 : decode cL_law 211 = .ok (.iconst 2, 1) := by decide +kernel
theorem dL_law_212 : decode cL_law 212 = .ok (.iadd, 1) := by decide +kernel
theorem dL_law_213 : decode cL_law 213 = .ok (.iaload, 1) := by decide +kernel
theorem dL_law_214 : decode cL_law 214 = .ok (.aload_n 0, 1) := by decide +kernel
theorem dL_law_215 : decode cL_law 215 = .ok (.iload 4, 2) := by decide +kernel
theorem dL_law_217 : decode cL_law 217 = .ok (.iconst 3, 1) := by decide +kernel
theorem dL_law_218 : decode cL_law 218 = .ok (.iadd, 1) := by decide +kernel
theorem dL_law_219 : decode cL_law 219 = .ok (.iaload, 1) := by decide +kernel
theorem dL_law_220 : decode cL_law 220 = .ok (.invokevirtual 110, 3) := by decide +kernel
theorem dL_law_223 : decode cL_law 223 = .ok (.istore 6, 2) := by decide +kernel
theorem dL_law_225 : decode cL_law 225 = .ok (.aload_n 2, 1) := by decide +kernel
theorem dL_law_226 : decode cL_law 226 = .ok (.invokevirtual 111, 3) := by decide +kernel
theorem dL_law_229 : decode cL_law 229 = .ok (.iload 5, 2) := by decide +kernel
theorem dL_law_231 : decode cL_law 231 = .ok (.if_icmp .eq 5, 3) := by decide +kernel
theorem dL_law_234 : decode cL_law 234 = .ok (.iconst 0, 1) := by decide +kernel
theorem dL_law_235 : decode cL_law 235 = .ok (.ireturn, 1) := by decide +kernel
theorem dL_law_236 : decode cL_law 236 = .ok (.iload 5, 2) := by decide +kernel
theorem dL_law_238 : decode cL_law 238 = .ok (.ifCond .ne 15, 3) := by decide +kernel
theorem dL_law_241 : decode cL_law 241 = .ok (.aload_n 3, 1) := by decide +kernel
theorem dL_law_242 : decode cL_law 242 = .ok (.iconst 0, 1) := by decide +kernel
theorem dL_law_243 : decode cL_law 243 = .ok (.laload, 1) := by decide +kernel
theorem dL_law_244 : decode cL_law 244 = .ok (.iload 6, 2) := by decide +kernel
theorem dL_law_246 : decode cL_law 246 = .ok (.i2l, 1) := by decide +kernel
theorem dL_law_247 : decode cL_law 247 = .ok (.lcmp, 1) := by decide +kernel
theorem dL_law_248 : decode cL_law 248 = .ok (.ifCond .eq 5, 3) := by decide +kernel
theorem dL_law_251 : decode cL_law 251 = .ok (.iconst 0, 1) := by decide +kernel
theorem dL_law_252 : decode cL_law 252 = .ok (.ireturn, 1) := by decide +kernel
theorem dL_law_253 : decode cL_law 253 = .ok (.goto 1847, 3) := by decide +kernel
theorem dL_law_256 : decode cL_law 256 = .ok (.aload_n 1, 1) := by decide +kernel
theorem dL_law_257 : decode cL_law 257 = .ok (.aload_n 0, 1) := by decide +kernel
theorem dL_law_258 : decode cL_law 258 = .ok (.iload 4, 2) := by decide +kernel
theorem dL_law_260 : decode cL_law 260 = .ok (.iconst 1, 1) := by decide +kernel
theorem dL_law_261 : decode cL_law 261 = .ok (.iadd, 1) := by decide +kernel
theorem dL_law_262 : decode cL_law 262 = .ok (.iaload, 1) := by decide +kernel
theorem dL_law_263 : decode cL_law 263 = .ok (.aload_n 0, 1) := by decide +kernel
theorem dL_law_264 : decode cL_law 264 = .ok (.iload 4, 2) := by decide +kernel
theorem dL_law_266 : decode cL_law 266 = .ok (.iconst 2, 1) := by decide +kernel
theorem dL_law_267 : decode cL_law 267 = .ok (.iadd, 1) := by decide +kernel
theorem dL_law_268 : decode cL_law 268 = .ok (.iaload, 1) := by decide +kernel
theorem dL_law_269 : decode cL_law 269 = .ok (.aload_n 0, 1) := by decide +kernel
theorem dL_law_270 : decode cL_law 270 = .ok (.iload 4, 2) := by decide +kernel
theorem dL_law_272 : decode cL_law 272 = .ok (.iconst 3, 1) := by decide +kernel
theorem dL_law_273 : decode cL_law 273 = .ok (.iadd, 1) := by decide +kernel
theorem dL_law_274 : decode cL_law 274 = .ok (.iaload, 1) := by decide +kernel
theorem dL_law_275 : decode cL_law 275 = .ok (.ifCond .eq 7, 3) := by decide +kernel
theorem dL_law_278 : decode cL_law 278 = .ok (.iconst 1, 1) := by decide +kernel
theorem dL_law_279 : decode cL_law 279 = .ok (.goto 4, 3) := by decide +kernel
theorem dL_law_282 : decode cL_law 282 = .ok (.iconst 0, 1) := by decide +kernel
theorem dL_law_283 : decode cL_law 283 = .ok (.aload_n 3, 1) := by decide +kernel
theorem dL_law_284 : decode cL_law 284 = .ok (.invokestatic 114, 3) := by decide +kernel
theorem dL_law_287 : decode cL_law 287 = .ok (.istore 5, 2) := by decide +kernel
theorem dL_law_289 : decode cL_law 289 = .ok (.aload_n 2, 1) := by decide +kernel
theorem dL_law_290 : decode cL_law 290 = .ok (.aload_n 0, 1) := by decide +kernel
theorem dL_law_291 : decode cL_law 291 = .ok (.iload 4, 2) := by decide +kernel
theorem dL_law_293 : decode cL_law 293 = .ok (.iconst 1, 1) := by decide +kernel
theorem dL_law_294 : decode cL_law 294 = .ok (.iadd, 1) := by decide +kernel
theorem dL_law_295 : decode cL_law 295 = .ok (.iaload, 1) := by decide +kernel
theorem dL_law_296 : decode cL_law 296 = .ok (.aload_n 0, 1) := by decide +kernel
theorem dL_law_297 : decode cL_law 297 = .ok (.iload 4, 2) := by decide +kernel
theorem dL_law_299 : decode cL_law 299 = .ok (.iconst 2, 1) := by decide +kernel
theorem dL_law_300 : decode cL_law 300 = .ok (.iadd, 1) := by decide +kernel
theorem dL_law_301 : decode cL_law 301 = .ok (.iaload, 1) := by decide +kernel
theorem dL_law_302 : decode cL_law 302 = .ok (.aload_n 0, 1) := by decide +kernel
theorem dL_law_303 : decode cL_law 303 = .ok (.iload 4, 2) := by decide +kernel
theorem dL_law_305 : decode cL_law 305 = .ok (.iconst 3, 1) := by decide +kernel
theorem dL_law_306 : decode cL_law 306 = .ok (.iadd, 1) := by decide +kernel
theorem dL_law_307 : decode cL_law 307 = .ok (.iaload, 1) := by decide +kernel
theorem dL_law_308 : decode cL_law 308 = .ok (.ifCond .eq 7, 3) := by decide +kernel
theorem dL_law_311 : decode cL_law 311 = .ok (.iconst 1, 1) := by decide +kernel
theorem dL_law_312 : decode cL_law 312 = .ok (.goto 4, 3) := by decide +kernel
theorem dL_law_315 : decode cL_law 315 = .ok (.iconst 0, 1) := by decide +kernel
theorem dL_law_316 : decode cL_law 316 = .ok (.invokevirtual 117, 3) := by decide +kernel
theorem dL_law_319 : decode cL_law 319 = .ok (.istore 6, 2) := by decide +kernel
theorem dL_law_321 : decode cL_law 321 = .ok (.aload_n 2, 1) := by decide +kernel
theorem dL_law_322 : decode cL_law 322 = .ok (.invokevirtual 111, 3) := by decide +kernel
theorem dL_law_325 : decode cL_law 325 = .ok (.iload 5, 2) := by decide +kernel
theorem dL_law_327 : decode cL_law 327 = .ok (.if_icmp .eq 5, 3) := by decide +kernel
theorem dL_law_330 : decode cL_law 330 = .ok (.iconst 0, 1) := by decide +kernel
theorem dL_law_331 : decode cL_law 331 = .ok (.ireturn, 1) := by decide +kernel
theorem dL_law_332 : decode cL_law 332 = .ok (.iload 5, 2) := by decide +kernel
theorem dL_law_334 : decode cL_law 334 = .ok (.ifCond .ne 15, 3) := by decide +kernel
theorem dL_law_337 : decode cL_law 337 = .ok (.aload_n 3, 1) := by decide +kernel
theorem dL_law_338 : decode cL_law 338 = .ok (.iconst 0, 1) := by decide +kernel
theorem dL_law_339 : decode cL_law 339 = .ok (.laload, 1) := by decide +kernel
theorem dL_law_340 : decode cL_law 340 = .ok (.iload 6, 2) := by decide +kernel
theorem dL_law_342 : decode cL_law 342 = .ok (.i2l, 1) := by decide +kernel
theorem dL_law_343 : decode cL_law 343 = .ok (.lcmp, 1) := by decide +kernel
theorem dL_law_344 : decode cL_law 344 = .ok (.ifCond .eq 5, 3) := by decide +kernel
theorem dL_law_347 : decode cL_law 347 = .ok (.iconst 0, 1) := by decide +kernel
theorem dL_law_348 : decode cL_law 348 = .ok (.ireturn, 1) := by decide +kernel
theorem dL_law_349 : decode cL_law 349 = .ok (.goto 1751, 3) := by decide +kernel
theorem dL_law_352 : decode cL_law 352 = .ok (.aload_n 1, 1) := by decide +kernel
theorem dL_law_353 : decode cL_law 353 = .ok (.aload_n 0, 1) := by decide +kernel
theorem dL_law_354 : decode cL_law 354 = .ok (.iload 4, 2) := by decide +kernel
theorem dL_law_356 : decode cL_law 356 = .ok (.iconst 1, 1) := by decide +kernel
theorem dL_law_357 : decode cL_law 357 = .ok (.iadd, 1) := by decide +kernel
theorem dL_law_358 : decode cL_law 358 = .ok (.iaload, 1) := by decide +kernel
theorem dL_law_359 : decode cL_law 359 = .ok (.aload_n 0, 1) := by decide +kernel
theorem dL_law_360 : decode cL_law 360 = .ok (.iload 4, 2) := by decide +kernel
theorem dL_law_362 : decode cL_law 362 = .ok (.iconst 2, 1) := by decide +kernel
theorem dL_law_363 : decode cL_law 363 = .ok (.iadd, 1) := by decide +kernel
theorem dL_law_364 : decode cL_law 364 = .ok (.iaload, 1) := by decide +kernel
theorem dL_law_365 : decode cL_law 365 = .ok (.aload_n 0, 1) := by decide +kernel
theorem dL_law_366 : decode cL_law 366 = .ok (.iload 4, 2) := by decide +kernel
theorem dL_law_368 : decode cL_law 368 = .ok (.iconst 3, 1) := by decide +kernel
theorem dL_law_369 : decode cL_law 369 = .ok (.iadd, 1) := by decide +kernel
theorem dL_law_370 : decode cL_law 370 = .ok (.iaload, 1) := by decide +kernel
theorem dL_law_371 : decode cL_law 371 = .ok (.aload_n 0, 1) := by decide +kernel
theorem dL_law_372 : decode cL_law 372 = .ok (.iload 4, 2) := by decide +kernel
theorem dL_law_374 : decode cL_law 374 = .ok (.iconst 4, 1) := by decide +kernel
theorem dL_law_375 : decode cL_law 375 = .ok (.iadd, 1) := by decide +kernel
theorem dL_law_376 : decode cL_law 376 = .ok (.iaload, 1) := by decide +kernel
theorem dL_law_377 : decode cL_law 377 = .ok (.invokestatic 118, 3) := by decide +kernel
theorem dL_law_380 : decode cL_law 380 = .ok (.istore 5, 2) := by decide +kernel
theorem dL_law_382 : decode cL_law 382 = .ok (.aload_n 2, 1) := by decide +kernel
theorem dL_law_383 : decode cL_law 383 = .ok (.aload_n 0, 1) := by decide +kernel
theorem dL_law_384 : decode cL_law 384 = .ok (.iload 4, 2) := by decide +kernel
theorem dL_law_386 : decode cL_law 386 = .ok (.iconst 1, 1) := by decide +kernel
theorem dL_law_387 : decode cL_law 387 = .ok (.iadd, 1) := by decide +kernel
theorem dL_law_388 : decode cL_law 388 = .ok (.iaload, 1) := by decide +kernel
theorem dL_law_389 : decode cL_law 389 = .ok (.aload_n 0, 1) := by decide +kernel
theorem dL_law_390 : decode cL_law 390 = .ok (.iload 4, 2) := by decide +kernel
theorem dL_law_392 : decode cL_law 392 = .ok (.iconst 2, 1) := by decide +kernel
theorem dL_law_393 : decode cL_law 393 = .ok (.iadd, 1) := by decide +kernel
theorem dL_law_394 : decode cL_law 394 = .ok (.iaload, 1) := by decide +kernel
theorem dL_law_395 : decode cL_law 395 = .ok (.aload_n 0, 1) := by decide +kernel
theorem dL_law_396 : decode cL_law 396 = .ok (.iload 4, 2) := by decide +kernel
theorem dL_law_398 : decode cL_law 398 = .ok (.iconst 3, 1) := by decide +kernel
theorem dL_law_399 : decode cL_law 399 = .ok (.iadd, 1) := by decide +kernel
theorem dL_law_400 : decode cL_law 400 = .ok (.iaload, 1) := by decide +kernel
theorem dL_law_401 : decode cL_law 401 = .ok (.aload_n 0, 1) := by decide +kernel
theorem dL_law_402 : decode cL_law 402 = .ok (.iload 4, 2) := by decide +kernel
theorem dL_law_404 : decode cL_law 404 = .ok (.iconst 4, 1) := by decide +kernel
theorem dL_law_405 : decode cL_law 405 = .ok (.iadd, 1) := by decide +kernel
theorem dL_law_406 : decode cL_law 406 = .ok (.iaload, 1) := by decide +kernel
theorem dL_law_407 : decode cL_law 407 = .ok (.invokevirtual 121, 3) := by decide +kernel
theorem dL_law_410 : decode cL_law 410 = .ok (.aload_n 2, 1) := by decide +kernel
theorem dL_law_411 : decode cL_law 411 = .ok (.invokevirtual 111, 3) := by decide +kernel
theorem dL_law_414 : decode cL_law 414 = .ok (.iload 5, 2) := by decide +kernel
theorem dL_law_416 : decode cL_law 416 = .ok (.if_icmp .eq 5, 3) := by decide +kernel
theorem dL_law_419 : decode cL_law 419 = .ok (.iconst 0, 1) := by decide +kernel
theorem dL_law_420 : decode cL_law 420 = .ok (.ireturn, 1) := by decide +kernel
theorem dL_law_421 : decode cL_law 421 = .ok (.goto 1679, 3) := by decide +kernel
theorem dL_law_424 : decode cL_law 424 = .ok (.aload_n 1, 1) := by decide +kernel
theorem dL_law_425 : decode cL_law 425 = .ok (.aload_n 0, 1) := by decide +kernel
theorem dL_law_426 : decode cL_law 426 = .ok (.iload 4, 2) := by decide +kernel
theorem dL_law_428 : decode cL_law 428 = .ok (.iconst 1, 1) := by decide +kernel
theorem dL_law_429 : decode cL_law 429 = .ok (.iadd, 1) := by decide +kernel
theorem dL_law_430 : decode cL_law 430 = .ok (.iaload, 1) := by decide +kernel
theorem dL_law_431 : decode cL_law 431 = .ok (.aload_n 0, 1) := by decide +kernel
theorem dL_law_432 : decode cL_law 432 = .ok (.iload 4, 2) := by decide +kernel
theorem dL_law_434 : decode cL_law 434 = .ok (.iconst 2, 1) := by decide +kernel
theorem dL_law_435 : decode cL_law 435 = .ok (.iadd, 1) := by decide +kernel
theorem dL_law_436 : decode cL_law 436 = .ok (.iaload, 1) := by decide +kernel
theorem dL_law_437 : decode cL_law 437 = .ok (.aload_n 3, 1) := by decide +kernel
theorem dL_law_438 : decode cL_law 438 = .ok (.invokestatic 122, 3) := by decide +kernel
theorem dL_law_441 : decode cL_law 441 = .ok (.istore 5, 2) := by decide +kernel
theorem dL_law_443 : decode cL_law 443 = .ok (.aload_n 2, 1) := by decide +kernel
theorem dL_law_444 : decode cL_law 444 = .ok (.aload_n 0, 1) := by decide +kernel
theorem dL_law_445 : decode cL_law 445 = .ok (.iload 4, 2) := by decide +kernel
theorem dL_law_447 : decode cL_law 447 = .ok (.iconst 1, 1) := by decide +kernel
theorem dL_law_448 : decode cL_law 448 = .ok (.iadd, 1) := by decide +kernel
theorem dL_law_449 : decode cL_law 449 = .ok (.iaload, 1) := by decide +kernel
theorem dL_law_450 : decode cL_law 450 = .ok (.aload_n 0, 1) := by decide +kernel
theorem dL_law_451 : decode cL_law 451 = .ok (.iload 4, 2) := by decide +kernel
theorem dL_law_453 : decode cL_law 453 = .ok (.iconst 2, 1) := by decide +kernel
theorem dL_law_454 : decode cL_law 454 = .ok (.iadd, 1) := by decide +kernel
theorem dL_law_455 : decode cL_law 455 = .ok (.iaload, 1) := by decide +kernel
theorem dL_law_456 : decode cL_law 456 = .ok (.invokevirtual 125, 3) := by decide +kernel
theorem dL_law_459 : decode cL_law 459 = .ok (.istore 6, 2) := by decide +kernel
theorem dL_law_461 : decode cL_law 461 = .ok (.aload_n 2, 1) := by decide +kernel
theorem dL_law_462 : decode cL_law 462 = .ok (.invokevirtual 111, 3) := by decide +kernel
theorem dL_law_465 : decode cL_law 465 = .ok (.iload 5, 2) := by decide +kernel
theorem dL_law_467 : decode cL_law 467 = .ok (.if_icmp .eq 5, 3) := by decide +kernel
theorem dL_law_470 : decode cL_law 470 = .ok (.iconst 0, 1) := by decide +kernel
theorem dL_law_471 : decode cL_law 471 = .ok (.ireturn, 1) := by decide +kernel
theorem dL_law_472 : decode cL_law 472 = .ok (.iload 5, 2) := by decide +kernel
theorem dL_law_474 : decode cL_law 474 = .ok (.ifCond .ne 15, 3) := by decide +kernel
theorem dL_law_477 : decode cL_law 477 = .ok (.aload_n 3, 1) := by decide +kernel
theorem dL_law_478 : decode cL_law 478 = .ok (.iconst 0, 1) := by decide +kernel
theorem dL_law_479 : decode cL_law 479 = .ok (.laload, 1) := by decide +kernel
theorem dL_law_480 : decode cL_law 480 = .ok (.iload 6, 2) := by decide +kernel
theorem dL_law_482 : decode cL_law 482 = .ok (.i2l, 1) := by decide +kernel
theorem dL_law_483 : decode cL_law 483 = .ok (.lcmp, 1) := by decide +kernel
theorem dL_law_484 : decode cL_law 484 = .ok (.ifCond .eq 5, 3) := by decide +kernel
theorem dL_law_487 : decode cL_law 487 = .ok (.iconst 0, 1) := by decide +kernel
theorem dL_law_488 : decode cL_law 488 = .ok (.ireturn, 1) := by decide +kernel
theorem dL_law_489 : decode cL_law 489 = .ok (.goto 1611, 3) := by decide +kernel
theorem dL_law_492 : decode cL_law 492 = .ok (.aload_n 1, 1) := by decide +kernel
theorem dL_law_493 : decode cL_law 493 = .ok (.aload_n 0, 1) := by decide +kernel
theorem dL_law_494 : decode cL_law 494 = .ok (.iload 4, 2) := by decide +kernel
theorem dL_law_496 : decode cL_law 496 = .ok (.iconst 1, 1) := by decide +kernel
theorem dL_law_497 : decode cL_law 497 = .ok (.iadd, 1) := by decide +kernel
theorem dL_law_498 : decode cL_law 498 = .ok (.iaload, 1) := by decide +kernel
theorem dL_law_499 : decode cL_law 499 = .ok (.aload_n 0, 1) := by decide +kernel
theorem dL_law_500 : decode cL_law 500 = .ok (.iload 4, 2) := by decide +kernel
theorem dL_law_502 : decode cL_law 502 = .ok (.iconst 2, 1) := by decide +kernel
theorem dL_law_503 : decode cL_law 503 = .ok (.iadd, 1) := by decide +kernel
theorem dL_law_504 : decode cL_law 504 = .ok (.iaload, 1) := by decide +kernel
theorem dL_law_505 : decode cL_law 505 = .ok (.aload_n 0, 1) := by decide +kernel
theorem dL_law_506 : decode cL_law 506 = .ok (.iload 4, 2) := by decide +kernel
theorem dL_law_508 : decode cL_law 508 = .ok (.iconst 3, 1) := by decide +kernel
theorem dL_law_509 : decode cL_law 509 = .ok (.iadd, 1) := by decide +kernel
theorem dL_law_510 : decode cL_law 510 = .ok (.iaload, 1) := by decide +kernel
theorem dL_law_511 : decode cL_law 511 = .ok (.aload_n 3, 1) := by decide +kernel
theorem dL_law_512 : decode cL_law 512 = .ok (.invokestatic 126, 3) := by decide +kernel
theorem dL_law_515 : decode cL_law 515 = .ok (.istore 5, 2) := by decide +kernel
theorem dL_law_517 : decode cL_law 517 = .ok (.aload_n 2, 1) := by decide +kernel
theorem dL_law_518 : decode cL_law 518 = .ok (.aload_n 0, 1) := by decide +kernel
theorem dL_law_519 : decode cL_law 519 = .ok (.iload 4, 2) := by decide +kernel
theorem dL_law_521 : decode cL_law 521 = .ok (.iconst 1, 1) := by decide +kernel
theorem dL_law_522 : decode cL_law 522 = .ok (.iadd, 1) := by decide +kernel
theorem dL_law_523 : decode cL_law 523 = .ok (.iaload, 1) := by decide +kernel
theorem dL_law_524 : decode cL_law 524 = .ok (.aload_n 0, 1) := by decide +kernel
theorem dL_law_525 : decode cL_law 525 = .ok (.iload 4, 2) := by decide +kernel
theorem dL_law_527 : decode cL_law 527 = .ok (.iconst 2, 1) := by decide +kernel
theorem dL_law_528 : decode cL_law 528 = .ok (.iadd, 1) := by decide +kernel
theorem dL_law_529 : decode cL_law 529 = .ok (.iaload, 1) := by decide +kernel
theorem dL_law_530 : decode cL_law 530 = .ok (.aload_n 0, 1) := by decide +kernel
theorem dL_law_531 : decode cL_law 531 = .ok (.iload 4, 2) := by decide +kernel
theorem dL_law_533 : decode cL_law 533 = .ok (.iconst 3, 1) := by decide +kernel
theorem dL_law_534 : decode cL_law 534 = .ok (.iadd, 1) := by decide +kernel
theorem dL_law_535 : decode cL_law 535 = .ok (.iaload, 1) := by decide +kernel
theorem dL_law_536 : decode cL_law 536 = .ok (.invokevirtual 128, 3) := by decide +kernel
theorem dL_law_539 : decode cL_law 539 = .ok (.istore 6, 2) := by decide +kernel
theorem dL_law_541 : decode cL_law 541 = .ok (.aload_n 2, 1) := by decide +kernel
theorem dL_law_542 : decode cL_law 542 = .ok (.invokevirtual 111, 3) := by decide +kernel
theorem dL_law_545 : decode cL_law 545 = .ok (.iload 5, 2) := by decide +kernel
theorem dL_law_547 : decode cL_law 547 = .ok (.if_icmp .eq 5, 3) := by decide +kernel
theorem dL_law_550 : decode cL_law 550 = .ok (.iconst 0, 1) := by decide +kernel
theorem dL_law_551 : decode cL_law 551 = .ok (.ireturn, 1) := by decide +kernel
theorem dL_law_552 : decode cL_law 552 = .ok (.iload 5, 2) := by decide +kernel
theorem dL_law_554 : decode cL_law 554 = .ok (.ifCond .ne 15, 3) := by decide +kernel
theorem dL_law_557 : decode cL_law 557 = .ok (.aload_n 3, 1) := by decide +kernel
theorem dL_law_558 : decode cL_law 558 = .ok (.iconst 0, 1) := by decide +kernel
theorem dL_law_559 : decode cL_law 559 = .ok (.laload, 1) := by decide +kernel
theorem dL_law_560 : decode cL_law 560 = .ok (.iload 6, 2) := by decide +kernel
theorem dL_law_562 : decode cL_law 562 = .ok (.i2l, 1) := by decide +kernel
theorem dL_law_563 : decode cL_law 563 = .ok (.lcmp, 1) := by decide +kernel
theorem dL_law_564 : decode cL_law 564 = .ok (.ifCond .eq 5, 3) := by decide +kernel
theorem dL_law_567 : decode cL_law 567 = .ok (.iconst 0, 1) := by decide +kernel
theorem dL_law_568 : decode cL_law 568 = .ok (.ireturn, 1) := by decide +kernel
theorem dL_law_569 : decode cL_law 569 = .ok (.goto 1531, 3) := by decide +kernel
theorem dL_law_572 : decode cL_law 572 = .ok (.aload_n 1, 1) := by decide +kernel
theorem dL_law_573 : decode cL_law 573 = .ok (.aload_n 0, 1) := by decide +kernel
theorem dL_law_574 : decode cL_law 574 = .ok (.iload 4, 2) := by decide +kernel
theorem dL_law_576 : decode cL_law 576 = .ok (.iconst 1, 1) := by decide +kernel
theorem dL_law_577 : decode cL_law 577 = .ok (.iadd, 1) := by decide +kernel
theorem dL_law_578 : decode cL_law 578 = .ok (.iaload, 1) := by decide +kernel
theorem dL_law_579 : decode cL_law 579 = .ok (.invokevirtual 129, 3) := by decide +kernel
theorem dL_law_582 : decode cL_law 582 = .ok (.aload_n 2, 1) := by decide +kernel
theorem dL_law_583 : decode cL_law 583 = .ok (.aload_n 0, 1) := by decide +kernel
theorem dL_law_584 : decode cL_law 584 = .ok (.iload 4, 2) := by decide +kernel
theorem dL_law_586 : decode cL_law 586 = .ok (.iconst 1, 1) := by decide +kernel
theorem dL_law_587 : decode cL_law 587 = .ok (.iadd, 1) := by decide +kernel
theorem dL_law_588 : decode cL_law 588 = .ok (.iaload, 1) := by decide +kernel
theorem dL_law_589 : decode cL_law 589 = .ok (.invokevirtual 132, 3) := by decide +kernel
theorem dL_law_592 : decode cL_law 592 = .ok (.if_icmp .eq 1508, 3) := by decide +kernel
theorem dL_law_595 : decode cL_law 595 = .ok (.iconst 0, 1) := by decide +kernel
theorem dL_law_596 : decode cL_law 596 = .ok (.ireturn, 1) := by decide +kernel
theorem dL_law_597 : decode cL_law 597 = .ok (.aload_n 1, 1) := by decide +kernel
theorem dL_law_598 : decode cL_law 598 = .ok (.aload_n 0, 1) := by decide +kernel
theorem dL_law_599 : decode cL_law 599 = .ok (.iload 4, 2) := by decide +kernel
theorem dL_law_601 : decode cL_law 601 = .ok (.iconst 1, 1) := by decide +kernel
theorem dL_law_602 : decode cL_law 602 = .ok (.iadd, 1) := by decide +kernel
theorem dL_law_603 : decode cL_law 603 = .ok (.iaload, 1) := by decide +kernel
theorem dL_law_604 : decode cL_law 604 = .ok (.aload_n 0, 1) := by decide +kernel
theorem dL_law_605 : decode cL_law 605 = .ok (.iload 4, 2) := by decide +kernel
theorem dL_law_607 : decode cL_law 607 = .ok (.iconst 2, 1) := by decide +kernel
theorem dL_law_608 : decode cL_law 608 = .ok (.iadd, 1) := by decide +kernel
theorem dL_law_609 : decode cL_law 609 = .ok (.iaload, 1) := by decide +kernel
theorem dL_law_610 : decode cL_law 610 = .ok (.ifCond .eq 7, 3) := by decide +kernel
theorem dL_law_613 : decode cL_law 613 = .ok (.iconst 1, 1) := by decide +kernel
theorem dL_law_614 : decode cL_law 614 = .ok (.goto 4, 3) := by decide +kernel
theorem dL_law_617 : decode cL_law 617 = .ok (.iconst 0, 1) := by decide +kernel
theorem dL_law_618 : decode cL_law 618 = .ok (.aload_n 3, 1) := by decide +kernel
theorem dL_law_619 : decode cL_law 619 = .ok (.invokestatic 133, 3) := by decide +kernel
theorem dL_law_622 : decode cL_law 622 = .ok (.istore 5, 2) := by decide +kernel
theorem dL_law_624 : decode cL_law 624 = .ok (.aload_n 2, 1) := by decide +kernel
theorem dL_law_625 : decode cL_law 625 = .ok (.aload_n 0, 1) := by decide +kernel
theorem dL_law_626 : decode cL_law 626 = .ok (.iload 4, 2) := by decide +kernel
theorem dL_law_628 : decode cL_law 628 = .ok (.iconst 1, 1) := by decide +kernel
theorem dL_law_629 : decode cL_law 629 = .ok (.iadd, 1) := by decide +kernel
theorem dL_law_630 : decode cL_law 630 = .ok (.iaload, 1) := by decide +kernel
theorem dL_law_631 : decode cL_law 631 = .ok (.aload_n 0, 1) := by decide +kernel
theorem dL_law_632 : decode cL_law 632 = .ok (.iload 4, 2) := by decide +kernel
theorem dL_law_634 : decode cL_law 634 = .ok (.iconst 2, 1) := by decide +kernel
theorem dL_law_635 : decode cL_law 635 = .ok (.iadd, 1) := by decide +kernel
theorem dL_law_636 : decode cL_law 636 = .ok (.iaload, 1) := by decide +kernel
theorem dL_law_637 : decode cL_law 637 = .ok (.ifCond .eq 7, 3) := by decide +kernel
theorem dL_law_640 : decode cL_law 640 = .ok (.iconst 1, 1) := by decide +kernel
theorem dL_law_641 : decode cL_law 641 = .ok (.goto 4, 3) := by decide +kernel
theorem dL_law_644 : decode cL_law 644 = .ok (.iconst 0, 1) := by decide +kernel
theorem dL_law_645 : decode cL_law 645 = .ok (.invokevirtual 136, 3) := by decide +kernel
theorem dL_law_648 : decode cL_law 648 = .ok (.istore 6, 2) := by decide +kernel
theorem dL_law_650 : decode cL_law 650 = .ok (.aload_n 2, 1) := by decide +kernel
theorem dL_law_651 : decode cL_law 651 = .ok (.invokevirtual 111, 3) := by decide +kernel
theorem dL_law_654 : decode cL_law 654 = .ok (.iload 5, 2) := by decide +kernel
theorem dL_law_656 : decode cL_law 656 = .ok (.if_icmp .eq 5, 3) := by decide +kernel
theorem dL_law_659 : decode cL_law 659 = .ok (.iconst 0, 1) := by decide +kernel
theorem dL_law_660 : decode cL_law 660 = .ok (.ireturn, 1) := by decide +kernel
theorem dL_law_661 : decode cL_law 661 = .ok (.iload 5, 2) := by decide +kernel
theorem dL_law_663 : decode cL_law 663 = .ok (.ifCond .ne 22, 3) := by decide +kernel
theorem dL_law_666 : decode cL_law 666 = .ok (.aload_n 3, 1) := by decide +kernel
theorem dL_law_667 : decode cL_law 667 = .ok (.iconst 0, 1) := by decide +kernel
theorem dL_law_668 : decode cL_law 668 = .ok (.laload, 1) := by decide +kernel
theorem dL_law_669 : decode cL_law 669 = .ok (.iload 6, 2) := by decide +kernel
theorem dL_law_671 : decode cL_law 671 = .ok (.ifCond .eq 7, 3) := by decide +kernel
theorem dL_law_674 : decode cL_law 674 = .ok (.lconst 1, 1) := by decide +kernel
theorem dL_law_675 : decode cL_law 675 = .ok (.goto 4, 3) := by decide +kernel
theorem dL_law_678 : decode cL_law 678 = .ok (.lconst 0, 1) := by decide +kernel
theorem dL_law_679 : decode cL_law 679 = .ok (.lcmp, 1) := by decide +kernel
theorem dL_law_680 : decode cL_law 680 = .ok (.ifCond .eq 5, 3) := by decide +kernel
theorem dL_law_683 : decode cL_law 683 = .ok (.iconst 0, 1) := by decide +kernel
theorem dL_law_684 : decode cL_law 684 = .ok (.ireturn, 1) := by decide +kernel
theorem dL_law_685 : decode cL_law 685 = .ok (.goto 1415, 3) := by decide +kernel
theorem dL_law_688 : decode cL_law 688 = .ok (.aload_n 1, 1) := by decide +kernel
theorem dL_law_689 : decode cL_law 689 = .ok (.aload_n 0, 1) := by decide +kernel
theorem dL_law_690 : decode cL_law 690 = .ok (.iload 4, 2) := by decide +kernel
theorem dL_law_692 : decode cL_law 692 = .ok (.iconst 1, 1) := by decide +kernel
theorem dL_law_693 : decode cL_law 693 = .ok (.iadd, 1) := by decide +kernel
theorem dL_law_694 : decode cL_law 694 = .ok (.iaload, 1) := by decide +kernel
theorem dL_law_695 : decode cL_law 695 = .ok (.aload_n 0, 1) := by decide +kernel
theorem dL_law_696 : decode cL_law 696 = .ok (.iload 4, 2) := by decide +kernel
theorem dL_law_698 : decode cL_law 698 = .ok (.iconst 2, 1) := by decide +kernel
theorem dL_law_699 : decode cL_law 699 = .ok (.iadd, 1) := by decide +kernel
theorem dL_law_700 : decode cL_law 700 = .ok (.iaload, 1) := by decide +kernel
theorem dL_law_701 : decode cL_law 701 = .ok (.ifCond .eq 7, 3) := by decide +kernel
theorem dL_law_704 : decode cL_law 704 = .ok (.iconst 1, 1) := by decide +kernel
theorem dL_law_705 : decode cL_law 705 = .ok (.goto 4, 3) := by decide +kernel
theorem dL_law_708 : decode cL_law 708 = .ok (.iconst 0, 1) := by decide +kernel
theorem dL_law_709 : decode cL_law 709 = .ok (.aload_n 3, 1) := by decide +kernel
theorem dL_law_710 : decode cL_law 710 = .ok (.invokestatic 137, 3) := by decide +kernel
theorem dL_law_713 : decode cL_law 713 = .ok (.istore 5, 2) := by decide +kernel
theorem dL_law_715 : decode cL_law 715 = .ok (.aload_n 2, 1) := by decide +kernel
theorem dL_law_716 : decode cL_law 716 = .ok (.aload_n 0, 1) := by decide +kernel
theorem dL_law_717 : decode cL_law 717 = .ok (.iload 4, 2) := by decide +kernel
theorem dL_law_719 : decode cL_law 719 = .ok (.iconst 1, 1) := by decide +kernel
theorem dL_law_720 : decode cL_law 720 = .ok (.iadd, 1) := by decide +kernel
theorem dL_law_721 : decode cL_law 721 = .ok (.iaload, 1) := by decide +kernel
theorem dL_law_722 : decode cL_law 722 = .ok (.aload_n 0, 1) := by decide +kernel
theorem dL_law_723 : decode cL_law 723 = .ok (.iload 4, 2) := by decide +kernel
theorem dL_law_725 : decode cL_law 725 = .ok (.iconst 2, 1) := by decide +kernel
theorem dL_law_726 : decode cL_law 726 = .ok (.iadd, 1) := by decide +kernel
theorem dL_law_727 : decode cL_law 727 = .ok (.iaload, 1) := by decide +kernel
theorem dL_law_728 : decode cL_law 728 = .ok (.ifCond .eq 7, 3) := by decide +kernel
theorem dL_law_731 : decode cL_law 731 = .ok (.iconst 1, 1) := by decide +kernel
theorem dL_law_732 : decode cL_law 732 = .ok (.goto 4, 3) := by decide +kernel
theorem dL_law_735 : decode cL_law 735 = .ok (.iconst 0, 1) := by decide +kernel
theorem dL_law_736 : decode cL_law 736 = .ok (.invokevirtual 139, 3) := by decide +kernel
theorem dL_law_739 : decode cL_law 739 = .ok (.istore 6, 2) := by decide +kernel
theorem dL_law_741 : decode cL_law 741 = .ok (.aload_n 2, 1) := by decide +kernel
theorem dL_law_742 : decode cL_law 742 = .ok (.invokevirtual 111, 3) := by decide +kernel
theorem dL_law_745 : decode cL_law 745 = .ok (.iload 5, 2) := by decide +kernel
theorem dL_law_747 : decode cL_law 747 = .ok (.if_icmp .eq 5, 3) := by decide +kernel
theorem dL_law_750 : decode cL_law 750 = .ok (.iconst 0, 1) := by decide +kernel
theorem dL_law_751 : decode cL_law 751 = .ok (.ireturn, 1) := by decide +kernel
theorem dL_law_752 : decode cL_law 752 = .ok (.iload 5, 2) := by decide +kernel
theorem dL_law_754 : decode cL_law 754 = .ok (.ifCond .ne 22, 3) := by decide +kernel
theorem dL_law_757 : decode cL_law 757 = .ok (.aload_n 3, 1) := by decide +kernel
theorem dL_law_758 : decode cL_law 758 = .ok (.iconst 0, 1) := by decide +kernel
theorem dL_law_759 : decode cL_law 759 = .ok (.laload, 1) := by decide +kernel
theorem dL_law_760 : decode cL_law 760 = .ok (.iload 6, 2) := by decide +kernel
theorem dL_law_762 : decode cL_law 762 = .ok (.ifCond .eq 7, 3) := by decide +kernel
theorem dL_law_765 : decode cL_law 765 = .ok (.lconst 1, 1) := by decide +kernel
theorem dL_law_766 : decode cL_law 766 = .ok (.goto 4, 3) := by decide +kernel
theorem dL_law_769 : decode cL_law 769 = .ok (.lconst 0, 1) := by decide +kernel
theorem dL_law_770 : decode cL_law 770 = .ok (.lcmp, 1) := by decide +kernel
theorem dL_law_771 : decode cL_law 771 = .ok (.ifCond .eq 5, 3) := by decide +kernel
theorem dL_law_774 : decode cL_law 774 = .ok (.iconst 0, 1) := by decide +kernel
theorem dL_law_775 : decode cL_law 775 = .ok (.ireturn, 1) := by decide +kernel
theorem dL_law_776 : decode cL_law 776 = .ok (.goto 1324, 3) := by decide +kernel
theorem dL_law_779 : decode cL_law 779 = .ok (.aload_n 1, 1) := by decide +kernel
theorem dL_law_780 : decode cL_law 780 = .ok (.aload_n 0, 1) := by decide +kernel
theorem dL_law_781 : decode cL_law 781 = .ok (.iload 4, 2) := by decide +kernel
theorem dL_law_783 : decode cL_law 783 = .ok (.iconst 1, 1) := by decide +kernel
theorem dL_law_784 : decode cL_law 784 = .ok (.iadd, 1) := by decide +kernel
theorem dL_law_785 : decode cL_law 785 = .ok (.iaload, 1) := by decide +kernel
theorem dL_law_786 : decode cL_law 786 = .ok (.aload_n 0, 1) := by decide +kernel
theorem dL_law_787 : decode cL_law 787 = .ok (.iload 4, 2) := by decide +kernel
theorem dL_law_789 : decode cL_law 789 = .ok (.iconst 2, 1) := by decide +kernel
theorem dL_law_790 : decode cL_law 790 = .ok (.iadd, 1) := by decide +kernel
theorem dL_law_791 : decode cL_law 791 = .ok (.iaload, 1) := by decide +kernel
theorem dL_law_792 : decode cL_law 792 = .ok (.aload_n 0, 1) := by decide +kernel
theorem dL_law_793 : decode cL_law 793 = .ok (.iload 4, 2) := by decide +kernel
theorem dL_law_795 : decode cL_law 795 = .ok (.iconst 3, 1) := by decide +kernel
theorem dL_law_796 : decode cL_law 796 = .ok (.iadd, 1) := by decide +kernel
theorem dL_law_797 : decode cL_law 797 = .ok (.iaload, 1) := by decide +kernel
theorem dL_law_798 : decode cL_law 798 = .ok (.aload_n 0, 1) := by decide +kernel
theorem dL_law_799 : decode cL_law 799 = .ok (.iload 4, 2) := by decide +kernel
theorem dL_law_801 : decode cL_law 801 = .ok (.iconst 4, 1) := by decide +kernel
theorem dL_law_802 : decode cL_law 802 = .ok (.iadd, 1) := by decide +kernel
theorem dL_law_803 : decode cL_law 803 = .ok (.iaload, 1) := by decide +kernel
theorem dL_law_804 : decode cL_law 804 = .ok (.aload_n 0, 1) := by decide +kernel
theorem dL_law_805 : decode cL_law 805 = .ok (.iload 4, 2) := by decide +kernel
theorem dL_law_807 : decode cL_law 807 = .ok (.iconst 5, 1) := by decide +kernel
theorem dL_law_808 : decode cL_law 808 = .ok (.iadd, 1) := by decide +kernel
theorem dL_law_809 : decode cL_law 809 = .ok (.iaload, 1) := by decide +kernel
theorem dL_law_810 : decode cL_law 810 = .ok (.aload_n 0, 1) := by decide +kernel
theorem dL_law_811 : decode cL_law 811 = .ok (.iload 4, 2) := by decide +kernel
theorem dL_law_813 : decode cL_law 813 = .ok (.bipush 6, 2) := by decide +kernel
theorem dL_law_815 : decode cL_law 815 = .ok (.iadd, 1) := by decide +kernel
theorem dL_law_816 : decode cL_law 816 = .ok (.iaload, 1) := by decide +kernel
theorem dL_law_817 : decode cL_law 817 = .ok (.aload_n 3, 1) := by decide +kernel
theorem dL_law_818 : decode cL_law 818 = .ok (.invokestatic 140, 3) := by decide +kernel
theorem dL_law_821 : decode cL_law 821 = .ok (.istore 5, 2) := by decide +kernel
theorem dL_law_823 : decode cL_law 823 = .ok (.aload_n 2, 1) := by decide +kernel
theorem dL_law_824 : decode cL_law 824 = .ok (.aload_n 0, 1) := by decide +kernel
theorem dL_law_825 : decode cL_law 825 = .ok (.iload 4, 2) := by decide +kernel
theorem dL_law_827 : decode cL_law 827 = .ok (.iconst 1, 1) := by decide +kernel
theorem dL_law_828 : decode cL_law 828 = .ok (.iadd, 1) := by decide +kernel
theorem dL_law_829 : decode cL_law 829 = .ok (.iaload, 1) := by decide +kernel
theorem dL_law_830 : decode cL_law 830 = .ok (.aload_n 0, 1) := by decide +kernel
theorem dL_law_831 : decode cL_law 831 = .ok (.iload 4, 2) := by decide +kernel
theorem dL_law_833 : decode cL_law 833 = .ok (.iconst 2, 1) := by decide +kernel
theorem dL_law_834 : decode cL_law 834 = .ok (.iadd, 1) := by decide +kernel
theorem dL_law_835 : decode cL_law 835 = .ok (.iaload, 1) := by decide +kernel
theorem dL_law_836 : decode cL_law 836 = .ok (.aload_n 0, 1) := by decide +kernel
theorem dL_law_837 : decode cL_law 837 = .ok (.iload 4, 2) := by decide +kernel
theorem dL_law_839 : decode cL_law 839 = .ok (.iconst 3, 1) := by decide +kernel
theorem dL_law_840 : decode cL_law 840 = .ok (.iadd, 1) := by decide +kernel
theorem dL_law_841 : decode cL_law 841 = .ok (.iaload, 1) := by decide +kernel
theorem dL_law_842 : decode cL_law 842 = .ok (.aload_n 0, 1) := by decide +kernel
theorem dL_law_843 : decode cL_law 843 = .ok (.iload 4, 2) := by decide +kernel
theorem dL_law_845 : decode cL_law 845 = .ok (.iconst 4, 1) := by decide +kernel
theorem dL_law_846 : decode cL_law 846 = .ok (.iadd, 1) := by decide +kernel
theorem dL_law_847 : decode cL_law 847 = .ok (.iaload, 1) := by decide +kernel
theorem dL_law_848 : decode cL_law 848 = .ok (.aload_n 0, 1) := by decide +kernel
theorem dL_law_849 : decode cL_law 849 = .ok (.iload 4, 2) := by decide +kernel
theorem dL_law_851 : decode cL_law 851 = .ok (.iconst 5, 1) := by decide +kernel
theorem dL_law_852 : decode cL_law 852 = .ok (.iadd, 1) := by decide +kernel
theorem dL_law_853 : decode cL_law 853 = .ok (.iaload, 1) := by decide +kernel
theorem dL_law_854 : decode cL_law 854 = .ok (.aload_n 0, 1) := by decide +kernel
theorem dL_law_855 : decode cL_law 855 = .ok (.iload 4, 2) := by decide +kernel
theorem dL_law_857 : decode cL_law 857 = .ok (.bipush 6, 2) := by decide +kernel
theorem dL_law_859 : decode cL_law 859 = .ok (.iadd, 1) := by decide +kernel
theorem dL_law_860 : decode cL_law 860 = .ok (.iaload, 1) := by decide +kernel
theorem dL_law_861 : decode cL_law 861 = .ok (.invokevirtual 143, 3) := by decide +kernel
theorem dL_law_864 : decode cL_law 864 = .ok (.istore 6, 2) := by decide +kernel
theorem dL_law_866 : decode cL_law 866 = .ok (.aload_n 2, 1) := by decide +kernel
theorem dL_law_867 : decode cL_law 867 = .ok (.invokevirtual 111, 3) := by decide +kernel
theorem dL_law_870 : decode cL_law 870 = .ok (.iload 5, 2) := by decide +kernel
theorem dL_law_872 : decode cL_law 872 = .ok (.if_icmp .eq 5, 3) := by decide +kernel
theorem dL_law_875 : decode cL_law 875 = .ok (.iconst 0, 1) := by decide +kernel
theorem dL_law_876 : decode cL_law 876 = .ok (.ireturn, 1) := by decide +kernel
theorem dL_law_877 : decode cL_law 877 = .ok (.iload 5, 2) := by decide +kernel
theorem dL_law_879 : decode cL_law 879 = .ok (.ifCond .ne 15, 3) := by decide +kernel
theorem dL_law_882 : decode cL_law 882 = .ok (.aload_n 3, 1) := by decide +kernel
theorem dL_law_883 : decode cL_law 883 = .ok (.iconst 0, 1) := by decide +kernel
theorem dL_law_884 : decode cL_law 884 = .ok (.laload, 1) := by decide +kernel
theorem dL_law_885 : decode cL_law 885 = .ok (.iload 6, 2) := by decide +kernel
theorem dL_law_887 : decode cL_law 887 = .ok (.i2l, 1) := by decide +kernel
theorem dL_law_888 : decode cL_law 888 = .ok (.lcmp, 1) := by decide +kernel
theorem dL_law_889 : decode cL_law 889 = .ok (.ifCond .eq 5, 3) := by decide +kernel
theorem dL_law_892 : decode cL_law 892 = .ok (.iconst 0, 1) := by decide +kernel
theorem dL_law_893 : decode cL_law 893 = .ok (.ireturn, 1) := by decide +kernel
theorem dL_law_894 : decode cL_law 894 = .ok (.goto 1206, 3) := by decide +kernel
theorem dL_law_897 : decode cL_law 897 = .ok (.aload_n 1, 1) := by decide +kernel
theorem dL_law_898 : decode cL_law 898 = .ok (.aload_n 3, 1) := by decide +kernel
theorem dL_law_899 : decode cL_law 899 = .ok (.invokestatic 144, 3) := by decide +kernel
theorem dL_law_902 : decode cL_law 902 = .ok (.istore 5, 2) := by decide +kernel
theorem dL_law_904 : decode cL_law 904 = .ok (.aload_n 2, 1) := by decide +kernel
theorem dL_law_905 : decode cL_law 905 = .ok (.invokevirtual 147, 3) := by decide +kernel
theorem dL_law_908 : decode cL_law 908 = .ok (.istore 6, 2) := by decide +kernel
theorem dL_law_910 : decode cL_law 910 = .ok (.aload_n 2, 1) := by decide +kernel
theorem dL_law_911 : decode cL_law 911 = .ok (.invokevirtual 111, 3) := by decide +kernel
theorem dL_law_914 : decode cL_law 914 = .ok (.iload 5, 2) := by decide +kernel
theorem dL_law_916 : decode cL_law 916 = .ok (.if_icmp .eq 5, 3) := by decide +kernel
theorem dL_law_919 : decode cL_law 919 = .ok (.iconst 0, 1) := by decide +kernel
theorem dL_law_920 : decode cL_law 920 = .ok (.ireturn, 1) := by decide +kernel
theorem dL_law_921 : decode cL_law 921 = .ok (.iload 5, 2) := by decide +kernel
theorem dL_law_923 : decode cL_law 923 = .ok (.ifCond .ne 15, 3) := by decide +kernel
theorem dL_law_926 : decode cL_law 926 = .ok (.aload_n 3, 1) := by decide +kernel
theorem dL_law_927 : decode cL_law 927 = .ok (.iconst 0, 1) := by decide +kernel
theorem dL_law_928 : decode cL_law 928 = .ok (.laload, 1) := by decide +kernel
theorem dL_law_929 : decode cL_law 929 = .ok (.iload 6, 2) := by decide +kernel
theorem dL_law_931 : decode cL_law 931 = .ok (.i2l, 1) := by decide +kernel
theorem dL_law_932 : decode cL_law 932 = .ok (.lcmp, 1) := by decide +kernel
theorem dL_law_933 : decode cL_law 933 = .ok (.ifCond .eq 5, 3) := by decide +kernel
theorem dL_law_936 : decode cL_law 936 = .ok (.iconst 0, 1) := by decide +kernel
theorem dL_law_937 : decode cL_law 937 = .ok (.ireturn, 1) := by decide +kernel
theorem dL_law_938 : decode cL_law 938 = .ok (.goto 1162, 3) := by decide +kernel
theorem dL_law_941 : decode cL_law 941 = .ok (.aload_n 1, 1) := by decide +kernel
theorem dL_law_942 : decode cL_law 942 = .ok (.aload_n 3, 1) := by decide +kernel
theorem dL_law_943 : decode cL_law 943 = .ok (.invokestatic 148, 3) := by decide +kernel
theorem dL_law_946 : decode cL_law 946 = .ok (.istore 5, 2) := by decide +kernel
theorem dL_law_948 : decode cL_law 948 = .ok (.aload_n 2, 1) := by decide +kernel
theorem dL_law_949 : decode cL_law 949 = .ok (.invokevirtual 150, 3) := by decide +kernel
theorem dL_law_952 : decode cL_law 952 = .ok (.istore 6, 2) := by decide +kernel
theorem dL_law_954 : decode cL_law 954 = .ok (.aload_n 2, 1) := by decide +kernel
theorem dL_law_955 : decode cL_law 955 = .ok (.invokevirtual 111, 3) := by decide +kernel
theorem dL_law_958 : decode cL_law 958 = .ok (.iload 5, 2) := by decide +kernel
theorem dL_law_960 : decode cL_law 960 = .ok (.if_icmp .eq 5, 3) := by decide +kernel
theorem dL_law_963 : decode cL_law 963 = .ok (.iconst 0, 1) := by decide +kernel
theorem dL_law_964 : decode cL_law 964 = .ok (.ireturn, 1) := by decide +kernel
theorem dL_law_965 : decode cL_law 965 = .ok (.iload 5, 2) := by decide +kernel
theorem dL_law_967 : decode cL_law 967 = .ok (.ifCond .ne 15, 3) := by decide +kernel
theorem dL_law_970 : decode cL_law 970 = .ok (.aload_n 3, 1) := by decide +kernel
theorem dL_law_971 : decode cL_law 971 = .ok (.iconst 0, 1) := by decide +kernel
theorem dL_law_972 : decode cL_law 972 = .ok (.laload, 1) := by decide +kernel
theorem dL_law_973 : decode cL_law 973 = .ok (.iload 6, 2) := by decide +kernel
theorem dL_law_975 : decode cL_law 975 = .ok (.i2l, 1) := by decide +kernel
theorem dL_law_976 : decode cL_law 976 = .ok (.lcmp, 1) := by decide +kernel
theorem dL_law_977 : decode cL_law 977 = .ok (.ifCond .eq 5, 3) := by decide +kernel
theorem dL_law_980 : decode cL_law 980 = .ok (.iconst 0, 1) := by decide +kernel
theorem dL_law_981 : decode cL_law 981 = .ok (.ireturn, 1) := by decide +kernel
theorem dL_law_982 : decode cL_law 982 = .ok (.goto 1118, 3) := by decide +kernel
theorem dL_law_985 : decode cL_law 985 = .ok (.aload_n 1, 1) := by decide +kernel
theorem dL_law_986 : decode cL_law 986 = .ok (.aload_n 0, 1) := by decide +kernel
theorem dL_law_987 : decode cL_law 987 = .ok (.iload 4, 2) := by decide +kernel
theorem dL_law_989 : decode cL_law 989 = .ok (.iconst 1, 1) := by decide +kernel
theorem dL_law_990 : decode cL_law 990 = .ok (.iadd, 1) := by decide +kernel
theorem dL_law_991 : decode cL_law 991 = .ok (.iaload, 1) := by decide +kernel
theorem dL_law_992 : decode cL_law 992 = .ok (.aload_n 0, 1) := by decide +kernel
theorem dL_law_993 : decode cL_law 993 = .ok (.iload 4, 2) := by decide +kernel
theorem dL_law_995 : decode cL_law 995 = .ok (.iconst 2, 1) := by decide +kernel
theorem dL_law_996 : decode cL_law 996 = .ok (.iadd, 1) := by decide +kernel
theorem dL_law_997 : decode cL_law 997 = .ok (.iaload, 1) := by decide +kernel
theorem dL_law_998 : decode cL_law 998 = .ok (.aload_n 3, 1) := by decide +kernel
theorem dL_law_999 : decode cL_law 999 = .ok (.invokestatic 151, 3) := by decide +kernel
theorem dL_law_1002 : decode cL_law 1002 = .ok (.istore 5, 2) := by decide +kernel
theorem dL_law_1004 : decode cL_law 1004 = .ok (.aload_n 2, 1) := by decide +kernel
theorem dL_law_1005 : decode cL_law 1005 = .ok (.aload_n 0, 1) := by decide +kernel
theorem dL_law_1006 : decode cL_law 1006 = .ok (.iload 4, 2) := by decide +kernel
theorem dL_law_1008 : decode cL_law 1008 = .ok (.iconst 1, 1) := by decide +kernel
theorem dL_law_1009 : decode cL_law 1009 = .ok (.iadd, 1) := by decide +kernel
theorem dL_law_1010 : decode cL_law 1010 = .ok (.iaload, 1) := by decide +kernel
theorem dL_law_1011 : decode cL_law 1011 = .ok (.aload_n 0, 1) := by decide +kernel
theorem dL_law_1012 : decode cL_law 1012 = .ok (.iload 4, 2) := by decide +kernel
theorem dL_law_1014 : decode cL_law 1014 = .ok (.iconst 2, 1) := by decide +kernel
theorem dL_law_1015 : decode cL_law 1015 = .ok (.iadd, 1) := by decide +kernel
theorem dL_law_1016 : decode cL_law 1016 = .ok (.iaload, 1) := by decide +kernel
theorem dL_law_1017 : decode cL_law 1017 = .ok (.invokevirtual 153, 3) := by decide +kernel
theorem dL_law_1020 : decode cL_law 1020 = .ok (.istore 6, 2) := by decide +kernel
theorem dL_law_1022 : decode cL_law 1022 = .ok (.aload_n 2, 1) := by decide +kernel
theorem dL_law_1023 : decode cL_law 1023 = .ok (.invokevirtual 111, 3) := by decide +kernel
theorem dL_law_1026 : decode cL_law 1026 = .ok (.iload 5, 2) := by decide +kernel
theorem dL_law_1028 : decode cL_law 1028 = .ok (.if_icmp .eq 5, 3) := by decide +kernel
theorem dL_law_1031 : decode cL_law 1031 = .ok (.iconst 0, 1) := by decide +kernel
theorem dL_law_1032 : decode cL_law 1032 = .ok (.ireturn, 1) := by decide +kernel
theorem dL_law_1033 : decode cL_law 1033 = .ok (.iload 5, 2) := by decide +kernel
theorem dL_law_1035 : decode cL_law 1035 = .ok (.ifCond .ne 15, 3) := by decide +kernel
theorem dL_law_1038 : decode cL_law 1038 = .ok (.aload_n 3, 1) := by decide +kernel
theorem dL_law_1039 : decode cL_law 1039 = .ok (.iconst 0, 1) := by decide +kernel
theorem dL_law_1040 : decode cL_law 1040 = .ok (.laload, 1) := by decide +kernel
theorem dL_law_1041 : decode cL_law 1041 = .ok (.iload 6, 2) := by decide +kernel
theorem dL_law_1043 : decode cL_law 1043 = .ok (.i2l, 1) := by decide +kernel
theorem dL_law_1044 : decode cL_law 1044 = .ok (.lcmp, 1) := by decide +kernel
theorem dL_law_1045 : decode cL_law 1045 = .ok (.ifCond .eq 5, 3) := by decide +kernel
theorem dL_law_1048 : decode cL_law 1048 = .ok (.iconst 0, 1) := by decide +kernel
theorem dL_law_1049 : decode cL_law 1049 = .ok (.ireturn, 1) := by decide +kernel
theorem dL_law_1050 : decode cL_law 1050 = .ok (.goto 1050, 3) := by decide +kernel
theorem dL_law_1053 : decode cL_law 1053 = .ok (.aload_n 1, 1) := by decide +kernel
theorem dL_law_1054 : decode cL_law 1054 = .ok (.aload_n 0, 1) := by decide +kernel
theorem dL_law_1055 : decode cL_law 1055 = .ok (.iload 4, 2) := by decide +kernel
theorem dL_law_1057 : decode cL_law 1057 = .ok (.iconst 1, 1) := by decide +kernel
theorem dL_law_1058 : decode cL_law 1058 = .ok (.iadd, 1) := by decide +kernel
theorem dL_law_1059 : decode cL_law 1059 = .ok (.iaload, 1) := by decide +kernel
theorem dL_law_1060 : decode cL_law 1060 = .ok (.aload_n 0, 1) := by decide +kernel
theorem dL_law_1061 : decode cL_law 1061 = .ok (.iload 4, 2) := by decide +kernel
theorem dL_law_1063 : decode cL_law 1063 = .ok (.iconst 2, 1) := by decide +kernel
theorem dL_law_1064 : decode cL_law 1064 = .ok (.iadd, 1) := by decide +kernel
theorem dL_law_1065 : decode cL_law 1065 = .ok (.iaload, 1) := by decide +kernel
theorem dL_law_1066 : decode cL_law 1066 = .ok (.aload_n 0, 1) := by decide +kernel
theorem dL_law_1067 : decode cL_law 1067 = .ok (.iload 4, 2) := by decide +kernel
theorem dL_law_1069 : decode cL_law 1069 = .ok (.iconst 3, 1) := by decide +kernel
theorem dL_law_1070 : decode cL_law 1070 = .ok (.iadd, 1) := by decide +kernel
theorem dL_law_1071 : decode cL_law 1071 = .ok (.iaload, 1) := by decide +kernel
theorem dL_law_1072 : decode cL_law 1072 = .ok (.aload_n 3, 1) := by decide +kernel
theorem dL_law_1073 : decode cL_law 1073 = .ok (.invokestatic 154, 3) := by decide +kernel
theorem dL_law_1076 : decode cL_law 1076 = .ok (.istore 5, 2) := by decide +kernel
theorem dL_law_1078 : decode cL_law 1078 = .ok (.aload_n 2, 1) := by decide +kernel
theorem dL_law_1079 : decode cL_law 1079 = .ok (.aload_n 0, 1) := by decide +kernel
theorem dL_law_1080 : decode cL_law 1080 = .ok (.iload 4, 2) := by decide +kernel
theorem dL_law_1082 : decode cL_law 1082 = .ok (.iconst 1, 1) := by decide +kernel
theorem dL_law_1083 : decode cL_law 1083 = .ok (.iadd, 1) := by decide +kernel
theorem dL_law_1084 : decode cL_law 1084 = .ok (.iaload, 1) := by decide +kernel
theorem dL_law_1085 : decode cL_law 1085 = .ok (.aload_n 0, 1) := by decide +kernel
theorem dL_law_1086 : decode cL_law 1086 = .ok (.iload 4, 2) := by decide +kernel
theorem dL_law_1088 : decode cL_law 1088 = .ok (.iconst 2, 1) := by decide +kernel
theorem dL_law_1089 : decode cL_law 1089 = .ok (.iadd, 1) := by decide +kernel
theorem dL_law_1090 : decode cL_law 1090 = .ok (.iaload, 1) := by decide +kernel
theorem dL_law_1091 : decode cL_law 1091 = .ok (.aload_n 0, 1) := by decide +kernel
theorem dL_law_1092 : decode cL_law 1092 = .ok (.iload 4, 2) := by decide +kernel
theorem dL_law_1094 : decode cL_law 1094 = .ok (.iconst 3, 1) := by decide +kernel
theorem dL_law_1095 : decode cL_law 1095 = .ok (.iadd, 1) := by decide +kernel
theorem dL_law_1096 : decode cL_law 1096 = .ok (.iaload, 1) := by decide +kernel
theorem dL_law_1097 : decode cL_law 1097 = .ok (.invokevirtual 156, 3) := by decide +kernel
theorem dL_law_1100 : decode cL_law 1100 = .ok (.istore 6, 2) := by decide +kernel
theorem dL_law_1102 : decode cL_law 1102 = .ok (.aload_n 2, 1) := by decide +kernel
theorem dL_law_1103 : decode cL_law 1103 = .ok (.invokevirtual 111, 3) := by decide +kernel
theorem dL_law_1106 : decode cL_law 1106 = .ok (.iload 5, 2) := by decide +kernel
theorem dL_law_1108 : decode cL_law 1108 = .ok (.if_icmp .eq 5, 3) := by decide +kernel
theorem dL_law_1111 : decode cL_law 1111 = .ok (.iconst 0, 1) := by decide +kernel
theorem dL_law_1112 : decode cL_law 1112 = .ok (.ireturn, 1) := by decide +kernel
theorem dL_law_1113 : decode cL_law 1113 = .ok (.iload 5, 2) := by decide +kernel
theorem dL_law_1115 : decode cL_law 1115 = .ok (.ifCond .ne 15, 3) := by decide +kernel
theorem dL_law_1118 : decode cL_law 1118 = .ok (.aload_n 3, 1) := by decide +kernel
theorem dL_law_1119 : decode cL_law 1119 = .ok (.iconst 0, 1) := by decide +kernel
theorem dL_law_1120 : decode cL_law 1120 = .ok (.laload, 1) := by decide +kernel
theorem dL_law_1121 : decode cL_law 1121 = .ok (.iload 6, 2) := by decide +kernel
theorem dL_law_1123 : decode cL_law 1123 = .ok (.i2l, 1) := by decide +kernel
theorem dL_law_1124 : decode cL_law 1124 = .ok (.lcmp, 1) := by decide +kernel
theorem dL_law_1125 : decode cL_law 1125 = .ok (.ifCond .eq 5, 3) := by decide +kernel
theorem dL_law_1128 : decode cL_law 1128 = .ok (.iconst 0, 1) := by decide +kernel
theorem dL_law_1129 : decode cL_law 1129 = .ok (.ireturn, 1) := by decide +kernel
theorem dL_law_1130 : decode cL_law 1130 = .ok (.goto 970, 3) := by decide +kernel
theorem dL_law_1133 : decode cL_law 1133 = .ok (.aload_n 1, 1) := by decide +kernel
theorem dL_law_1134 : decode cL_law 1134 = .ok (.aload_n 0, 1) := by decide +kernel
theorem dL_law_1135 : decode cL_law 1135 = .ok (.iload 4, 2) := by decide +kernel
theorem dL_law_1137 : decode cL_law 1137 = .ok (.iconst 1, 1) := by decide +kernel
theorem dL_law_1138 : decode cL_law 1138 = .ok (.iadd, 1) := by decide +kernel
theorem dL_law_1139 : decode cL_law 1139 = .ok (.iaload, 1) := by decide +kernel
theorem dL_law_1140 : decode cL_law 1140 = .ok (.aload_n 3, 1) := by decide +kernel
theorem dL_law_1141 : decode cL_law 1141 = .ok (.invokestatic 157, 3) := by decide +kernel
theorem dL_law_1144 : decode cL_law 1144 = .ok (.istore 5, 2) := by decide +kernel
theorem dL_law_1146 : decode cL_law 1146 = .ok (.aload_n 2, 1) := by decide +kernel
theorem dL_law_1147 : decode cL_law 1147 = .ok (.aload_n 0, 1) := by decide +kernel
theorem dL_law_1148 : decode cL_law 1148 = .ok (.iload 4, 2) := by decide +kernel
theorem dL_law_1150 : decode cL_law 1150 = .ok (.iconst 1, 1) := by decide +kernel
theorem dL_law_1151 : decode cL_law 1151 = .ok (.iadd, 1) := by decide +kernel
theorem dL_law_1152 : decode cL_law 1152 = .ok (.iaload, 1) := by decide +kernel
theorem dL_law_1153 : decode cL_law 1153 = .ok (.invokevirtual 160, 3) := by decide +kernel
theorem dL_law_1156 : decode cL_law 1156 = .ok (.istore 6, 2) := by decide +kernel
theorem dL_law_1158 : decode cL_law 1158 = .ok (.aload_n 2, 1) := by decide +kernel
theorem dL_law_1159 : decode cL_law 1159 = .ok (.invokevirtual 111, 3) := by decide +kernel
theorem dL_law_1162 : decode cL_law 1162 = .ok (.iload 5, 2) := by decide +kernel
theorem dL_law_1164 : decode cL_law 1164 = .ok (.if_icmp .eq 5, 3) := by decide +kernel
theorem dL_law_1167 : decode cL_law 1167 = .ok (.iconst 0, 1) := by decide +kernel
theorem dL_law_1168 : decode cL_law 1168 = .ok (.ireturn, 1) := by decide +kernel
theorem dL_law_1169 : decode cL_law 1169 = .ok (.iload 5, 2) := by decide +kernel
theorem dL_law_1171 : decode cL_law 1171 = .ok (.ifCond .ne 15, 3) := by decide +kernel
theorem dL_law_1174 : decode cL_law 1174 = .ok (.aload_n 3, 1) := by decide +kernel
theorem dL_law_1175 : decode cL_law 1175 = .ok (.iconst 0, 1) := by decide +kernel
theorem dL_law_1176 : decode cL_law 1176 = .ok (.laload, 1) := by decide +kernel
theorem dL_law_1177 : decode cL_law 1177 = .ok (.iload 6, 2) := by decide +kernel
theorem dL_law_1179 : decode cL_law 1179 = .ok (.i2l, 1) := by decide +kernel
theorem dL_law_1180 : decode cL_law 1180 = .ok (.lcmp, 1) := by decide +kernel
theorem dL_law_1181 : decode cL_law 1181 = .ok (.ifCond .eq 5, 3) := by decide +kernel
theorem dL_law_1184 : decode cL_law 1184 = .ok (.iconst 0, 1) := by decide +kernel
theorem dL_law_1185 : decode cL_law 1185 = .ok (.ireturn, 1) := by decide +kernel
theorem dL_law_1186 : decode cL_law 1186 = .ok (.goto 914, 3) := by decide +kernel
theorem dL_law_1189 : decode cL_law 1189 = .ok (.aload_n 1, 1) := by decide +kernel
theorem dL_law_1190 : decode cL_law 1190 = .ok (.aload_n 0, 1) := by decide +kernel
theorem dL_law_1191 : decode cL_law 1191 = .ok (.iload 4, 2) := by decide +kernel
theorem dL_law_1193 : decode cL_law 1193 = .ok (.iconst 1, 1) := by decide +kernel
theorem dL_law_1194 : decode cL_law 1194 = .ok (.iadd, 1) := by decide +kernel
theorem dL_law_1195 : decode cL_law 1195 = .ok (.iaload, 1) := by decide +kernel
theorem dL_law_1196 : decode cL_law 1196 = .ok (.aload_n 0, 1) := by decide +kernel
theorem dL_law_1197 : decode cL_law 1197 = .ok (.iload 4, 2) := by decide +kernel
theorem dL_law_1199 : decode cL_law 1199 = .ok (.iconst 2, 1) := by decide +kernel
theorem dL_law_1200 : decode cL_law 1200 = .ok (.iadd, 1) := by decide +kernel
theorem dL_law_1201 : decode cL_law 1201 = .ok (.iaload, 1) := by decide +kernel
theorem dL_law_1202 : decode cL_law 1202 = .ok (.aload_n 0, 1) := by decide +kernel
theorem dL_law_1203 : decode cL_law 1203 = .ok (.iload 4, 2) := by decide +kernel
theorem dL_law_1205 : decode cL_law 1205 = .ok (.iconst 3, 1) := by decide +kernel
theorem dL_law_1206 : decode cL_law 1206 = .ok (.iadd, 1) := by decide +kernel
theorem dL_law_1207 : decode cL_law 1207 = .ok (.iaload, 1) := by decide +kernel
theorem dL_law_1208 : decode cL_law 1208 = .ok (.aload_n 3, 1) := by decide +kernel
theorem dL_law_1209 : decode cL_law 1209 = .ok (.invokestatic 161, 3) := by decide +kernel
theorem dL_law_1212 : decode cL_law 1212 = .ok (.istore 5, 2) := by decide +kernel
theorem dL_law_1214 : decode cL_law 1214 = .ok (.aload_n 2, 1) := by decide +kernel
theorem dL_law_1215 : decode cL_law 1215 = .ok (.aload_n 0, 1) := by decide +kernel
theorem dL_law_1216 : decode cL_law 1216 = .ok (.iload 4, 2) := by decide +kernel
theorem dL_law_1218 : decode cL_law 1218 = .ok (.iconst 1, 1) := by decide +kernel
theorem dL_law_1219 : decode cL_law 1219 = .ok (.iadd, 1) := by decide +kernel
theorem dL_law_1220 : decode cL_law 1220 = .ok (.iaload, 1) := by decide +kernel
theorem dL_law_1221 : decode cL_law 1221 = .ok (.aload_n 0, 1) := by decide +kernel
theorem dL_law_1222 : decode cL_law 1222 = .ok (.iload 4, 2) := by decide +kernel
theorem dL_law_1224 : decode cL_law 1224 = .ok (.iconst 2, 1) := by decide +kernel
theorem dL_law_1225 : decode cL_law 1225 = .ok (.iadd, 1) := by decide +kernel
theorem dL_law_1226 : decode cL_law 1226 = .ok (.iaload, 1) := by decide +kernel
theorem dL_law_1227 : decode cL_law 1227 = .ok (.aload_n 0, 1) := by decide +kernel
theorem dL_law_1228 : decode cL_law 1228 = .ok (.iload 4, 2) := by decide +kernel
theorem dL_law_1230 : decode cL_law 1230 = .ok (.iconst 3, 1) := by decide +kernel
theorem dL_law_1231 : decode cL_law 1231 = .ok (.iadd, 1) := by decide +kernel
theorem dL_law_1232 : decode cL_law 1232 = .ok (.iaload, 1) := by decide +kernel
theorem dL_law_1233 : decode cL_law 1233 = .ok (.invokevirtual 163, 3) := by decide +kernel
theorem dL_law_1236 : decode cL_law 1236 = .ok (.istore 6, 2) := by decide +kernel
theorem dL_law_1238 : decode cL_law 1238 = .ok (.aload_n 2, 1) := by decide +kernel
theorem dL_law_1239 : decode cL_law 1239 = .ok (.invokevirtual 111, 3) := by decide +kernel
theorem dL_law_1242 : decode cL_law 1242 = .ok (.iload 5, 2) := by decide +kernel
theorem dL_law_1244 : decode cL_law 1244 = .ok (.if_icmp .eq 5, 3) := by decide +kernel
theorem dL_law_1247 : decode cL_law 1247 = .ok (.iconst 0, 1) := by decide +kernel
theorem dL_law_1248 : decode cL_law 1248 = .ok (.ireturn, 1) := by decide +kernel
theorem dL_law_1249 : decode cL_law 1249 = .ok (.iload 5, 2) := by decide +kernel
theorem dL_law_1251 : decode cL_law 1251 = .ok (.ifCond .ne 15, 3) := by decide +kernel
theorem dL_law_1254 : decode cL_law 1254 = .ok (.aload_n 3, 1) := by decide +kernel
theorem dL_law_1255 : decode cL_law 1255 = .ok (.iconst 0, 1) := by decide +kernel
theorem dL_law_1256 : decode cL_law 1256 = .ok (.laload, 1) := by decide +kernel
theorem dL_law_1257 : decode cL_law 1257 = .ok (.iload 6, 2) := by decide +kernel
theorem dL_law_1259 : decode cL_law 1259 = .ok (.i2l, 1) := by decide +kernel
theorem dL_law_1260 : decode cL_law 1260 = .ok (.lcmp, 1) := by decide +kernel
theorem dL_law_1261 : decode cL_law 1261 = .ok (.ifCond .eq 5, 3) := by decide +kernel
theorem dL_law_1264 : decode cL_law 1264 = .ok (.iconst 0, 1) := by decide +kernel
theorem dL_law_1265 : decode cL_law 1265 = .ok (.ireturn, 1) := by decide +kernel
theorem dL_law_1266 : decode cL_law 1266 = .ok (.goto 834, 3) := by decide +kernel
theorem dL_law_1269 : decode cL_law 1269 = .ok (.aload_n 1, 1) := by decide +kernel
theorem dL_law_1270 : decode cL_law 1270 = .ok (.aload_n 0, 1) := by decide +kernel
theorem dL_law_1271 : decode cL_law 1271 = .ok (.iload 4, 2) := by decide +kernel
theorem dL_law_1273 : decode cL_law 1273 = .ok (.iconst 1, 1) := by decide +kernel
theorem dL_law_1274 : decode cL_law 1274 = .ok (.iadd, 1) := by decide +kernel
theorem dL_law_1275 : decode cL_law 1275 = .ok (.iaload, 1) := by decide +kernel
theorem dL_law_1276 : decode cL_law 1276 = .ok (.aload_n 0, 1) := by decide +kernel
theorem dL_law_1277 : decode cL_law 1277 = .ok (.iload 4, 2) := by decide +kernel
theorem dL_law_1279 : decode cL_law 1279 = .ok (.iconst 2, 1) := by decide +kernel
theorem dL_law_1280 : decode cL_law 1280 = .ok (.iadd, 1) := by decide +kernel
theorem dL_law_1281 : decode cL_law 1281 = .ok (.iaload, 1) := by decide +kernel
theorem dL_law_1282 : decode cL_law 1282 = .ok (.aload_n 3, 1) := by decide +kernel
theorem dL_law_1283 : decode cL_law 1283 = .ok (.invokestatic 164, 3) := by decide +kernel
theorem dL_law_1286 : decode cL_law 1286 = .ok (.istore 5, 2) := by decide +kernel
theorem dL_law_1288 : decode cL_law 1288 = .ok (.aload_n 2, 1) := by decide +kernel
theorem dL_law_1289 : decode cL_law 1289 = .ok (.aload_n 0, 1) := by decide +kernel
theorem dL_law_1290 : decode cL_law 1290 = .ok (.iload 4, 2) := by decide +kernel
theorem dL_law_1292 : decode cL_law 1292 = .ok (.iconst 1, 1) := by decide +kernel
theorem dL_law_1293 : decode cL_law 1293 = .ok (.iadd, 1) := by decide +kernel
theorem dL_law_1294 : decode cL_law 1294 = .ok (.iaload, 1) := by decide +kernel
theorem dL_law_1295 : decode cL_law 1295 = .ok (.aload_n 0, 1) := by decide +kernel
theorem dL_law_1296 : decode cL_law 1296 = .ok (.iload 4, 2) := by decide +kernel
theorem dL_law_1298 : decode cL_law 1298 = .ok (.iconst 2, 1) := by decide +kernel
theorem dL_law_1299 : decode cL_law 1299 = .ok (.iadd, 1) := by decide +kernel
theorem dL_law_1300 : decode cL_law 1300 = .ok (.iaload, 1) := by decide +kernel
theorem dL_law_1301 : decode cL_law 1301 = .ok (.invokevirtual 166, 3) := by decide +kernel
theorem dL_law_1304 : decode cL_law 1304 = .ok (.istore 6, 2) := by decide +kernel
theorem dL_law_1306 : decode cL_law 1306 = .ok (.aload_n 2, 1) := by decide +kernel
theorem dL_law_1307 : decode cL_law 1307 = .ok (.invokevirtual 111, 3) := by decide +kernel
theorem dL_law_1310 : decode cL_law 1310 = .ok (.iload 5, 2) := by decide +kernel
theorem dL_law_1312 : decode cL_law 1312 = .ok (.if_icmp .eq 5, 3) := by decide +kernel
theorem dL_law_1315 : decode cL_law 1315 = .ok (.iconst 0, 1) := by decide +kernel
theorem dL_law_1316 : decode cL_law 1316 = .ok (.ireturn, 1) := by decide +kernel
theorem dL_law_1317 : decode cL_law 1317 = .ok (.iload 5, 2) := by decide +kernel
theorem dL_law_1319 : decode cL_law 1319 = .ok (.ifCond .ne 15, 3) := by decide +kernel
theorem dL_law_1322 : decode cL_law 1322 = .ok (.aload_n 3, 1) := by decide +kernel
theorem dL_law_1323 : decode cL_law 1323 = .ok (.iconst 0, 1) := by decide +kernel
theorem dL_law_1324 : decode cL_law 1324 = .ok (.laload, 1) := by decide +kernel
theorem dL_law_1325 : decode cL_law 1325 = .ok (.iload 6, 2) := by decide +kernel
theorem dL_law_1327 : decode cL_law 1327 = .ok (.i2l, 1) := by decide +kernel
theorem dL_law_1328 : decode cL_law 1328 = .ok (.lcmp, 1) := by decide +kernel
theorem dL_law_1329 : decode cL_law 1329 = .ok (.ifCond .eq 5, 3) := by decide +kernel
theorem dL_law_1332 : decode cL_law 1332 = .ok (.iconst 0, 1) := by decide +kernel
theorem dL_law_1333 : decode cL_law 1333 = .ok (.ireturn, 1) := by decide +kernel
theorem dL_law_1334 : decode cL_law 1334 = .ok (.goto 766, 3) := by decide +kernel
theorem dL_law_1337 : decode cL_law 1337 = .ok (.aload_n 1, 1) := by decide +kernel
theorem dL_law_1338 : decode cL_law 1338 = .ok (.aload_n 0, 1) := by decide +kernel
theorem dL_law_1339 : decode cL_law 1339 = .ok (.iload 4, 2) := by decide +kernel
theorem dL_law_1341 : decode cL_law 1341 = .ok (.iconst 1, 1) := by decide +kernel
theorem dL_law_1342 : decode cL_law 1342 = .ok (.iadd, 1) := by decide +kernel
theorem dL_law_1343 : decode cL_law 1343 = .ok (.iaload, 1) := by decide +kernel
theorem dL_law_1344 : decode cL_law 1344 = .ok (.aload_n 0, 1) := by decide +kernel
theorem dL_law_1345 : decode cL_law 1345 = .ok (.iload 4, 2) := by decide +kernel
theorem dL_law_1347 : decode cL_law 1347 = .ok (.iconst 2, 1) := by decide +kernel
theorem dL_law_1348 : decode cL_law 1348 = .ok (.iadd, 1) := by decide +kernel
theorem dL_law_1349 : decode cL_law 1349 = .ok (.iaload, 1) := by decide +kernel
theorem dL_law_1350 : decode cL_law 1350 = .ok (.aload_n 3, 1) := by decide +kernel
theorem dL_law_1351 : decode cL_law 1351 = .ok (.invokestatic 167, 3) := by decide +kernel
theorem dL_law_1354 : decode cL_law 1354 = .ok (.istore 5, 2) := by decide +kernel
theorem dL_law_1356 : decode cL_law 1356 = .ok (.aload_n 2, 1) := by decide +kernel
theorem dL_law_1357 : decode cL_law 1357 = .ok (.aload_n 0, 1) := by decide +kernel
theorem dL_law_1358 : decode cL_law 1358 = .ok (.iload 4, 2) := by decide +kernel
theorem dL_law_1360 : decode cL_law 1360 = .ok (.iconst 1, 1) := by decide +kernel
theorem dL_law_1361 : decode cL_law 1361 = .ok (.iadd, 1) := by decide +kernel
theorem dL_law_1362 : decode cL_law 1362 = .ok (.iaload, 1) := by decide +kernel
theorem dL_law_1363 : decode cL_law 1363 = .ok (.aload_n 0, 1) := by decide +kernel
theorem dL_law_1364 : decode cL_law 1364 = .ok (.iload 4, 2) := by decide +kernel
theorem dL_law_1366 : decode cL_law 1366 = .ok (.iconst 2, 1) := by decide +kernel
theorem dL_law_1367 : decode cL_law 1367 = .ok (.iadd, 1) := by decide +kernel
theorem dL_law_1368 : decode cL_law 1368 = .ok (.iaload, 1) := by decide +kernel
theorem dL_law_1369 : decode cL_law 1369 = .ok (.invokevirtual 169, 3) := by decide +kernel
theorem dL_law_1372 : decode cL_law 1372 = .ok (.istore 6, 2) := by decide +kernel
theorem dL_law_1374 : decode cL_law 1374 = .ok (.aload_n 2, 1) := by decide +kernel
theorem dL_law_1375 : decode cL_law 1375 = .ok (.invokevirtual 111, 3) := by decide +kernel
theorem dL_law_1378 : decode cL_law 1378 = .ok (.iload 5, 2) := by decide +kernel
theorem dL_law_1380 : decode cL_law 1380 = .ok (.if_icmp .eq 5, 3) := by decide +kernel
theorem dL_law_1383 : decode cL_law 1383 = .ok (.iconst 0, 1) := by decide +kernel
theorem dL_law_1384 : decode cL_law 1384 = .ok (.ireturn, 1) := by decide +kernel
theorem dL_law_1385 : decode cL_law 1385 = .ok (.iload 5, 2) := by decide +kernel
theorem dL_law_1387 : decode cL_law 1387 = .ok (.ifCond .ne 15, 3) := by decide +kernel
theorem dL_law_1390 : decode cL_law 1390 = .ok (.aload_n 3, 1) := by decide +kernel
theorem dL_law_1391 : decode cL_law 1391 = .ok (.iconst 0, 1) := by decide +kernel
theorem dL_law_1392 : decode cL_law 1392 = .ok (.laload, 1) := by decide +kernel
theorem dL_law_1393 : decode cL_law 1393 = .ok (.iload 6, 2) := by decide +kernel
theorem dL_law_1395 : decode cL_law 1395 = .ok (.i2l, 1) := by decide +kernel
theorem dL_law_1396 : decode cL_law 1396 = .ok (.lcmp, 1) := by decide +kernel
theorem dL_law_1397 : decode cL_law 1397 = .ok (.ifCond .eq 5, 3) := by decide +kernel
theorem dL_law_1400 : decode cL_law 1400 = .ok (.iconst 0, 1) := by decide +kernel
theorem dL_law_1401 : decode cL_law 1401 = .ok (.ireturn, 1) := by decide +kernel
theorem dL_law_1402 : decode cL_law 1402 = .ok (.goto 698, 3) := by decide +kernel
theorem dL_law_1405 : decode cL_law 1405 = .ok (.aload_n 1, 1) := by decide +kernel
theorem dL_law_1406 : decode cL_law 1406 = .ok (.aload_n 0, 1) := by decide +kernel
theorem dL_law_1407 : decode cL_law 1407 = .ok (.iload 4, 2) := by decide +kernel
theorem dL_law_1409 : decode cL_law 1409 = .ok (.iconst 1, 1) := by decide +kernel
theorem dL_law_1410 : decode cL_law 1410 = .ok (.iadd, 1) := by decide +kernel
theorem dL_law_1411 : decode cL_law 1411 = .ok (.iaload, 1) := by decide +kernel
theorem dL_law_1412 : decode cL_law 1412 = .ok (.aload_n 0, 1) := by decide +kernel
theorem dL_law_1413 : decode cL_law 1413 = .ok (.iload 4, 2) := by decide +kernel
theorem dL_law_1415 : decode cL_law 1415 = .ok (.iconst 2, 1) := by decide +kernel
theorem dL_law_1416 : decode cL_law 1416 = .ok (.iadd, 1) := by decide +kernel
theorem dL_law_1417 : decode cL_law 1417 = .ok (.iaload, 1) := by decide +kernel
theorem dL_law_1418 : decode cL_law 1418 = .ok (.aload_n 0, 1) := by decide +kernel
theorem dL_law_1419 : decode cL_law 1419 = .ok (.iload 4, 2) := by decide +kernel
theorem dL_law_1421 : decode cL_law 1421 = .ok (.iconst 3, 1) := by decide +kernel
theorem dL_law_1422 : decode cL_law 1422 = .ok (.iadd, 1) := by decide +kernel
theorem dL_law_1423 : decode cL_law 1423 = .ok (.iaload, 1) := by decide +kernel
theorem dL_law_1424 : decode cL_law 1424 = .ok (.aload_n 3, 1) := by decide +kernel
theorem dL_law_1425 : decode cL_law 1425 = .ok (.invokestatic 170, 3) := by decide +kernel
theorem dL_law_1428 : decode cL_law 1428 = .ok (.istore 5, 2) := by decide +kernel
theorem dL_law_1430 : decode cL_law 1430 = .ok (.aload_n 2, 1) := by decide +kernel
theorem dL_law_1431 : decode cL_law 1431 = .ok (.aload_n 0, 1) := by decide +kernel
theorem dL_law_1432 : decode cL_law 1432 = .ok (.iload 4, 2) := by decide +kernel
theorem dL_law_1434 : decode cL_law 1434 = .ok (.iconst 1, 1) := by decide +kernel
theorem dL_law_1435 : decode cL_law 1435 = .ok (.iadd, 1) := by decide +kernel
theorem dL_law_1436 : decode cL_law 1436 = .ok (.iaload, 1) := by decide +kernel
theorem dL_law_1437 : decode cL_law 1437 = .ok (.aload_n 0, 1) := by decide +kernel
theorem dL_law_1438 : decode cL_law 1438 = .ok (.iload 4, 2) := by decide +kernel
theorem dL_law_1440 : decode cL_law 1440 = .ok (.iconst 2, 1) := by decide +kernel
theorem dL_law_1441 : decode cL_law 1441 = .ok (.iadd, 1) := by decide +kernel
theorem dL_law_1442 : decode cL_law 1442 = .ok (.iaload, 1) := by decide +kernel
theorem dL_law_1443 : decode cL_law 1443 = .ok (.aload_n 0, 1) := by decide +kernel
theorem dL_law_1444 : decode cL_law 1444 = .ok (.iload 4, 2) := by decide +kernel
theorem dL_law_1446 : decode cL_law 1446 = .ok (.iconst 3, 1) := by decide +kernel
theorem dL_law_1447 : decode cL_law 1447 = .ok (.iadd, 1) := by decide +kernel
theorem dL_law_1448 : decode cL_law 1448 = .ok (.iaload, 1) := by decide +kernel
theorem dL_law_1449 : decode cL_law 1449 = .ok (.invokevirtual 172, 3) := by decide +kernel
theorem dL_law_1452 : decode cL_law 1452 = .ok (.istore 6, 2) := by decide +kernel
theorem dL_law_1454 : decode cL_law 1454 = .ok (.aload_n 2, 1) := by decide +kernel
theorem dL_law_1455 : decode cL_law 1455 = .ok (.invokevirtual 111, 3) := by decide +kernel
theorem dL_law_1458 : decode cL_law 1458 = .ok (.iload 5, 2) := by decide +kernel
theorem dL_law_1460 : decode cL_law 1460 = .ok (.if_icmp .eq 5, 3) := by decide +kernel
theorem dL_law_1463 : decode cL_law 1463 = .ok (.iconst 0, 1) := by decide +kernel
theorem dL_law_1464 : decode cL_law 1464 = .ok (.ireturn, 1) := by decide +kernel
theorem dL_law_1465 : decode cL_law 1465 = .ok (.iload 5, 2) := by decide +kernel
theorem dL_law_1467 : decode cL_law 1467 = .ok (.ifCond .ne 15, 3) := by decide +kernel
theorem dL_law_1470 : decode cL_law 1470 = .ok (.aload_n 3, 1) := by decide +kernel
theorem dL_law_1471 : decode cL_law 1471 = .ok (.iconst 0, 1) := by decide +kernel
theorem dL_law_1472 : decode cL_law 1472 = .ok (.laload, 1) := by decide +kernel
theorem dL_law_1473 : decode cL_law 1473 = .ok (.iload 6, 2) := by decide +kernel
theorem dL_law_1475 : decode cL_law 1475 = .ok (.i2l, 1) := by decide +kernel
theorem dL_law_1476 : decode cL_law 1476 = .ok (.lcmp, 1) := by decide +kernel
theorem dL_law_1477 : decode cL_law 1477 = .ok (.ifCond .eq 5, 3) := by decide +kernel
theorem dL_law_1480 : decode cL_law 1480 = .ok (.iconst 0, 1) := by decide +kernel
theorem dL_law_1481 : decode cL_law 1481 = .ok (.ireturn, 1) := by decide +kernel
theorem dL_law_1482 : decode cL_law 1482 = .ok (.goto 618, 3) := by decide +kernel
theorem dL_law_1485 : decode cL_law 1485 = .ok (.aload_n 1, 1) := by decide +kernel
theorem dL_law_1486 : decode cL_law 1486 = .ok (.invokevirtual 173, 3) := by decide +kernel
theorem dL_law_1489 : decode cL_law 1489 = .ok (.aload_n 2, 1) := by decide +kernel
theorem dL_law_1490 : decode cL_law 1490 = .ok (.invokevirtual 176, 3) := by decide +kernel
theorem dL_law_1493 : decode cL_law 1493 = .ok (.if_icmp .eq 607, 3) := by decide +kernel
theorem dL_law_1496 : decode cL_law 1496 = .ok (.iconst 0, 1) := by decide +kernel
theorem dL_law_1497 : decode cL_law 1497 = .ok (.ireturn, 1) := by decide +kernel
theorem dL_law_1498 : decode cL_law 1498 = .ok (.aload_n 1, 1) := by decide +kernel
theorem dL_law_1499 : decode cL_law 1499 = .ok (.invokevirtual 177, 3) := by decide +kernel
theorem dL_law_1502 : decode cL_law 1502 = .ok (.aload_n 2, 1) := by decide +kernel
theorem dL_law_1503 : decode cL_law 1503 = .ok (.invokevirtual 180, 3) := by decide +kernel
theorem dL_law_1506 : decode cL_law 1506 = .ok (.if_icmp .eq 594, 3) := by decide +kernel
theorem dL_law_1509 : decode cL_law 1509 = .ok (.iconst 0, 1) := by decide +kernel
theorem dL_law_1510 : decode cL_law 1510 = .ok (.ireturn, 1) := by decide +kernel
theorem dL_law_1511 : decode cL_law 1511 = .ok (.aload_n 1, 1) := by decide +kernel
theorem dL_law_1512 : decode cL_law 1512 = .ok (.invokevirtual 181, 3) := by decide +kernel
theorem dL_law_1515 : decode cL_law 1515 = .ok (.aload_n 2, 1) := by decide +kernel
theorem dL_law_1516 : decode cL_law 1516 = .ok (.invokevirtual 185, 3) := by decide +kernel
theorem dL_law_1519 : decode cL_law 1519 = .ok (.if_icmp .eq 581, 3) := by decide +kernel
theorem dL_law_1522 : decode cL_law 1522 = .ok (.iconst 0, 1) := by decide +kernel
theorem dL_law_1523 : decode cL_law 1523 = .ok (.ireturn, 1) := by decide +kernel
theorem dL_law_1524 : decode cL_law 1524 = .ok (.aload_n 1, 1) := by decide +kernel
theorem dL_law_1525 : decode cL_law 1525 = .ok (.aload_n 0, 1) := by decide +kernel
theorem dL_law_1526 : decode cL_law 1526 = .ok (.iload 4, 2) := by decide +kernel
theorem dL_law_1528 : decode cL_law 1528 = .ok (.iconst 1, 1) := by decide +kernel
theorem dL_law_1529 : decode cL_law 1529 = .ok (.iadd, 1) := by decide +kernel
theorem dL_law_1530 : decode cL_law 1530 = .ok (.iaload, 1) := by decide +kernel
theorem dL_law_1531 : decode cL_law 1531 = .ok (.aload_n 0, 1) := by decide +kernel
theorem dL_law_1532 : decode cL_law 1532 = .ok (.iload 4, 2) := by decide +kernel
theorem dL_law_1534 : decode cL_law 1534 = .ok (.iconst 2, 1) := by decide +kernel
theorem dL_law_1535 : decode cL_law 1535 = .ok (.iadd, 1) := by decide +kernel
theorem dL_law_1536 : decode cL_law 1536 = .ok (.iaload, 1) := by decide +kernel
theorem dL_law_1537 : decode cL_law 1537 = .ok (.aload_n 3, 1) := by decide +kernel
theorem dL_law_1538 : decode cL_law 1538 = .ok (.invokestatic 186, 3) := by decide +kernel
theorem dL_law_1541 : decode cL_law 1541 = .ok (.istore 5, 2) := by decide +kernel
theorem dL_law_1543 : decode cL_law 1543 = .ok (.aload_n 2, 1) := by decide +kernel
theorem dL_law_1544 : decode cL_law 1544 = .ok (.aload_n 0, 1) := by decide +kernel
theorem dL_law_1545 : decode cL_law 1545 = .ok (.iload 4, 2) := by decide +kernel
theorem dL_law_1547 : decode cL_law 1547 = .ok (.iconst 1, 1) := by decide +kernel
theorem dL_law_1548 : decode cL_law 1548 = .ok (.iadd, 1) := by decide +kernel
theorem dL_law_1549 : decode cL_law 1549 = .ok (.iaload, 1) := by decide +kernel
theorem dL_law_1550 : decode cL_law 1550 = .ok (.aload_n 0, 1) := by decide +kernel
theorem dL_law_1551 : decode cL_law 1551 = .ok (.iload 4, 2) := by decide +kernel
theorem dL_law_1553 : decode cL_law 1553 = .ok (.iconst 2, 1) := by decide +kernel
theorem dL_law_1554 : decode cL_law 1554 = .ok (.iadd, 1) := by decide +kernel
theorem dL_law_1555 : decode cL_law 1555 = .ok (.iaload, 1) := by decide +kernel
theorem dL_law_1556 : decode cL_law 1556 = .ok (.invokevirtual 188, 3) := by decide +kernel
theorem dL_law_1559 : decode cL_law 1559 = .ok (.istore 6, 2) := by decide +kernel
theorem dL_law_1561 : decode cL_law 1561 = .ok (.aload_n 2, 1) := by decide +kernel
theorem dL_law_1562 : decode cL_law 1562 = .ok (.invokevirtual 111, 3) := by decide +kernel
theorem dL_law_1565 : decode cL_law 1565 = .ok (.iload 5, 2) := by decide +kernel
theorem dL_law_1567 : decode cL_law 1567 = .ok (.if_icmp .eq 5, 3) := by decide +kernel
theorem dL_law_1570 : decode cL_law 1570 = .ok (.iconst 0, 1) := by decide +kernel
theorem dL_law_1571 : decode cL_law 1571 = .ok (.ireturn, 1) := by decide +kernel
theorem dL_law_1572 : decode cL_law 1572 = .ok (.iload 5, 2) := by decide +kernel
theorem dL_law_1574 : decode cL_law 1574 = .ok (.ifCond .ne 15, 3) := by decide +kernel
theorem dL_law_1577 : decode cL_law 1577 = .ok (.aload_n 3, 1) := by decide +kernel
theorem dL_law_1578 : decode cL_law 1578 = .ok (.iconst 0, 1) := by decide +kernel
theorem dL_law_1579 : decode cL_law 1579 = .ok (.laload, 1) := by decide +kernel
theorem dL_law_1580 : decode cL_law 1580 = .ok (.iload 6, 2) := by decide +kernel
theorem dL_law_1582 : decode cL_law 1582 = .ok (.i2l, 1) := by decide +kernel
theorem dL_law_1583 : decode cL_law 1583 = .ok (.lcmp, 1) := by decide +kernel
theorem dL_law_1584 : decode cL_law 1584 = .ok (.ifCond .eq 5, 3) := by decide +kernel
theorem dL_law_1587 : decode cL_law 1587 = .ok (.iconst 0, 1) := by decide +kernel
theorem dL_law_1588 : decode cL_law 1588 = .ok (.ireturn, 1) := by decide +kernel
theorem dL_law_1589 : decode cL_law 1589 = .ok (.goto 511, 3) := by decide +kernel
theorem dL_law_1592 : decode cL_law 1592 = .ok (.aload_n 1, 1) := by decide +kernel
theorem dL_law_1593 : decode cL_law 1593 = .ok (.aload_n 0, 1) := by decide +kernel
theorem dL_law_1594 : decode cL_law 1594 = .ok (.iload 4, 2) := by decide +kernel
theorem dL_law_1596 : decode cL_law 1596 = .ok (.iconst 1, 1) := by decide +kernel
theorem dL_law_1597 : decode cL_law 1597 = .ok (.iadd, 1) := by decide +kernel
theorem dL_law_1598 : decode cL_law 1598 = .ok (.iaload, 1) := by decide +kernel
theorem dL_law_1599 : decode cL_law 1599 = .ok (.aload_n 0, 1) := by decide +kernel
theorem dL_law_1600 : decode cL_law 1600 = .ok (.iload 4, 2) := by decide +kernel
theorem dL_law_1602 : decode cL_law 1602 = .ok (.iconst 2, 1) := by decide +kernel
theorem dL_law_1603 : decode cL_law 1603 = .ok (.iadd, 1) := by decide +kernel
theorem dL_law_1604 : decode cL_law 1604 = .ok (.iaload, 1) := by decide +kernel
theorem dL_law_1605 : decode cL_law 1605 = .ok (.aload_n 3, 1) := by decide +kernel
theorem dL_law_1606 : decode cL_law 1606 = .ok (.invokestatic 189, 3) := by decide +kernel
theorem dL_law_1609 : decode cL_law 1609 = .ok (.istore 5, 2) := by decide +kernel
theorem dL_law_1611 : decode cL_law 1611 = .ok (.aload_n 2, 1) := by decide +kernel
theorem dL_law_1612 : decode cL_law 1612 = .ok (.aload_n 0, 1) := by decide +kernel
theorem dL_law_1613 : decode cL_law 1613 = .ok (.iload 4, 2) := by decide +kernel
theorem dL_law_1615 : decode cL_law 1615 = .ok (.iconst 1, 1) := by decide +kernel
theorem dL_law_1616 : decode cL_law 1616 = .ok (.iadd, 1) := by decide +kernel
theorem dL_law_1617 : decode cL_law 1617 = .ok (.iaload, 1) := by decide +kernel
theorem dL_law_1618 : decode cL_law 1618 = .ok (.aload_n 0, 1) := by decide +kernel
theorem dL_law_1619 : decode cL_law 1619 = .ok (.iload 4, 2) := by decide +kernel
theorem dL_law_1621 : decode cL_law 1621 = .ok (.iconst 2, 1) := by decide +kernel
theorem dL_law_1622 : decode cL_law 1622 = .ok (.iadd, 1) := by decide +kernel
theorem dL_law_1623 : decode cL_law 1623 = .ok (.iaload, 1) := by decide +kernel
theorem dL_law_1624 : decode cL_law 1624 = .ok (.invokevirtual 191, 3) := by decide +kernel
theorem dL_law_1627 : decode cL_law 1627 = .ok (.istore 6, 2) := by decide +kernel
theorem dL_law_1629 : decode cL_law 1629 = .ok (.aload_n 2, 1) := by decide +kernel
theorem dL_law_1630 : decode cL_law 1630 = .ok (.invokevirtual 111, 3) := by decide +kernel
theorem dL_law_1633 : decode cL_law 1633 = .ok (.iload 5, 2) := by decide +kernel
theorem dL_law_1635 : decode cL_law 1635 = .ok (.if_icmp .eq 5, 3) := by decide +kernel
theorem dL_law_1638 : decode cL_law 1638 = .ok (.iconst 0, 1) := by decide +kernel
theorem dL_law_1639 : decode cL_law 1639 = .ok (.ireturn, 1) := by decide +kernel
theorem dL_law_1640 : decode cL_law 1640 = .ok (.iload 5, 2) := by decide +kernel
theorem dL_law_1642 : decode cL_law 1642 = .ok (.ifCond .ne 15, 3) := by decide +kernel
theorem dL_law_1645 : decode cL_law 1645 = .ok (.aload_n 3, 1) := by decide +kernel
theorem dL_law_1646 : decode cL_law 1646 = .ok (.iconst 0, 1) := by decide +kernel
theorem dL_law_1647 : decode cL_law 1647 = .ok (.laload, 1) := by decide +kernel
theorem dL_law_1648 : decode cL_law 1648 = .ok (.iload 6, 2) := by decide +kernel
theorem dL_law_1650 : decode cL_law 1650 = .ok (.i2l, 1) := by decide +kernel
theorem dL_law_1651 : decode cL_law 1651 = .ok (.lcmp, 1) := by decide +kernel
theorem dL_law_1652 : decode cL_law 1652 = .ok (.ifCond .eq 5, 3) := by decide +kernel
theorem dL_law_1655 : decode cL_law 1655 = .ok (.iconst 0, 1) := by decide +kernel
theorem dL_law_1656 : decode cL_law 1656 = .ok (.ireturn, 1) := by decide +kernel
theorem dL_law_1657 : decode cL_law 1657 = .ok (.goto 443, 3) := by decide +kernel
theorem dL_law_1660 : decode cL_law 1660 = .ok (.aload_n 1, 1) := by decide +kernel
theorem dL_law_1661 : decode cL_law 1661 = .ok (.aload_n 0, 1) := by decide +kernel
theorem dL_law_1662 : decode cL_law 1662 = .ok (.iload 4, 2) := by decide +kernel
theorem dL_law_1664 : decode cL_law 1664 = .ok (.iconst 1, 1) := by decide +kernel
theorem dL_law_1665 : decode cL_law 1665 = .ok (.iadd, 1) := by decide +kernel
theorem dL_law_1666 : decode cL_law 1666 = .ok (.iaload, 1) := by decide +kernel
theorem dL_law_1667 : decode cL_law 1667 = .ok (.aload_n 0, 1) := by decide +kernel
theorem dL_law_1668 : decode cL_law 1668 = .ok (.iload 4, 2) := by decide +kernel
theorem dL_law_1670 : decode cL_law 1670 = .ok (.iconst 2, 1) := by decide +kernel
theorem dL_law_1671 : decode cL_law 1671 = .ok (.iadd, 1) := by decide +kernel
theorem dL_law_1672 : decode cL_law 1672 = .ok (.iaload, 1) := by decide +kernel
theorem dL_law_1673 : decode cL_law 1673 = .ok (.aload_n 3, 1) := by decide +kernel
theorem dL_law_1674 : decode cL_law 1674 = .ok (.invokestatic 192, 3) := by decide +kernel
theorem dL_law_1677 : decode cL_law 1677 = .ok (.istore 5, 2) := by decide +kernel
theorem dL_law_1679 : decode cL_law 1679 = .ok (.aload_n 2, 1) := by decide +kernel
theorem dL_law_1680 : decode cL_law 1680 = .ok (.aload_n 0, 1) := by decide +kernel
theorem dL_law_1681 : decode cL_law 1681 = .ok (.iload 4, 2) := by decide +kernel
theorem dL_law_1683 : decode cL_law 1683 = .ok (.iconst 1, 1) := by decide +kernel
theorem dL_law_1684 : decode cL_law 1684 = .ok (.iadd, 1) := by decide +kernel
theorem dL_law_1685 : decode cL_law 1685 = .ok (.iaload, 1) := by decide +kernel
theorem dL_law_1686 : decode cL_law 1686 = .ok (.aload_n 0, 1) := by decide +kernel
theorem dL_law_1687 : decode cL_law 1687 = .ok (.iload 4, 2) := by decide +kernel
theorem dL_law_1689 : decode cL_law 1689 = .ok (.iconst 2, 1) := by decide +kernel
theorem dL_law_1690 : decode cL_law 1690 = .ok (.iadd, 1) := by decide +kernel
theorem dL_law_1691 : decode cL_law 1691 = .ok (.iaload, 1) := by decide +kernel
theorem dL_law_1692 : decode cL_law 1692 = .ok (.invokevirtual 194, 3) := by decide +kernel
theorem dL_law_1695 : decode cL_law 1695 = .ok (.istore 6, 2) := by decide +kernel
theorem dL_law_1697 : decode cL_law 1697 = .ok (.aload_n 2, 1) := by decide +kernel
theorem dL_law_1698 : decode cL_law 1698 = .ok (.invokevirtual 111, 3) := by decide +kernel
theorem dL_law_1701 : decode cL_law 1701 = .ok (.iload 5, 2) := by decide +kernel
theorem dL_law_1703 : decode cL_law 1703 = .ok (.if_icmp .eq 5, 3) := by decide +kernel
theorem dL_law_1706 : decode cL_law 1706 = .ok (.iconst 0, 1) := by decide +kernel
theorem dL_law_1707 : decode cL_law 1707 = .ok (.ireturn, 1) := by decide +kernel
theorem dL_law_1708 : decode cL_law 1708 = .ok (.iload 5, 2) := by decide +kernel
theorem dL_law_1710 : decode cL_law 1710 = .ok (.ifCond .ne 15, 3) := by decide +kernel
theorem dL_law_1713 : decode cL_law 1713 = .ok (.aload_n 3, 1) := by decide +kernel
theorem dL_law_1714 : decode cL_law 1714 = .ok (.iconst 0, 1) := by decide +kernel
theorem dL_law_1715 : decode cL_law 1715 = .ok (.laload, 1) := by decide +kernel
theorem dL_law_1716 : decode cL_law 1716 = .ok (.iload 6, 2) := by decide +kernel
theorem dL_law_1718 : decode cL_law 1718 = .ok (.i2l, 1) := by decide +kernel
theorem dL_law_1719 : decode cL_law 1719 = .ok (.lcmp, 1) := by decide +kernel
theorem dL_law_1720 : decode cL_law 1720 = .ok (.ifCond .eq 5, 3) := by decide +kernel
theorem dL_law_1723 : decode cL_law 1723 = .ok (.iconst 0, 1) := by decide +kernel
theorem dL_law_1724 : decode cL_law 1724 = .ok (.ireturn, 1) := by decide +kernel
theorem dL_law_1725 : decode cL_law 1725 = .ok (.goto 375, 3) := by decide +kernel
theorem dL_law_1728 : decode cL_law 1728 = .ok (.aload_n 1, 1) := by decide +kernel
theorem dL_law_1729 : decode cL_law 1729 = .ok (.aload_n 0, 1) := by decide +kernel
theorem dL_law_1730 : decode cL_law 1730 = .ok (.iload 4, 2) := by decide +kernel
theorem dL_law_1732 : decode cL_law 1732 = .ok (.iconst 1, 1) := by decide +kernel
theorem dL_law_1733 : decode cL_law 1733 = .ok (.iadd, 1) := by decide +kernel
theorem dL_law_1734 : decode cL_law 1734 = .ok (.iaload, 1) := by decide +kernel
theorem dL_law_1735 : decode cL_law 1735 = .ok (.aload_n 0, 1) := by decide +kernel
theorem dL_law_1736 : decode cL_law 1736 = .ok (.iload 4, 2) := by decide +kernel
theorem dL_law_1738 : decode cL_law 1738 = .ok (.iconst 2, 1) := by decide +kernel
theorem dL_law_1739 : decode cL_law 1739 = .ok (.iadd, 1) := by decide +kernel
theorem dL_law_1740 : decode cL_law 1740 = .ok (.iaload, 1) := by decide +kernel
theorem dL_law_1741 : decode cL_law 1741 = .ok (.aload_n 3, 1) := by decide +kernel
theorem dL_law_1742 : decode cL_law 1742 = .ok (.invokestatic 195, 3) := by decide +kernel
theorem dL_law_1745 : decode cL_law 1745 = .ok (.istore 5, 2) := by decide +kernel
theorem dL_law_1747 : decode cL_law 1747 = .ok (.aload_n 2, 1) := by decide +kernel
theorem dL_law_1748 : decode cL_law 1748 = .ok (.aload_n 0, 1) := by decide +kernel
theorem dL_law_1749 : decode cL_law 1749 = .ok (.iload 4, 2) := by decide +kernel
theorem dL_law_1751 : decode cL_law 1751 = .ok (.iconst 1, 1) := by decide +kernel
theorem dL_law_1752 : decode cL_law 1752 = .ok (.iadd, 1) := by decide +kernel
theorem dL_law_1753 : decode cL_law 1753 = .ok (.iaload, 1) := by decide +kernel
theorem dL_law_1754 : decode cL_law 1754 = .ok (.aload_n 0, 1) := by decide +kernel
theorem dL_law_1755 : decode cL_law 1755 = .ok (.iload 4, 2) := by decide +kernel
theorem dL_law_1757 : decode cL_law 1757 = .ok (.iconst 2, 1) := by decide +kernel
theorem dL_law_1758 : decode cL_law 1758 = .ok (.iadd, 1) := by decide +kernel
theorem dL_law_1759 : decode cL_law 1759 = .ok (.iaload, 1) := by decide +kernel
theorem dL_law_1760 : decode cL_law 1760 = .ok (.invokevirtual 197, 3) := by decide +kernel
theorem dL_law_1763 : decode cL_law 1763 = .ok (.istore 6, 2) := by decide +kernel
theorem dL_law_1765 : decode cL_law 1765 = .ok (.aload_n 2, 1) := by decide +kernel
theorem dL_law_1766 : decode cL_law 1766 = .ok (.invokevirtual 111, 3) := by decide +kernel
theorem dL_law_1769 : decode cL_law 1769 = .ok (.iload 5, 2) := by decide +kernel
theorem dL_law_1771 : decode cL_law 1771 = .ok (.if_icmp .eq 5, 3) := by decide +kernel
theorem dL_law_1774 : decode cL_law 1774 = .ok (.iconst 0, 1) := by decide +kernel
theorem dL_law_1775 : decode cL_law 1775 = .ok (.ireturn, 1) := by decide +kernel
theorem dL_law_1776 : decode cL_law 1776 = .ok (.iload 5, 2) := by decide +kernel
theorem dL_law_1778 : decode cL_law 1778 = .ok (.ifCond .ne 15, 3) := by decide +kernel
theorem dL_law_1781 : decode cL_law 1781 = .ok (.aload_n 3, 1) := by decide +kernel
theorem dL_law_1782 : decode cL_law 1782 = .ok (.iconst 0, 1) := by decide +kernel
theorem dL_law_1783 : decode cL_law 1783 = .ok (.laload, 1) := by decide +kernel
theorem dL_law_1784 : decode cL_law 1784 = .ok (.iload 6, 2) := by decide +kernel
theorem dL_law_1786 : decode cL_law 1786 = .ok (.i2l, 1) := by decide +kernel
theorem dL_law_1787 : decode cL_law 1787 = .ok (.lcmp, 1) := by decide +kernel
theorem dL_law_1788 : decode cL_law 1788 = .ok (.ifCond .eq 5, 3) := by decide +kernel
theorem dL_law_1791 : decode cL_law 1791 = .ok (.iconst 0, 1) := by decide +kernel
theorem dL_law_1792 : decode cL_law 1792 = .ok (.ireturn, 1) := by decide +kernel
theorem dL_law_1793 : decode cL_law 1793 = .ok (.goto 307, 3) := by decide +kernel
theorem dL_law_1796 : decode cL_law 1796 = .ok (.aload_n 1, 1) := by decide +kernel
theorem dL_law_1797 : decode cL_law 1797 = .ok (.aload_n 0, 1) := by decide +kernel
theorem dL_law_1798 : decode cL_law 1798 = .ok (.iload 4, 2) := by decide +kernel
theorem dL_law_1800 : decode cL_law 1800 = .ok (.iconst 1, 1) := by decide +kernel
theorem dL_law_1801 : decode cL_law 1801 = .ok (.iadd, 1) := by decide +kernel
theorem dL_law_1802 : decode cL_law 1802 = .ok (.iaload, 1) := by decide +kernel
theorem dL_law_1803 : decode cL_law 1803 = .ok (.aload_n 0, 1) := by decide +kernel
theorem dL_law_1804 : decode cL_law 1804 = .ok (.iload 4, 2) := by decide +kernel
theorem dL_law_1806 : decode cL_law 1806 = .ok (.iconst 2, 1) := by decide +kernel
theorem dL_law_1807 : decode cL_law 1807 = .ok (.iadd, 1) := by decide +kernel
theorem dL_law_1808 : decode cL_law 1808 = .ok (.iaload, 1) := by decide +kernel
theorem dL_law_1809 : decode cL_law 1809 = .ok (.aload_n 3, 1) := by decide +kernel
theorem dL_law_1810 : decode cL_law 1810 = .ok (.invokestatic 198, 3) := by decide +kernel
theorem dL_law_1813 : decode cL_law 1813 = .ok (.istore 5, 2) := by decide +kernel
theorem dL_law_1815 : decode cL_law 1815 = .ok (.aload_n 2, 1) := by decide +kernel
theorem dL_law_1816 : decode cL_law 1816 = .ok (.aload_n 0, 1) := by decide +kernel
theorem dL_law_1817 : decode cL_law 1817 = .ok (.iload 4, 2) := by decide +kernel
theorem dL_law_1819 : decode cL_law 1819 = .ok (.iconst 1, 1) := by decide +kernel
theorem dL_law_1820 : decode cL_law 1820 = .ok (.iadd, 1) := by decide +kernel
theorem dL_law_1821 : decode cL_law 1821 = .ok (.iaload, 1) := by decide +kernel
theorem dL_law_1822 : decode cL_law 1822 = .ok (.aload_n 0, 1) := by decide +kernel
theorem dL_law_1823 : decode cL_law 1823 = .ok (.iload 4, 2) := by decide +kernel
theorem dL_law_1825 : decode cL_law 1825 = .ok (.iconst 2, 1) := by decide +kernel
theorem dL_law_1826 : decode cL_law 1826 = .ok (.iadd, 1) := by decide +kernel
theorem dL_law_1827 : decode cL_law 1827 = .ok (.iaload, 1) := by decide +kernel
theorem dL_law_1828 : decode cL_law 1828 = .ok (.invokevirtual 200, 3) := by decide +kernel
theorem dL_law_1831 : decode cL_law 1831 = .ok (.istore 6, 2) := by decide +kernel
theorem dL_law_1833 : decode cL_law 1833 = .ok (.aload_n 2, 1) := by decide +kernel
theorem dL_law_1834 : decode cL_law 1834 = .ok (.invokevirtual 111, 3) := by decide +kernel
theorem dL_law_1837 : decode cL_law 1837 = .ok (.iload 5, 2) := by decide +kernel
theorem dL_law_1839 : decode cL_law 1839 = .ok (.if_icmp .eq 5, 3) := by decide +kernel
theorem dL_law_1842 : decode cL_law 1842 = .ok (.iconst 0, 1) := by decide +kernel
theorem dL_law_1843 : decode cL_law 1843 = .ok (.ireturn, 1) := by decide +kernel
theorem dL_law_1844 : decode cL_law 1844 = .ok (.iload 5, 2) := by decide +kernel
theorem dL_law_1846 : decode cL_law 1846 = .ok (.ifCond .ne 15, 3) := by decide +kernel
theorem dL_law_1849 : decode cL_law 1849 = .ok (.aload_n 3, 1) := by decide +kernel
theorem dL_law_1850 : decode cL_law 1850 = .ok (.iconst 0, 1) := by decide +kernel
theorem dL_law_1851 : decode cL_law 1851 = .ok (.laload, 1) := by decide +kernel
theorem dL_law_1852 : decode cL_law 1852 = .ok (.iload 6, 2) := by decide +kernel
theorem dL_law_1854 : decode cL_law 1854 = .ok (.i2l, 1) := by decide +kernel
theorem dL_law_1855 : decode cL_law 1855 = .ok (.lcmp, 1) := by decide +kernel
theorem dL_law_1856 : decode cL_law 1856 = .ok (.ifCond .eq 5, 3) := by decide +kernel
theorem dL_law_1859 : decode cL_law 1859 = .ok (.iconst 0, 1) := by decide +kernel
theorem dL_law_1860 : decode cL_law 1860 = .ok (.ireturn, 1) := by decide +kernel
theorem dL_law_1861 : decode cL_law 1861 = .ok (.goto 239, 3) := by decide +kernel
theorem dL_law_1864 : decode cL_law 1864 = .ok (.aload_n 1, 1) := by decide +kernel
theorem dL_law_1865 : decode cL_law 1865 = .ok (.aload_n 0, 1) := by decide +kernel
theorem dL_law_1866 : decode cL_law 1866 = .ok (.iload 4, 2) := by decide +kernel
theorem dL_law_1868 : decode cL_law 1868 = .ok (.iconst 1, 1) := by decide +kernel
theorem dL_law_1869 : decode cL_law 1869 = .ok (.iadd, 1) := by decide +kernel
theorem dL_law_1870 : decode cL_law 1870 = .ok (.iaload, 1) := by decide +kernel
theorem dL_law_1871 : decode cL_law 1871 = .ok (.aload_n 3, 1) := by decide +kernel
theorem dL_law_1872 : decode cL_law 1872 = .ok (.invokestatic 201, 3) := by decide +kernel
theorem dL_law_1875 : decode cL_law 1875 = .ok (.istore 5, 2) := by decide +kernel
theorem dL_law_1877 : decode cL_law 1877 = .ok (.aload_n 2, 1) := by decide +kernel
theorem dL_law_1878 : decode cL_law 1878 = .ok (.aload_n 0, 1) := by decide +kernel
theorem dL_law_1879 : decode cL_law 1879 = .ok (.iload 4, 2) := by decide +kernel
theorem dL_law_1881 : decode cL_law 1881 = .ok (.iconst 1, 1) := by decide +kernel
theorem dL_law_1882 : decode cL_law 1882 = .ok (.iadd, 1) := by decide +kernel
theorem dL_law_1883 : decode cL_law 1883 = .ok (.iaload, 1) := by decide +kernel
theorem dL_law_1884 : decode cL_law 1884 = .ok (.invokevirtual 203, 3) := by decide +kernel
theorem dL_law_1887 : decode cL_law 1887 = .ok (.istore 6, 2) := by decide +kernel
theorem dL_law_1889 : decode cL_law 1889 = .ok (.aload_n 2, 1) := by decide +kernel
theorem dL_law_1890 : decode cL_law 1890 = .ok (.invokevirtual 111, 3) := by decide +kernel
theorem dL_law_1893 : decode cL_law 1893 = .ok (.iload 5, 2) := by decide +kernel
theorem dL_law_1895 : decode cL_law 1895 = .ok (.if_icmp .eq 5, 3) := by decide +kernel
theorem dL_law_1898 : decode cL_law 1898 = .ok (.iconst 0, 1) := by decide +kernel
theorem dL_law_1899 : decode cL_law 1899 = .ok (.ireturn, 1) := by decide +kernel
theorem dL_law_1900 : decode cL_law 1900 = .ok (.iload 5, 2) := by decide +kernel
theorem dL_law_1902 : decode cL_law 1902 = .ok (.ifCond .ne 15, 3) := by decide +kernel
theorem dL_law_1905 : decode cL_law 1905 = .ok (.aload_n 3, 1) := by decide +kernel
theorem dL_law_1906 : decode cL_law 1906 = .ok (.iconst 0, 1) := by decide +kernel
theorem dL_law_1907 : decode cL_law 1907 = .ok (.laload, 1) := by decide +kernel
theorem dL_law_1908 : decode cL_law 1908 = .ok (.iload 6, 2) := by decide +kernel
theorem dL_law_1910 : decode cL_law 1910 = .ok (.i2l, 1) := by decide +kernel
theorem dL_law_1911 : decode cL_law 1911 = .ok (.lcmp, 1) := by decide +kernel
theorem dL_law_1912 : decode cL_law 1912 = .ok (.ifCond .eq 5, 3) := by decide +kernel
theorem dL_law_1915 : decode cL_law 1915 = .ok (.iconst 0, 1) := by decide +kernel
theorem dL_law_1916 : decode cL_law 1916 = .ok (.ireturn, 1) := by decide +kernel
theorem dL_law_1917 : decode cL_law 1917 = .ok (.goto 183, 3) := by decide +kernel
theorem dL_law_1920 : decode cL_law 1920 = .ok (.aload_n 1, 1) := by decide +kernel
theorem dL_law_1921 : decode cL_law 1921 = .ok (.aload_n 0, 1) := by decide +kernel
theorem dL_law_1922 : decode cL_law 1922 = .ok (.iload 4, 2) := by decide +kernel
theorem dL_law_1924 : decode cL_law 1924 = .ok (.iconst 1, 1) := by decide +kernel
theorem dL_law_1925 : decode cL_law 1925 = .ok (.iadd, 1) := by decide +kernel
theorem dL_law_1926 : decode cL_law 1926 = .ok (.iaload, 1) := by decide +kernel
theorem dL_law_1927 : decode cL_law 1927 = .ok (.aload_n 3, 1) := by decide +kernel
theorem dL_law_1928 : decode cL_law 1928 = .ok (.invokestatic 204, 3) := by decide +kernel
theorem dL_law_1931 : decode cL_law 1931 = .ok (.istore 5, 2) := by decide +kernel
theorem dL_law_1933 : decode cL_law 1933 = .ok (.aload_n 2, 1) := by decide +kernel
theorem dL_law_1934 : decode cL_law 1934 = .ok (.aload_n 0, 1) := by decide +kernel
theorem dL_law_1935 : decode cL_law 1935 = .ok (.iload 4, 2) := by decide +kernel
theorem dL_law_1937 : decode cL_law 1937 = .ok (.iconst 1, 1) := by decide +kernel
theorem dL_law_1938 : decode cL_law 1938 = .ok (.iadd, 1) := by decide +kernel
theorem dL_law_1939 : decode cL_law 1939 = .ok (.iaload, 1) := by decide +kernel
theorem dL_law_1940 : decode cL_law 1940 = .ok (.invokevirtual 206, 3) := by decide +kernel
theorem dL_law_1943 : decode cL_law 1943 = .ok (.istore 6, 2) := by decide +kernel
theorem dL_law_1945 : decode cL_law 1945 = .ok (.aload_n 2, 1) := by decide +kernel
theorem dL_law_1946 : decode cL_law 1946 = .ok (.invokevirtual 111, 3) := by decide +kernel
theorem dL_law_1949 : decode cL_law 1949 = .ok (.iload 5, 2) := by decide +kernel
theorem dL_law_1951 : decode cL_law 1951 = .ok (.if_icmp .eq 5, 3) := by decide +kernel
theorem dL_law_1954 : decode cL_law 1954 = .ok (.iconst 0, 1) := by decide +kernel
theorem dL_law_1955 : decode cL_law 1955 = .ok (.ireturn, 1) := by decide +kernel
theorem dL_law_1956 : decode cL_law 1956 = .ok (.iload 5, 2) := by decide +kernel
theorem dL_law_1958 : decode cL_law 1958 = .ok (.ifCond .ne 15, 3) := by decide +kernel
theorem dL_law_1961 : decode cL_law 1961 = .ok (.aload_n 3, 1) := by decide +kernel
theorem dL_law_1962 : decode cL_law 1962 = .ok (.iconst 0, 1) := by decide +kernel
theorem dL_law_1963 : decode cL_law 1963 = .ok (.laload, 1) := by decide +kernel
theorem dL_law_1964 : decode cL_law 1964 = .ok (.iload 6, 2) := by decide +kernel
theorem dL_law_1966 : decode cL_law 1966 = .ok (.i2l, 1) := by decide +kernel
theorem dL_law_1967 : decode cL_law 1967 = .ok (.lcmp, 1) := by decide +kernel
theorem dL_law_1968 : decode cL_law 1968 = .ok (.ifCond .eq 5, 3) := by decide +kernel
theorem dL_law_1971 : decode cL_law 1971 = .ok (.iconst 0, 1) := by decide +kernel
theorem dL_law_1972 : decode cL_law 1972 = .ok (.ireturn, 1) := by decide +kernel
theorem dL_law_1973 : decode cL_law 1973 = .ok (.goto 127, 3) := by decide +kernel
theorem dL_law_1976 : decode cL_law 1976 = .ok (.aload_n 1, 1) := by decide +kernel
theorem dL_law_1977 : decode cL_law 1977 = .ok (.aload_n 0, 1) := by decide +kernel
theorem dL_law_1978 : decode cL_law 1978 = .ok (.iload 4, 2) := by decide +kernel
theorem dL_law_1980 : decode cL_law 1980 = .ok (.iconst 1, 1) := by decide +kernel
theorem dL_law_1981 : decode cL_law 1981 = .ok (.iadd, 1) := by decide +kernel
theorem dL_law_1982 : decode cL_law 1982 = .ok (.iaload, 1) := by decide +kernel
theorem dL_law_1983 : decode cL_law 1983 = .ok (.aload_n 0, 1) := by decide +kernel
theorem dL_law_1984 : decode cL_law 1984 = .ok (.iload 4, 2) := by decide +kernel
theorem dL_law_1986 : decode cL_law 1986 = .ok (.iconst 2, 1) := by decide +kernel
theorem dL_law_1987 : decode cL_law 1987 = .ok (.iadd, 1) := by decide +kernel
theorem dL_law_1988 : decode cL_law 1988 = .ok (.iaload, 1) := by decide +kernel
theorem dL_law_1989 : decode cL_law 1989 = .ok (.aload_n 3, 1) := by decide +kernel
theorem dL_law_1990 : decode cL_law 1990 = .ok (.invokestatic 207, 3) := by decide +kernel
theorem dL_law_1993 : decode cL_law 1993 = .ok (.istore 5, 2) := by decide +kernel
theorem dL_law_1995 : decode cL_law 1995 = .ok (.aload_n 2, 1) := by decide +kernel
theorem dL_law_1996 : decode cL_law 1996 = .ok (.aload_n 0, 1) := by decide +kernel
theorem dL_law_1997 : decode cL_law 1997 = .ok (.iload 4, 2) := by decide +kernel
theorem dL_law_1999 : decode cL_law 1999 = .ok (.iconst 1, 1) := by decide +kernel
theorem dL_law_2000 : decode cL_law 2000 = .ok (.iadd, 1) := by decide +kernel
theorem dL_law_2001 : decode cL_law 2001 = .ok (.iaload, 1) := by decide +kernel
theorem dL_law_2002 : decode cL_law 2002 = .ok (.aload_n 0, 1) := by decide +kernel
theorem dL_law_2003 : decode cL_law 2003 = .ok (.iload 4, 2) := by decide +kernel
theorem dL_law_2005 : decode cL_law 2005 = .ok (.iconst 2, 1) := by decide +kernel
theorem dL_law_2006 : decode cL_law 2006 = .ok (.iadd, 1) := by decide +kernel
theorem dL_law_2007 : decode cL_law 2007 = .ok (.iaload, 1) := by decide +kernel
theorem dL_law_2008 : decode cL_law 2008 = .ok (.invokevirtual 209, 3) := by decide +kernel
theorem dL_law_2011 : decode cL_law 2011 = .ok (.istore 6, 2) := by decide +kernel
theorem dL_law_2013 : decode cL_law 2013 = .ok (.aload_n 2, 1) := by decide +kernel
theorem dL_law_2014 : decode cL_law 2014 = .ok (.invokevirtual 111, 3) := by decide +kernel
theorem dL_law_2017 : decode cL_law 2017 = .ok (.iload 5, 2) := by decide +kernel
theorem dL_law_2019 : decode cL_law 2019 = .ok (.if_icmp .eq 5, 3) := by decide +kernel
theorem dL_law_2022 : decode cL_law 2022 = .ok (.iconst 0, 1) := by decide +kernel
theorem dL_law_2023 : decode cL_law 2023 = .ok (.ireturn, 1) := by decide +kernel
theorem dL_law_2024 : decode cL_law 2024 = .ok (.iload 5, 2) := by decide +kernel
theorem dL_law_2026 : decode cL_law 2026 = .ok (.ifCond .ne 15, 3) := by decide +kernel
theorem dL_law_2029 : decode cL_law 2029 = .ok (.aload_n 3, 1) := by decide +kernel
theorem dL_law_2030 : decode cL_law 2030 = .ok (.iconst 0, 1) := by decide +kernel
theorem dL_law_2031 : decode cL_law 2031 = .ok (.laload, 1) := by decide +kernel
theorem dL_law_2032 : decode cL_law 2032 = .ok (.iload 6, 2) := by decide +kernel
theorem dL_law_2034 : decode cL_law 2034 = .ok (.i2l, 1) := by decide +kernel
theorem dL_law_2035 : decode cL_law 2035 = .ok (.lcmp, 1) := by decide +kernel
theorem dL_law_2036 : decode cL_law 2036 = .ok (.ifCond .eq 5, 3) := by decide +kernel
theorem dL_law_2039 : decode cL_law 2039 = .ok (.iconst 0, 1) := by decide +kernel
theorem dL_law_2040 : decode cL_law 2040 = .ok (.ireturn, 1) := by decide +kernel
theorem dL_law_2041 : decode cL_law 2041 = .ok (.goto 59, 3) := by decide +kernel
theorem dL_law_2044 : decode cL_law 2044 = .ok (.aload_n 1, 1) := by decide +kernel
theorem dL_law_2045 : decode cL_law 2045 = .ok (.aload_n 0, 1) := by decide +kernel
theorem dL_law_2046 : decode cL_law 2046 = .ok (.iload 4, 2) := by decide +kernel
theorem dL_law_2048 : decode cL_law 2048 = .ok (.iconst 1, 1) := by decide +kernel
theorem dL_law_2049 : decode cL_law 2049 = .ok (.iadd, 1) := by decide +kernel
theorem dL_law_2050 : decode cL_law 2050 = .ok (.iaload, 1) := by decide +kernel
theorem dL_law_2051 : decode cL_law 2051 = .ok (.aload_n 3, 1) := by decide +kernel
theorem dL_law_2052 : decode cL_law 2052 = .ok (.invokestatic 210, 3) := by decide +kernel
theorem dL_law_2055 : decode cL_law 2055 = .ok (.istore 5, 2) := by decide +kernel
theorem dL_law_2057 : decode cL_law 2057 = .ok (.aload_n 2, 1) := by decide +kernel
theorem dL_law_2058 : decode cL_law 2058 = .ok (.aload_n 0, 1) := by decide +kernel
theorem dL_law_2059 : decode cL_law 2059 = .ok (.iload 4, 2) := by decide +kernel
theorem dL_law_2061 : decode cL_law 2061 = .ok (.iconst 1, 1) := by decide +kernel
theorem dL_law_2062 : decode cL_law 2062 = .ok (.iadd, 1) := by decide +kernel
theorem dL_law_2063 : decode cL_law 2063 = .ok (.iaload, 1) := by decide +kernel
theorem dL_law_2064 : decode cL_law 2064 = .ok (.invokevirtual 212, 3) := by decide +kernel
theorem dL_law_2067 : decode cL_law 2067 = .ok (.istore 6, 2) := by decide +kernel
theorem dL_law_2069 : decode cL_law 2069 = .ok (.aload_n 2, 1) := by decide +kernel
theorem dL_law_2070 : decode cL_law 2070 = .ok (.invokevirtual 111, 3) := by decide +kernel
theorem dL_law_2073 : decode cL_law 2073 = .ok (.iload 5, 2) := by decide +kernel
theorem dL_law_2075 : decode cL_law 2075 = .ok (.if_icmp .eq 5, 3) := by decide +kernel
theorem dL_law_2078 : decode cL_law 2078 = .ok (.iconst 0, 1) := by decide +kernel
theorem dL_law_2079 : decode cL_law 2079 = .ok (.ireturn, 1) := by decide +kernel
theorem dL_law_2080 : decode cL_law 2080 = .ok (.iload 5, 2) := by decide +kernel
theorem dL_law_2082 : decode cL_law 2082 = .ok (.ifCond .ne 15, 3) := by decide +kernel
theorem dL_law_2085 : decode cL_law 2085 = .ok (.aload_n 3, 1) := by decide +kernel
theorem dL_law_2086 : decode cL_law 2086 = .ok (.iconst 0, 1) := by decide +kernel
theorem dL_law_2087 : decode cL_law 2087 = .ok (.laload, 1) := by decide +kernel
theorem dL_law_2088 : decode cL_law 2088 = .ok (.iload 6, 2) := by decide +kernel
theorem dL_law_2090 : decode cL_law 2090 = .ok (.i2l, 1) := by decide +kernel
theorem dL_law_2091 : decode cL_law 2091 = .ok (.lcmp, 1) := by decide +kernel
theorem dL_law_2092 : decode cL_law 2092 = .ok (.ifCond .eq 5, 3) := by decide +kernel
theorem dL_law_2095 : decode cL_law 2095 = .ok (.iconst 0, 1) := by decide +kernel
theorem dL_law_2096 : decode cL_law 2096 = .ok (.ireturn, 1) := by decide +kernel
theorem dL_law_2097 : decode cL_law 2097 = .ok (.goto 3, 3) := by decide +kernel
theorem dL_law_2100 : decode cL_law 2100 = .ok (.iinc 4 7, 3) := by decide +kernel
theorem dL_law_2103 : decode cL_law 2103 = .ok (.goto (-2080), 3) := by decide +kernel
theorem dL_law_2106 : decode cL_law 2106 = .ok (.iconst 1, 1) := by decide +kernel
theorem dL_law_2107 : decode cL_law 2107 = .ok (.ireturn, 1) := by decide +kernel
end
