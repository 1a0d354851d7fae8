section
variable {p : Program} {l : Launch} {e : Env} {s : State} {m : MethodId} {args : Array Value} {below : List Frame} {meth : Method} {c : Code} {Q : State → Prop} {D : va_G} {A : Nat → Prop} {cI cZ : ClassId} {ad : Nat → Nat}
def f_L_isSo_1071 (N : Nat) (s0 : Int32) (M : gq_M) : Option (Int32 × gq_M) :=
  gq_g (gq_bb s0) (some (s0, M))
set_option maxHeartbeats 1000000 in
set_option maxRecDepth 20000 in
theorem t_L_isSo_1071 {N : Nat} {v9 : Int32} {M9 : gq_M} (hl9 : l.stackTraces = false) (hZ : gq_Zn A s) (hC : gq_C p s m args meth c D A cI cZ ad mtL RL cL_isSo 20) (hr : meth.sig.returnType = (some .boolean))   : ∀ (s0 : Int32) (M : gq_M), f_L_isSo_1071 N  s0 M = some (v9, M9) → gq_W p l e (gq_rl 10 3 18) s m args below meth c D A cI cZ ad mtL 20 (gq_NQ below D cI cZ ad mtL v9 M9 args s 3 18 A) 1071 [] [.int s0] M 3 18 := by
  intro s0 M h
  unfold f_L_isSo_1071 at h
  obtain ⟨g262, h⟩ := gq_g_i h
  exact g_zretsN hC (by decide) (by decide) hr (gq_bb_i g262) h dL_isSo_1071
def f_L_isSo_1070 (N : Nat) (M : gq_M) : Option (Int32 × gq_M) :=
  f_L_isSo_1071 N  0 M
set_option maxHeartbeats 1000000 in
set_option maxRecDepth 20000 in
theorem t_L_isSo_1070 {N : Nat} {v9 : Int32} {M9 : gq_M} (hl9 : l.stackTraces = false) (hZ : gq_Zn A s) (hC : gq_C p s m args meth c D A cI cZ ad mtL RL cL_isSo 20) (hr : meth.sig.returnType = (some .boolean))   : ∀ (M : gq_M), f_L_isSo_1070 N   M = some (v9, M9) → gq_W p l e (gq_rl 10 3 18) s m args below meth c D A cI cZ ad mtL 20 (gq_NQ below D cI cZ ad mtL v9 M9 args s 3 18 A) 1070 [] [] M 3 18 := by
  intro  M h
  unfold f_L_isSo_1070 at h
  refine g_iconst (v := 0) hC (by decide) dL_isSo_1070 ?_
  exact g_weak [] rfl (t_L_isSo_1071 hl9 hZ hC hr  0 M h)
def f_L_isSo_1001 (N : Nat) (s0 : Int32) (s1 : Int32) (M : gq_M) : Option (Int32 × gq_M) :=
  if s0 = s1 then (gq_g (gq_in 4 56) (gq_l (M 119 (4 : Int32).toNatClampNeg) fun v245 => gq_b (f_L_does N 17 v245 0 0 0 0 0 M) fun v246 M248 => if v246 = (-300000000) then (gq_g (gq_in 5 56) (gq_l (M248 119 (5 : Int32).toNatClampNeg) fun v251 => gq_b (f_L_does N 18 v251 0 0 0 0 0 M248) fun v252 M254 => if v252 = (-300000000) then (gq_g (gq_in 1 56) (gq_l (M254 119 (1 : Int32).toNatClampNeg) fun v257 => gq_b (f_L_does N 19 0 (v257 + 1) 0 0 0 0 M254) fun v258 M260 => if v258 = (-200000000) then (f_L_isSo_1071 N  1 M260) else (f_L_isSo_1070 N   M260))) else (f_L_isSo_1070 N   M254))) else (f_L_isSo_1070 N   M248))) else (f_L_isSo_1070 N   M)
set_option maxHeartbeats 1000000 in
set_option maxRecDepth 20000 in
theorem t_L_isSo_1001 {N : Nat} {v9 : Int32} {M9 : gq_M} (hl9 : l.stackTraces = false) (hZ : gq_Zn A s) (hC : gq_C p s m args meth c D A cI cZ ad mtL RL cL_isSo 20) (hr : meth.sig.returnType = (some .boolean))   : ∀ (s0 : Int32) (s1 : Int32) (M : gq_M), f_L_isSo_1001 N  s0 s1 M = some (v9, M9) → gq_W p l e (gq_rl 10 3 18) s m args below meth c D A cI cZ ad mtL 20 (gq_NQ below D cI cZ ad mtL v9 M9 args s 3 18 A) 1001 [(0, .ref (ad 0)), (8, .ref (ad 119))] [.int s1, .int s0] M 0 0 := by
  intro s0 s1 M h
  unfold f_L_isSo_1001 at h
  refine g_icmp_ne (tgt := 1070) hC (by decide) dL_isSo_1001 (fun c243 => ?_) (fun c243 => ?_)
  · replace h := gq_f c243 h
    refine g_widen (kc2 := 3) (ks2 := 18) (by decide) (by decide) ?_
    exact g_weak [] rfl (t_L_isSo_1070 hl9 hZ hC hr   M h)
  · replace h := gq_t c243 h
    refine g_aload_n hC 0 rfl rfl dL_isSo_1004 ?_
    refine g_bipush (v := 17) hC (by decide) dL_isSo_1005 ?_
    refine g_aload hC 1 rfl dL_isSo_1007 ?_
    refine g_iconst (v := 4) hC (by decide) dL_isSo_1009 ?_
    obtain ⟨g244, h⟩ := gq_g_i h
    refine g_iald hC arL_119 (gq_in_i g244) dL_isSo_1010 ?_
    refine g_topi (fun v245 hv245 => ?_)
    replace h := gq_l_i hv245 h
    refine g_iconst (v := 0) hC (by decide) dL_isSo_1011 ?_
    refine g_iconst (v := 0) hC (by decide) dL_isSo_1012 ?_
    refine g_iconst (v := 0) hC (by decide) dL_isSo_1013 ?_
    refine g_iconst (v := 0) hC (by decide) dL_isSo_1014 ?_
    refine g_iconst (v := 0) hC (by decide) dL_isSo_1015 ?_
    obtain ⟨v246, M248, c247, h⟩ := gq_b_i h
    refine g_LNH (as := [.ref (ad 0), .int 17, .int v245, .int 0, .int 0, .int 0, .int 0, .int 0]) hC hZ (t_L_does hl9 N _ _ _ _ _ _ _ _ _ _ c247) mH_L_does wm_L_183 rfl rfl (Nat.le_of_ble_eq_true rfl) ⟨Nat.le_of_ble_eq_true rfl, Nat.le_of_ble_eq_true rfl⟩ ⟨Nat.le_of_ble_eq_true rfl, Nat.le_of_ble_eq_true rfl⟩ dL_isSo_1016 ?_
    refine g_ldc (v := (-300000000)) hC wk_L_84 dL_isSo_1019 ?_
    refine g_icmp_ne (tgt := 1070) hC (by decide) dL_isSo_1021 (fun c249 => ?_) (fun c249 => ?_)
    · replace h := gq_f c249 h
      refine g_widen (kc2 := 3) (ks2 := 18) (by decide) (by decide) ?_
      exact g_weak [] rfl (t_L_isSo_1070 hl9 hZ hC hr   M248 h)
    · replace h := gq_t c249 h
      refine g_aload_n hC 0 rfl rfl dL_isSo_1024 ?_
      refine g_bipush (v := 18) hC (by decide) dL_isSo_1025 ?_
      refine g_aload hC 1 rfl dL_isSo_1027 ?_
      refine g_iconst (v := 5) hC (by decide) dL_isSo_1029 ?_
      obtain ⟨g250, h⟩ := gq_g_i h
      refine g_iald hC arL_119 (gq_in_i g250) dL_isSo_1030 ?_
      refine g_topi (fun v251 hv251 => ?_)
      replace h := gq_l_i hv251 h
      refine g_iconst (v := 0) hC (by decide) dL_isSo_1031 ?_
      refine g_iconst (v := 0) hC (by decide) dL_isSo_1032 ?_
      refine g_iconst (v := 0) hC (by decide) dL_isSo_1033 ?_
      refine g_iconst (v := 0) hC (by decide) dL_isSo_1034 ?_
      refine g_iconst (v := 0) hC (by decide) dL_isSo_1035 ?_
      obtain ⟨v252, M254, c253, h⟩ := gq_b_i h
      refine g_LNH (as := [.ref (ad 0), .int 18, .int v251, .int 0, .int 0, .int 0, .int 0, .int 0]) hC hZ (t_L_does hl9 N _ _ _ _ _ _ _ _ _ _ c253) mH_L_does wm_L_183 rfl rfl (Nat.le_of_ble_eq_true rfl) ⟨Nat.le_of_ble_eq_true rfl, Nat.le_of_ble_eq_true rfl⟩ ⟨Nat.le_of_ble_eq_true rfl, Nat.le_of_ble_eq_true rfl⟩ dL_isSo_1036 ?_
      refine g_ldc (v := (-300000000)) hC wk_L_84 dL_isSo_1039 ?_
      refine g_icmp_ne (tgt := 1070) hC (by decide) dL_isSo_1041 (fun c255 => ?_) (fun c255 => ?_)
      · replace h := gq_f c255 h
        refine g_widen (kc2 := 3) (ks2 := 18) (by decide) (by decide) ?_
        exact g_weak [] rfl (t_L_isSo_1070 hl9 hZ hC hr   M254 h)
      · replace h := gq_t c255 h
        refine g_aload_n hC 0 rfl rfl dL_isSo_1044 ?_
        refine g_bipush (v := 19) hC (by decide) dL_isSo_1045 ?_
        refine g_iconst (v := 0) hC (by decide) dL_isSo_1047 ?_
        refine g_aload hC 1 rfl dL_isSo_1048 ?_
        refine g_iconst (v := 1) hC (by decide) dL_isSo_1050 ?_
        obtain ⟨g256, h⟩ := gq_g_i h
        refine g_iald hC arL_119 (gq_in_i g256) dL_isSo_1051 ?_
        refine g_topi (fun v257 hv257 => ?_)
        replace h := gq_l_i hv257 h
        refine g_iconst (v := 1) hC (by decide) dL_isSo_1052 ?_
        refine g_iadd hC dL_isSo_1053 ?_
        refine g_iconst (v := 0) hC (by decide) dL_isSo_1054 ?_
        refine g_iconst (v := 0) hC (by decide) dL_isSo_1055 ?_
        refine g_iconst (v := 0) hC (by decide) dL_isSo_1056 ?_
        refine g_iconst (v := 0) hC (by decide) dL_isSo_1057 ?_
        obtain ⟨v258, M260, c259, h⟩ := gq_b_i h
        refine g_LNH (as := [.ref (ad 0), .int 19, .int 0, .int (v257 + 1), .int 0, .int 0, .int 0, .int 0]) hC hZ (t_L_does hl9 N _ _ _ _ _ _ _ _ _ _ c259) mH_L_does wm_L_183 rfl rfl (Nat.le_of_ble_eq_true rfl) ⟨Nat.le_of_ble_eq_true rfl, Nat.le_of_ble_eq_true rfl⟩ ⟨Nat.le_of_ble_eq_true rfl, Nat.le_of_ble_eq_true rfl⟩ dL_isSo_1058 ?_
        refine g_ldc (v := (-200000000)) hC wk_L_87 dL_isSo_1061 ?_
        refine g_icmp_ne (tgt := 1070) hC (by decide) dL_isSo_1063 (fun c261 => ?_) (fun c261 => ?_)
        · replace h := gq_f c261 h
          exact g_weak [] rfl (t_L_isSo_1070 hl9 hZ hC hr   M260 h)
        · replace h := gq_t c261 h
          refine g_iconst (v := 1) hC (by decide) dL_isSo_1066 ?_
          refine g_goto (tgt := 1071) hC (by decide) dL_isSo_1067 ?_
          exact g_weak [] rfl (t_L_isSo_1071 hl9 hZ hC hr  1 M260 h)
def f_L_isSo_974 (N : Nat) (x13 : Int32) (x14 : Int32) (x15 : Int32) (x16 : Int32) (x17 : Int32) (M : gq_M) : Option (Int32 × gq_M) :=
  if x13 = 0 then (f_L_isSo_1070 N   M) else (gq_y0 (f_X9_average N x14 x15 M) fun v238 Cv238 => gq_l (mrg 109 Cv238 M) fun M240 => if x17 = 0 then (f_L_isSo_1001 N  v238 (-1) M240) else (gq_g (gq_nz x17) (f_L_isSo_1001 N  v238 (x16 / x17) M240)))
set_option maxHeartbeats 1000000 in
set_option maxRecDepth 20000 in
theorem t_L_isSo_974 {N : Nat} {v9 : Int32} {M9 : gq_M} (hl9 : l.stackTraces = false) (hZ : gq_Zn A s) (hC : gq_C p s m args meth c D A cI cZ ad mtL RL cL_isSo 20) (hr : meth.sig.returnType = (some .boolean))   : ∀ (x13 : Int32) (x14 : Int32) (x15 : Int32) (x16 : Int32) (x17 : Int32) (M : gq_M), f_L_isSo_974 N  x13 x14 x15 x16 x17 M = some (v9, M9) → gq_W p l e (gq_rl 10 3 18) s m args below meth c D A cI cZ ad mtL 20 (gq_NQ below D cI cZ ad mtL v9 M9 args s 3 18 A) 974 [(0, .ref (ad 0)), (8, .ref (ad 119)), (13, .int x13), (14, .int x14), (15, .int x15), (16, .int x16), (17, .int x17)] [] M 0 0 := by
  intro x13 x14 x15 x16 x17 M h
  unfold f_L_isSo_974 at h
  refine g_iload hC 2 rfl dL_isSo_974 ?_
  refine g_if_eq (tgt := 1070) hC (by decide) dL_isSo_976 (fun c237 => ?_) (fun c237 => ?_)
  · replace h := gq_t c237 h
    refine g_widen (kc2 := 3) (ks2 := 18) (by decide) (by decide) ?_
    exact g_weak [] rfl (t_L_isSo_1070 hl9 hZ hC hr   M h)
  · replace h := gq_f c237 h
    refine g_aload_n hC 0 rfl rfl dL_isSo_979 ?_
    refine g_iload hC 3 rfl dL_isSo_980 ?_
    refine g_iload hC 4 rfl dL_isSo_982 ?_
    obtain ⟨v238, Cv238, c239, h⟩ := gq_y0_i h
    refine g_LXi (mt1 := mtC) (mt2 := mtA) (as := [.int x14, .int x15]) hC hZ.1 (t_X9_average hl9 N _ _ _ _ _ _ c239) mV_X9_average wm_L_76 obC_0 rfl rfl (Nat.le_of_ble_eq_true rfl) ⟨Nat.le_of_ble_eq_true rfl, Nat.le_of_ble_eq_true rfl⟩ ⟨Nat.le_of_ble_eq_true rfl, Nat.le_of_ble_eq_true rfl⟩ dL_isSo_984 mtC_len (fun _ => ?_) (fun hx => absurd rfl hx)
    refine g_widen (kc2 := 0) (ks2 := 0) (Nat.le_refl _) (Nat.le_refl _) ?_
    refine g_topM (fun M240 hM240 => ?_)
    replace h := gq_l_i hM240 h
    refine g_iload hC 6 rfl dL_isSo_987 ?_
    refine g_if_ne (tgt := 996) hC (by decide) dL_isSo_989 (fun c241 => ?_) (fun c241 => ?_)
    · replace h := gq_f c241 h
      refine g_iload hC 5 rfl dL_isSo_996 ?_
      refine g_iload hC 6 rfl dL_isSo_998 ?_
      obtain ⟨g242, h⟩ := gq_g_i h
      refine g_idiv hC (gq_nz_i g242) dL_isSo_1000 ?_
      exact g_weak [0, 1] rfl (t_L_isSo_1001 hl9 hZ hC hr  v238 (x16 / x17) M240 h)
    · replace h := gq_t c241 h
      refine g_iconst (v := (-1)) hC (by decide) dL_isSo_992 ?_
      refine g_goto (tgt := 1001) hC (by decide) dL_isSo_993 ?_
      exact g_weak [0, 1] rfl (t_L_isSo_1001 hl9 hZ hC hr  v238 (-1) M240 h)
def f_L_isSo_966 (N : Nat) (kh928 : Int32 → Int32 → Int32 → Int32 → Int32 → Int32 → gq_M → Option (Int32 × gq_M)) (x14 : Int32) (x15 : Int32) (x16 : Int32) (x17 : Int32) (x18 : Int32) (s0 : Int32) (M : gq_M) : Option (Int32 × gq_M) :=
  kh928 s0 x14 x15 x16 x17 (x18 + 1) M
set_option maxHeartbeats 1000000 in
set_option maxRecDepth 20000 in
theorem t_L_isSo_966 {N : Nat} {kh928 : Int32 → Int32 → Int32 → Int32 → Int32 → Int32 → gq_M → Option (Int32 × gq_M)} {v9 : Int32} {M9 : gq_M} (hl9 : l.stackTraces = false) (hZ : gq_Zn A s) (hC : gq_C p s m args meth c D A cI cZ ad mtL RL cL_isSo 20) (hr : meth.sig.returnType = (some .boolean)) (hk928 : ∀ (x13 : Int32) (x14 : Int32) (x15 : Int32) (x16 : Int32) (x17 : Int32) (x18 : Int32) (M : gq_M), kh928 x13 x14 x15 x16 x17 x18 M = some (v9, M9) → gq_W p l e (gq_rl 10 3 18) s m args below meth c D A cI cZ ad mtL 20 (gq_NQ below D cI cZ ad mtL v9 M9 args s 3 18 A) 928 [(0, .ref (ad 0)), (8, .ref (ad 119)), (11, .ref (ad 122)), (13, .int x13), (14, .int x14), (15, .int x15), (16, .int x16), (17, .int x17), (18, .int x18)] [] M 0 0)  : ∀ (x14 : Int32) (x15 : Int32) (x16 : Int32) (x17 : Int32) (x18 : Int32) (s0 : Int32) (M : gq_M), f_L_isSo_966 N kh928 x14 x15 x16 x17 x18 s0 M = some (v9, M9) → gq_W p l e (gq_rl 10 3 18) s m args below meth c D A cI cZ ad mtL 20 (gq_NQ below D cI cZ ad mtL v9 M9 args s 3 18 A) 966 [(0, .ref (ad 0)), (8, .ref (ad 119)), (11, .ref (ad 122)), (14, .int x14), (15, .int x15), (16, .int x16), (17, .int x17), (18, .int x18)] [.int s0] M 0 0 := by
  intro x14 x15 x16 x17 x18 s0 M h
  unfold f_L_isSo_966 at h
  refine g_istore (L2 := [(13, .int s0), (0, .ref (ad 0)), (8, .ref (ad 119)), (11, .ref (ad 122)), (14, .int x14), (15, .int x15), (16, .int x16), (17, .int x17), (18, .int x18)]) hC (by decide) rfl dL_isSo_966 ?_
  refine g_iinc (v := (x18 + 1)) (L2 := [(18, .int (x18 + 1)), (13, .int s0), (0, .ref (ad 0)), (8, .ref (ad 119)), (11, .ref (ad 122)), (14, .int x14), (15, .int x15), (16, .int x16), (17, .int x17)]) hC 8 rfl (by first | rfl | decide) (by decide) rfl dL_isSo_968 ?_
  refine g_goto (tgt := 928) hC (by decide) dL_isSo_971 ?_
  exact g_weak [2, 3, 4, 1, 5, 6, 7, 8, 0] rfl (hk928 s0 x14 x15 x16 x17 (x18 + 1) M h)
def f_L_isSo_928_b (N : Nat) (kh928 : Int32 → Int32 → Int32 → Int32 → Int32 → Int32 → gq_M → Option (Int32 × gq_M)) (x13 : Int32) (x14 : Int32) (x15 : Int32) (x16 : Int32) (x17 : Int32) (x18 : Int32) (M : gq_M) : Option (Int32 × gq_M) :=
  gq_g (gq_in 6 56) (gq_l (M 119 (6 : Int32).toNatClampNeg) fun v228 => if v228 ≤ x18 then (f_L_isSo_974 N  x13 x14 x15 x16 x17 M) else (if x13 = 0 then (f_L_isSo_974 N  x13 x14 x15 x16 x17 M) else (gq_y0 (f_X9_loaded N x18 M) fun v231 Cv231 => gq_l (mrg 109 Cv231 M) fun M233 => gq_g (gq_in ((4 * x18) + 3) 40) (gq_l (M233 122 (((4 * x18) + 3) : Int32).toNatClampNeg) fun v235 => if v231 = v235 then (f_L_isSo_966 N kh928 x14 x15 x16 x17 x18 1 M233) else (f_L_isSo_966 N kh928 x14 x15 x16 x17 x18 0 M233)))))
def f_L_isSo_928 (N : Nat) : Nat → Int32 → Int32 → Int32 → Int32 → Int32 → Int32 → gq_M → Option (Int32 × gq_M)
  | 0 => fun _ _ _ _ _ _ _ => none
  | n9 + 1 => f_L_isSo_928_b N  (f_L_isSo_928 N  n9)
set_option maxHeartbeats 1000000 in
set_option maxRecDepth 20000 in
theorem t_L_isSo_928_b {N : Nat} {kh928 : Int32 → Int32 → Int32 → Int32 → Int32 → Int32 → gq_M → Option (Int32 × gq_M)} {v9 : Int32} {M9 : gq_M} (hl9 : l.stackTraces = false) (hZ : gq_Zn A s) (hC : gq_C p s m args meth c D A cI cZ ad mtL RL cL_isSo 20) (hr : meth.sig.returnType = (some .boolean))  (hk928 : ∀ (x13 : Int32) (x14 : Int32) (x15 : Int32) (x16 : Int32) (x17 : Int32) (x18 : Int32) (M : gq_M), kh928 x13 x14 x15 x16 x17 x18 M = some (v9, M9) → gq_W p l e (gq_rl 10 3 18) s m args below meth c D A cI cZ ad mtL 20 (gq_NQ below D cI cZ ad mtL v9 M9 args s 3 18 A) 928 [(0, .ref (ad 0)), (8, .ref (ad 119)), (11, .ref (ad 122)), (13, .int x13), (14, .int x14), (15, .int x15), (16, .int x16), (17, .int x17), (18, .int x18)] [] M 0 0) : ∀ (x13 : Int32) (x14 : Int32) (x15 : Int32) (x16 : Int32) (x17 : Int32) (x18 : Int32) (M : gq_M), f_L_isSo_928_b N  kh928 x13 x14 x15 x16 x17 x18 M = some (v9, M9) → gq_W p l e (gq_rl 10 3 18) s m args below meth c D A cI cZ ad mtL 20 (gq_NQ below D cI cZ ad mtL v9 M9 args s 3 18 A) 928 [(0, .ref (ad 0)), (8, .ref (ad 119)), (11, .ref (ad 122)), (13, .int x13), (14, .int x14), (15, .int x15), (16, .int x16), (17, .int x17), (18, .int x18)] [] M 0 0 := by
  intro x13 x14 x15 x16 x17 x18 M h
  unfold f_L_isSo_928_b at h
  refine g_iload hC 8 rfl dL_isSo_928 ?_
  refine g_aload hC 1 rfl dL_isSo_930 ?_
  refine g_bipush (v := 6) hC (by decide) dL_isSo_932 ?_
  obtain ⟨g227, h⟩ := gq_g_i h
  refine g_iald hC arL_119 (gq_in_i g227) dL_isSo_934 ?_
  refine g_topi (fun v228 hv228 => ?_)
  replace h := gq_l_i hv228 h
  refine g_icmp_ge (tgt := 974) hC (by decide) dL_isSo_935 (fun c229 => ?_) (fun c229 => ?_)
  · replace h := gq_t c229 h
    exact g_weak [0, 1, 3, 4, 5, 6, 7] rfl (t_L_isSo_974 hl9 hZ hC hr  x13 x14 x15 x16 x17 M h)
  · replace h := gq_f c229 h
    refine g_iload hC 3 rfl dL_isSo_938 ?_
    refine g_if_eq (tgt := 974) hC (by decide) dL_isSo_940 (fun c230 => ?_) (fun c230 => ?_)
    · replace h := gq_t c230 h
      exact g_weak [0, 1, 3, 4, 5, 6, 7] rfl (t_L_isSo_974 hl9 hZ hC hr  x13 x14 x15 x16 x17 M h)
    · replace h := gq_f c230 h
      refine g_aload_n hC 0 rfl rfl dL_isSo_943 ?_
      refine g_iload hC 8 rfl dL_isSo_944 ?_
      obtain ⟨v231, Cv231, c232, h⟩ := gq_y0_i h
      refine g_LXi (mt1 := mtC) (mt2 := mtA) (as := [.int x18]) hC hZ.1 (t_X9_loaded hl9 N _ _ _ _ _ c232) mV_X9_loaded wm_L_79 obC_0 rfl rfl (Nat.le_of_ble_eq_true rfl) ⟨Nat.le_of_ble_eq_true rfl, Nat.le_of_ble_eq_true rfl⟩ ⟨Nat.le_of_ble_eq_true rfl, Nat.le_of_ble_eq_true rfl⟩ dL_isSo_946 mtC_len (fun _ => ?_) (fun hx => absurd rfl hx)
      refine g_widen (kc2 := 0) (ks2 := 0) (Nat.le_refl _) (Nat.le_refl _) ?_
      refine g_topM (fun M233 hM233 => ?_)
      replace h := gq_l_i hM233 h
      refine g_aload hC 2 rfl dL_isSo_949 ?_
      refine g_iconst (v := 4) hC (by decide) dL_isSo_951 ?_
      refine g_iload hC 8 rfl dL_isSo_952 ?_
      refine g_imul hC dL_isSo_954 ?_
      refine g_iconst (v := 3) hC (by decide) dL_isSo_955 ?_
      refine g_iadd hC dL_isSo_956 ?_
      obtain ⟨g234, h⟩ := gq_g_i h
      refine g_iald hC arL_122 (gq_in_i g234) dL_isSo_957 ?_
      refine g_topi (fun v235 hv235 => ?_)
      replace h := gq_l_i hv235 h
      refine g_icmp_ne (tgt := 965) hC (by decide) dL_isSo_958 (fun c236 => ?_) (fun c236 => ?_)
      · replace h := gq_f c236 h
        refine g_iconst (v := 0) hC (by decide) dL_isSo_965 ?_
        exact g_weak [0, 1, 2, 4, 5, 6, 7, 8] rfl (t_L_isSo_966 hl9 hZ hC hr hk928 x14 x15 x16 x17 x18 0 M233 h)
      · replace h := gq_t c236 h
        refine g_iconst (v := 1) hC (by decide) dL_isSo_961 ?_
        refine g_goto (tgt := 966) hC (by decide) dL_isSo_962 ?_
        exact g_weak [0, 1, 2, 4, 5, 6, 7, 8] rfl (t_L_isSo_966 hl9 hZ hC hr hk928 x14 x15 x16 x17 x18 1 M233 h)
theorem t_L_isSo_928 {N : Nat} {v9 : Int32} {M9 : gq_M} (hl9 : l.stackTraces = false) (hZ : gq_Zn A s) (hC : gq_C p s m args meth c D A cI cZ ad mtL RL cL_isSo 20) (hr : meth.sig.returnType = (some .boolean))  : ∀ (n9 : Nat) (x13 : Int32) (x14 : Int32) (x15 : Int32) (x16 : Int32) (x17 : Int32) (x18 : Int32) (M : gq_M), f_L_isSo_928 N  n9 x13 x14 x15 x16 x17 x18 M = some (v9, M9) → gq_W p l e (gq_rl 10 3 18) s m args below meth c D A cI cZ ad mtL 20 (gq_NQ below D cI cZ ad mtL v9 M9 args s 3 18 A) 928 [(0, .ref (ad 0)), (8, .ref (ad 119)), (11, .ref (ad 122)), (13, .int x13), (14, .int x14), (15, .int x15), (16, .int x16), (17, .int x17), (18, .int x18)] [] M 0 0 := by
  intro n9
  induction n9 with
  | zero => intro x13 x14 x15 x16 x17 x18 M h; cases h
  | succ n9 ih => intro x13 x14 x15 x16 x17 x18 M h; exact t_L_isSo_928_b hl9 hZ hC hr  ih x13 x14 x15 x16 x17 x18 M h
def f_L_isSo_916 (N : Nat) (kh815 : Int32 → Int32 → Int32 → Int32 → Int32 → Int32 → gq_M → Option (Int32 × gq_M)) (x13 : Int32) (x14 : Int32) (x15 : Int32) (x16 : Int32) (x18 : Int32) (s0 : Int32) (s1 : Int32) (M : gq_M) : Option (Int32 × gq_M) :=
  kh815 x13 x14 x15 x16 (s0 + s1) (x18 + 1) M
set_option maxHeartbeats 1000000 in
set_option maxRecDepth 20000 in
theorem t_L_isSo_916 {N : Nat} {kh815 : Int32 → Int32 → Int32 → Int32 → Int32 → Int32 → gq_M → Option (Int32 × gq_M)} {v9 : Int32} {M9 : gq_M} (hl9 : l.stackTraces = false) (hZ : gq_Zn A s) (hC : gq_C p s m args meth c D A cI cZ ad mtL RL cL_isSo 20) (hr : meth.sig.returnType = (some .boolean)) (hk815 : ∀ (x13 : Int32) (x14 : Int32) (x15 : Int32) (x16 : Int32) (x17 : Int32) (x18 : Int32) (M : gq_M), kh815 x13 x14 x15 x16 x17 x18 M = some (v9, M9) → gq_W p l e (gq_rl 10 3 18) s m args below meth c D A cI cZ ad mtL 20 (gq_NQ below D cI cZ ad mtL v9 M9 args s 3 18 A) 815 [(0, .ref (ad 0)), (1, .ref (ad 109)), (2, .ref (ad 110)), (4, .ref (ad 112)), (5, .ref (ad 113)), (8, .ref (ad 119)), (11, .ref (ad 122)), (13, .int x13), (14, .int x14), (15, .int x15), (16, .int x16), (17, .int x17), (18, .int x18)] [] M 0 0)  : ∀ (x13 : Int32) (x14 : Int32) (x15 : Int32) (x16 : Int32) (x18 : Int32) (s0 : Int32) (s1 : Int32) (M : gq_M), f_L_isSo_916 N kh815 x13 x14 x15 x16 x18 s0 s1 M = some (v9, M9) → gq_W p l e (gq_rl 10 3 18) s m args below meth c D A cI cZ ad mtL 20 (gq_NQ below D cI cZ ad mtL v9 M9 args s 3 18 A) 916 [(0, .ref (ad 0)), (1, .ref (ad 109)), (2, .ref (ad 110)), (4, .ref (ad 112)), (5, .ref (ad 113)), (8, .ref (ad 119)), (11, .ref (ad 122)), (13, .int x13), (14, .int x14), (15, .int x15), (16, .int x16), (18, .int x18)] [.int s1, .int s0] M 0 0 := by
  intro x13 x14 x15 x16 x18 s0 s1 M h
  unfold f_L_isSo_916 at h
  refine g_iadd hC dL_isSo_916 ?_
  refine g_istore (L2 := [(17, .int (s0 + s1)), (0, .ref (ad 0)), (1, .ref (ad 109)), (2, .ref (ad 110)), (4, .ref (ad 112)), (5, .ref (ad 113)), (8, .ref (ad 119)), (11, .ref (ad 122)), (13, .int x13), (14, .int x14), (15, .int x15), (16, .int x16), (18, .int x18)]) hC (by decide) rfl dL_isSo_917 ?_
  refine g_iinc (v := (x18 + 1)) (L2 := [(18, .int (x18 + 1)), (17, .int (s0 + s1)), (0, .ref (ad 0)), (1, .ref (ad 109)), (2, .ref (ad 110)), (4, .ref (ad 112)), (5, .ref (ad 113)), (8, .ref (ad 119)), (11, .ref (ad 122)), (13, .int x13), (14, .int x14), (15, .int x15), (16, .int x16)]) hC 12 rfl (by first | rfl | decide) (by decide) rfl dL_isSo_919 ?_
  refine g_goto (tgt := 815) hC (by decide) dL_isSo_922 ?_
  exact g_weak [2, 3, 4, 5, 6, 7, 8, 9, 10, 11, 12, 1, 0] rfl (hk815 x13 x14 x15 x16 (s0 + s1) (x18 + 1) M h)
def f_L_isSo_894 (N : Nat) (kh815 : Int32 → Int32 → Int32 → Int32 → Int32 → Int32 → gq_M → Option (Int32 × gq_M)) (x13 : Int32) (x14 : Int32) (x15 : Int32) (x17 : Int32) (x18 : Int32) (x19 : Int32) (s0 : Int32) (s1 : Int32) (M : gq_M) : Option (Int32 × gq_M) :=
  if x19 = 0 then (f_L_isSo_916 N kh815 x13 x14 x15 (s0 + s1) x18 x17 0 M) else (gq_g (gq_in x18 40) (gq_l (M 110 x18.toNatClampNeg) fun v226 => f_L_isSo_916 N kh815 x13 x14 x15 (s0 + s1) x18 x17 (v226 - v226 / 128 * 128) M))
set_option maxHeartbeats 1000000 in
set_option maxRecDepth 20000 in
theorem t_L_isSo_894 {N : Nat} {kh815 : Int32 → Int32 → Int32 → Int32 → Int32 → Int32 → gq_M → Option (Int32 × gq_M)} {v9 : Int32} {M9 : gq_M} (hl9 : l.stackTraces = false) (hZ : gq_Zn A s) (hC : gq_C p s m args meth c D A cI cZ ad mtL RL cL_isSo 20) (hr : meth.sig.returnType = (some .boolean)) (hk815 : ∀ (x13 : Int32) (x14 : Int32) (x15 : Int32) (x16 : Int32) (x17 : Int32) (x18 : Int32) (M : gq_M), kh815 x13 x14 x15 x16 x17 x18 M = some (v9, M9) → gq_W p l e (gq_rl 10 3 18) s m args below meth c D A cI cZ ad mtL 20 (gq_NQ below D cI cZ ad mtL v9 M9 args s 3 18 A) 815 [(0, .ref (ad 0)), (1, .ref (ad 109)), (2, .ref (ad 110)), (4, .ref (ad 112)), (5, .ref (ad 113)), (8, .ref (ad 119)), (11, .ref (ad 122)), (13, .int x13), (14, .int x14), (15, .int x15), (16, .int x16), (17, .int x17), (18, .int x18)] [] M 0 0)  : ∀ (x13 : Int32) (x14 : Int32) (x15 : Int32) (x17 : Int32) (x18 : Int32) (x19 : Int32) (s0 : Int32) (s1 : Int32) (M : gq_M), f_L_isSo_894 N kh815 x13 x14 x15 x17 x18 x19 s0 s1 M = some (v9, M9) → gq_W p l e (gq_rl 10 3 18) s m args below meth c D A cI cZ ad mtL 20 (gq_NQ below D cI cZ ad mtL v9 M9 args s 3 18 A) 894 [(0, .ref (ad 0)), (1, .ref (ad 109)), (2, .ref (ad 110)), (4, .ref (ad 112)), (5, .ref (ad 113)), (8, .ref (ad 119)), (11, .ref (ad 122)), (13, .int x13), (14, .int x14), (15, .int x15), (17, .int x17), (18, .int x18), (19, .int x19)] [.int s1, .int s0] M 0 0 := by
  intro x13 x14 x15 x17 x18 x19 s0 s1 M h
  unfold f_L_isSo_894 at h
  refine g_iadd hC dL_isSo_894 ?_
  refine g_istore (L2 := [(16, .int (s0 + s1)), (0, .ref (ad 0)), (1, .ref (ad 109)), (2, .ref (ad 110)), (4, .ref (ad 112)), (5, .ref (ad 113)), (8, .ref (ad 119)), (11, .ref (ad 122)), (13, .int x13), (14, .int x14), (15, .int x15), (17, .int x17), (18, .int x18), (19, .int x19)]) hC (by decide) rfl dL_isSo_895 ?_
  refine g_iload hC 11 rfl dL_isSo_897 ?_
  refine g_iload hC 13 rfl dL_isSo_899 ?_
  refine g_if_eq (tgt := 915) hC (by decide) dL_isSo_901 (fun c224 => ?_) (fun c224 => ?_)
  · replace h := gq_t c224 h
    refine g_iconst (v := 0) hC (by decide) dL_isSo_915 ?_
    exact g_weak [1, 2, 3, 4, 5, 6, 7, 8, 9, 10, 0, 12] rfl (t_L_isSo_916 hl9 hZ hC hr hk815 x13 x14 x15 (s0 + s1) x18 x17 0 M h)
  · replace h := gq_f c224 h
    refine g_aload_n hC 3 rfl rfl dL_isSo_904 ?_
    refine g_iload hC 12 rfl dL_isSo_905 ?_
    obtain ⟨g225, h⟩ := gq_g_i h
    refine g_iald hC arL_110 (gq_in_i g225) dL_isSo_907 ?_
    refine g_topi (fun v226 hv226 => ?_)
    replace h := gq_l_i hv226 h
    refine g_sipush (v := 128) hC (by decide) dL_isSo_908 ?_
    refine g_irem hC (by decide) dL_isSo_911 ?_
    refine g_goto (tgt := 916) hC (by decide) dL_isSo_912 ?_
    exact g_weak [1, 2, 3, 4, 5, 6, 7, 8, 9, 10, 0, 12] rfl (t_L_isSo_916 hl9 hZ hC hr hk815 x13 x14 x15 (s0 + s1) x18 x17 (v226 - v226 / 128 * 128) M h)
def f_L_isSo_864 (N : Nat) (kh815 : Int32 → Int32 → Int32 → Int32 → Int32 → Int32 → gq_M → Option (Int32 × gq_M)) (x13 : Int32) (x14 : Int32) (x15 : Int32) (x16 : Int32) (x17 : Int32) (x18 : Int32) (s0 : Int32) (M : gq_M) : Option (Int32 × gq_M) :=
  if s0 = 0 then (f_L_isSo_894 N kh815 x13 x14 x15 x17 x18 s0 x16 0 M) else (gq_g (gq_in x18 40) (gq_l (M 110 x18.toNatClampNeg) fun v221 => gq_g (gq_in x18 40) (gq_l (M 112 x18.toNatClampNeg) fun v223 => f_L_isSo_894 N kh815 x13 x14 x15 x17 x18 s0 x16 ((v221 - v221 / 128 * 128) * (v223 / 16)) M)))
set_option maxHeartbeats 1000000 in
set_option maxRecDepth 20000 in
theorem t_L_isSo_864 {N : Nat} {kh815 : Int32 → Int32 → Int32 → Int32 → Int32 → Int32 → gq_M → Option (Int32 × gq_M)} {v9 : Int32} {M9 : gq_M} (hl9 : l.stackTraces = false) (hZ : gq_Zn A s) (hC : gq_C p s m args meth c D A cI cZ ad mtL RL cL_isSo 20) (hr : meth.sig.returnType = (some .boolean)) (hk815 : ∀ (x13 : Int32) (x14 : Int32) (x15 : Int32) (x16 : Int32) (x17 : Int32) (x18 : Int32) (M : gq_M), kh815 x13 x14 x15 x16 x17 x18 M = some (v9, M9) → gq_W p l e (gq_rl 10 3 18) s m args below meth c D A cI cZ ad mtL 20 (gq_NQ below D cI cZ ad mtL v9 M9 args s 3 18 A) 815 [(0, .ref (ad 0)), (1, .ref (ad 109)), (2, .ref (ad 110)), (4, .ref (ad 112)), (5, .ref (ad 113)), (8, .ref (ad 119)), (11, .ref (ad 122)), (13, .int x13), (14, .int x14), (15, .int x15), (16, .int x16), (17, .int x17), (18, .int x18)] [] M 0 0)  : ∀ (x13 : Int32) (x14 : Int32) (x15 : Int32) (x16 : Int32) (x17 : Int32) (x18 : Int32) (s0 : Int32) (M : gq_M), f_L_isSo_864 N kh815 x13 x14 x15 x16 x17 x18 s0 M = some (v9, M9) → gq_W p l e (gq_rl 10 3 18) s m args below meth c D A cI cZ ad mtL 20 (gq_NQ below D cI cZ ad mtL v9 M9 args s 3 18 A) 864 [(0, .ref (ad 0)), (1, .ref (ad 109)), (2, .ref (ad 110)), (4, .ref (ad 112)), (5, .ref (ad 113)), (8, .ref (ad 119)), (11, .ref (ad 122)), (13, .int x13), (14, .int x14), (15, .int x15), (16, .int x16), (17, .int x17), (18, .int x18)] [.int s0] M 0 0 := by
  intro x13 x14 x15 x16 x17 x18 s0 M h
  unfold f_L_isSo_864 at h
  refine g_istore (L2 := [(19, .int s0), (0, .ref (ad 0)), (1, .ref (ad 109)), (2, .ref (ad 110)), (4, .ref (ad 112)), (5, .ref (ad 113)), (8, .ref (ad 119)), (11, .ref (ad 122)), (13, .int x13), (14, .int x14), (15, .int x15), (16, .int x16), (17, .int x17), (18, .int x18)]) hC (by decide) rfl dL_isSo_864 ?_
  refine g_iload hC 11 rfl dL_isSo_866 ?_
  refine g_iload hC 0 rfl dL_isSo_868 ?_
  refine g_if_eq (tgt := 893) hC (by decide) dL_isSo_870 (fun c219 => ?_) (fun c219 => ?_)
  · replace h := gq_t c219 h
    refine g_iconst (v := 0) hC (by decide) dL_isSo_893 ?_
    exact g_weak [1, 2, 3, 4, 5, 6, 7, 8, 9, 10, 12, 13, 0] rfl (t_L_isSo_894 hl9 hZ hC hr hk815 x13 x14 x15 x17 x18 s0 x16 0 M h)
  · replace h := gq_f c219 h
    refine g_aload_n hC 3 rfl rfl dL_isSo_873 ?_
    refine g_iload hC 13 rfl dL_isSo_874 ?_
    obtain ⟨g220, h⟩ := gq_g_i h
    refine g_iald hC arL_110 (gq_in_i g220) dL_isSo_876 ?_
    refine g_topi (fun v221 hv221 => ?_)
    replace h := gq_l_i hv221 h
    refine g_sipush (v := 128) hC (by decide) dL_isSo_877 ?_
    refine g_irem hC (by decide) dL_isSo_880 ?_
    refine g_aload hC 4 rfl dL_isSo_881 ?_
    refine g_iload hC 13 rfl dL_isSo_883 ?_
    obtain ⟨g222, h⟩ := gq_g_i h
    refine g_iald hC arL_112 (gq_in_i g222) dL_isSo_885 ?_
    refine g_topi (fun v223 hv223 => ?_)
    replace h := gq_l_i hv223 h
    refine g_bipush (v := 16) hC (by decide) dL_isSo_886 ?_
    refine g_idiv hC (by decide) dL_isSo_888 ?_
    refine g_imul hC dL_isSo_889 ?_
    refine g_goto (tgt := 894) hC (by decide) dL_isSo_890 ?_
    exact g_weak [1, 2, 3, 4, 5, 6, 7, 8, 9, 10, 12, 13, 0] rfl (t_L_isSo_894 hl9 hZ hC hr hk815 x13 x14 x15 x17 x18 s0 x16 ((v221 - v221 / 128 * 128) * (v223 / 16)) M h)
def f_L_isSo_863 (N : Nat) (kh815 : Int32 → Int32 → Int32 → Int32 → Int32 → Int32 → gq_M → Option (Int32 × gq_M)) (x13 : Int32) (x14 : Int32) (x15 : Int32) (x16 : Int32) (x17 : Int32) (x18 : Int32) (M : gq_M) : Option (Int32 × gq_M) :=
  f_L_isSo_864 N kh815 x13 x14 x15 x16 x17 x18 0 M
set_option maxHeartbeats 1000000 in
set_option maxRecDepth 20000 in
theorem t_L_isSo_863 {N : Nat} {kh815 : Int32 → Int32 → Int32 → Int32 → Int32 → Int32 → gq_M → Option (Int32 × gq_M)} {v9 : Int32} {M9 : gq_M} (hl9 : l.stackTraces = false) (hZ : gq_Zn A s) (hC : gq_C p s m args meth c D A cI cZ ad mtL RL cL_isSo 20) (hr : meth.sig.returnType = (some .boolean)) (hk815 : ∀ (x13 : Int32) (x14 : Int32) (x15 : Int32) (x16 : Int32) (x17 : Int32) (x18 : Int32) (M : gq_M), kh815 x13 x14 x15 x16 x17 x18 M = some (v9, M9) → gq_W p l e (gq_rl 10 3 18) s m args below meth c D A cI cZ ad mtL 20 (gq_NQ below D cI cZ ad mtL v9 M9 args s 3 18 A) 815 [(0, .ref (ad 0)), (1, .ref (ad 109)), (2, .ref (ad 110)), (4, .ref (ad 112)), (5, .ref (ad 113)), (8, .ref (ad 119)), (11, .ref (ad 122)), (13, .int x13), (14, .int x14), (15, .int x15), (16, .int x16), (17, .int x17), (18, .int x18)] [] M 0 0)  : ∀ (x13 : Int32) (x14 : Int32) (x15 : Int32) (x16 : Int32) (x17 : Int32) (x18 : Int32) (M : gq_M), f_L_isSo_863 N kh815 x13 x14 x15 x16 x17 x18 M = some (v9, M9) → gq_W p l e (gq_rl 10 3 18) s m args below meth c D A cI cZ ad mtL 20 (gq_NQ below D cI cZ ad mtL v9 M9 args s 3 18 A) 863 [(0, .ref (ad 0)), (1, .ref (ad 109)), (2, .ref (ad 110)), (4, .ref (ad 112)), (5, .ref (ad 113)), (8, .ref (ad 119)), (11, .ref (ad 122)), (13, .int x13), (14, .int x14), (15, .int x15), (16, .int x16), (17, .int x17), (18, .int x18)] [] M 0 0 := by
  intro x13 x14 x15 x16 x17 x18 M h
  unfold f_L_isSo_863 at h
  refine g_iconst (v := 0) hC (by decide) dL_isSo_863 ?_
  exact g_weak [0, 1, 2, 3, 4, 5, 6, 7, 8, 9, 10, 11, 12] rfl (t_L_isSo_864 hl9 hZ hC hr hk815 x13 x14 x15 x16 x17 x18 0 M h)
def f_L_isSo_815_b (N : Nat) (kh815 : Int32 → Int32 → Int32 → Int32 → Int32 → Int32 → gq_M → Option (Int32 × gq_M)) (x13 : Int32) (x14 : Int32) (x15 : Int32) (x16 : Int32) (x17 : Int32) (x18 : Int32) (M : gq_M) : Option (Int32 × gq_M) :=
  gq_g (gq_in 4 56) (gq_l (M 119 (4 : Int32).toNatClampNeg) fun v208 => if v208 ≤ x18 then (f_L_isSo_928 N  N x13 x14 x15 x16 x17 0 M) else (gq_g (gq_in x18 40) (gq_l (M 112 x18.toNatClampNeg) fun v211 => if v211 ≤ 0 then (f_L_isSo_863 N kh815 x13 x14 x15 x16 x17 x18 M) else (gq_g (gq_in x18 40) (gq_l (M 109 x18.toNatClampNeg) fun v214 => if ((v214 / 8) - (v214 / 8) / 4 * 4) = x14 then (gq_g (gq_in x18 40) (gq_l (M 113 x18.toNatClampNeg) fun v217 => if (v217 / 131072) = x15 then (f_L_isSo_864 N kh815 x13 x14 x15 x16 x17 x18 1 M) else (f_L_isSo_863 N kh815 x13 x14 x15 x16 x17 x18 M))) else (f_L_isSo_863 N kh815 x13 x14 x15 x16 x17 x18 M))))))
def f_L_isSo_815 (N : Nat) : Nat → Int32 → Int32 → Int32 → Int32 → Int32 → Int32 → gq_M → Option (Int32 × gq_M)
  | 0 => fun _ _ _ _ _ _ _ => none
  | n9 + 1 => f_L_isSo_815_b N  (f_L_isSo_815 N  n9)
set_option maxHeartbeats 1000000 in
set_option maxRecDepth 20000 in
theorem t_L_isSo_815_b {N : Nat} {kh815 : Int32 → Int32 → Int32 → Int32 → Int32 → Int32 → gq_M → Option (Int32 × gq_M)} {v9 : Int32} {M9 : gq_M} (hl9 : l.stackTraces = false) (hZ : gq_Zn A s) (hC : gq_C p s m args meth c D A cI cZ ad mtL RL cL_isSo 20) (hr : meth.sig.returnType = (some .boolean))  (hk815 : ∀ (x13 : Int32) (x14 : Int32) (x15 : Int32) (x16 : Int32) (x17 : Int32) (x18 : Int32) (M : gq_M), kh815 x13 x14 x15 x16 x17 x18 M = some (v9, M9) → gq_W p l e (gq_rl 10 3 18) s m args below meth c D A cI cZ ad mtL 20 (gq_NQ below D cI cZ ad mtL v9 M9 args s 3 18 A) 815 [(0, .ref (ad 0)), (1, .ref (ad 109)), (2, .ref (ad 110)), (4, .ref (ad 112)), (5, .ref (ad 113)), (8, .ref (ad 119)), (11, .ref (ad 122)), (13, .int x13), (14, .int x14), (15, .int x15), (16, .int x16), (17, .int x17), (18, .int x18)] [] M 0 0) : ∀ (x13 : Int32) (x14 : Int32) (x15 : Int32) (x16 : Int32) (x17 : Int32) (x18 : Int32) (M : gq_M), f_L_isSo_815_b N  kh815 x13 x14 x15 x16 x17 x18 M = some (v9, M9) → gq_W p l e (gq_rl 10 3 18) s m args below meth c D A cI cZ ad mtL 20 (gq_NQ below D cI cZ ad mtL v9 M9 args s 3 18 A) 815 [(0, .ref (ad 0)), (1, .ref (ad 109)), (2, .ref (ad 110)), (4, .ref (ad 112)), (5, .ref (ad 113)), (8, .ref (ad 119)), (11, .ref (ad 122)), (13, .int x13), (14, .int x14), (15, .int x15), (16, .int x16), (17, .int x17), (18, .int x18)] [] M 0 0 := by
  intro x13 x14 x15 x16 x17 x18 M h
  unfold f_L_isSo_815_b at h
  refine g_iload hC 12 rfl dL_isSo_815 ?_
  refine g_aload hC 5 rfl dL_isSo_817 ?_
  refine g_iconst (v := 4) hC (by decide) dL_isSo_819 ?_
  obtain ⟨g207, h⟩ := gq_g_i h
  refine g_iald hC arL_119 (gq_in_i g207) dL_isSo_820 ?_
  refine g_topi (fun v208 hv208 => ?_)
  replace h := gq_l_i hv208 h
  refine g_icmp_ge (tgt := 925) hC (by decide) dL_isSo_821 (fun c209 => ?_) (fun c209 => ?_)
  · replace h := gq_t c209 h
    refine g_iconst (v := 0) hC (by decide) dL_isSo_925 ?_
    refine g_istore (L2 := [(18, .int 0), (0, .ref (ad 0)), (1, .ref (ad 109)), (2, .ref (ad 110)), (4, .ref (ad 112)), (5, .ref (ad 113)), (8, .ref (ad 119)), (11, .ref (ad 122)), (13, .int x13), (14, .int x14), (15, .int x15), (16, .int x16), (17, .int x17)]) hC (by decide) rfl dL_isSo_926 ?_
    exact g_weak [1, 6, 7, 8, 9, 10, 11, 12, 0] rfl (t_L_isSo_928 hl9 hZ hC hr  N x13 x14 x15 x16 x17 0 M h)
  · replace h := gq_f c209 h
    refine g_aload hC 3 rfl dL_isSo_824 ?_
    refine g_iload hC 12 rfl dL_isSo_826 ?_
    obtain ⟨g210, h⟩ := gq_g_i h
    refine g_iald hC arL_112 (gq_in_i g210) dL_isSo_828 ?_
    refine g_topi (fun v211 hv211 => ?_)
    replace h := gq_l_i hv211 h
    refine g_if_le (tgt := 863) hC (by decide) dL_isSo_829 (fun c212 => ?_) (fun c212 => ?_)
    · replace h := gq_t c212 h
      exact g_weak [0, 1, 2, 3, 4, 5, 6, 7, 8, 9, 10, 11, 12] rfl (t_L_isSo_863 hl9 hZ hC hr hk815 x13 x14 x15 x16 x17 x18 M h)
    · replace h := gq_f c212 h
      refine g_aload_n hC 1 rfl rfl dL_isSo_832 ?_
      refine g_iload hC 12 rfl dL_isSo_833 ?_
      obtain ⟨g213, h⟩ := gq_g_i h
      refine g_iald hC arL_109 (gq_in_i g213) dL_isSo_835 ?_
      refine g_topi (fun v214 hv214 => ?_)
      replace h := gq_l_i hv214 h
      refine g_bipush (v := 8) hC (by decide) dL_isSo_836 ?_
      refine g_idiv hC (by decide) dL_isSo_838 ?_
      refine g_iconst (v := 4) hC (by decide) dL_isSo_839 ?_
      refine g_irem hC (by decide) dL_isSo_840 ?_
      refine g_iload hC 8 rfl dL_isSo_841 ?_
      refine g_icmp_ne (tgt := 863) hC (by decide) dL_isSo_843 (fun c215 => ?_) (fun c215 => ?_)
      · replace h := gq_f c215 h
        exact g_weak [0, 1, 2, 3, 4, 5, 6, 7, 8, 9, 10, 11, 12] rfl (t_L_isSo_863 hl9 hZ hC hr hk815 x13 x14 x15 x16 x17 x18 M h)
      · replace h := gq_t c215 h
        refine g_aload hC 4 rfl dL_isSo_846 ?_
        refine g_iload hC 12 rfl dL_isSo_848 ?_
        obtain ⟨g216, h⟩ := gq_g_i h
        refine g_iald hC arL_113 (gq_in_i g216) dL_isSo_850 ?_
        refine g_topi (fun v217 hv217 => ?_)
        replace h := gq_l_i hv217 h
        refine g_ldc (v := 131072) hC wk_L_115 dL_isSo_851 ?_
        refine g_idiv hC (by decide) dL_isSo_853 ?_
        refine g_iload hC 9 rfl dL_isSo_854 ?_
        refine g_icmp_ne (tgt := 863) hC (by decide) dL_isSo_856 (fun c218 => ?_) (fun c218 => ?_)
        · replace h := gq_f c218 h
          exact g_weak [0, 1, 2, 3, 4, 5, 6, 7, 8, 9, 10, 11, 12] rfl (t_L_isSo_863 hl9 hZ hC hr hk815 x13 x14 x15 x16 x17 x18 M h)
        · replace h := gq_t c218 h
          refine g_iconst (v := 1) hC (by decide) dL_isSo_859 ?_
          refine g_goto (tgt := 864) hC (by decide) dL_isSo_860 ?_
          exact g_weak [0, 1, 2, 3, 4, 5, 6, 7, 8, 9, 10, 11, 12] rfl (t_L_isSo_864 hl9 hZ hC hr hk815 x13 x14 x15 x16 x17 x18 1 M h)
theorem t_L_isSo_815 {N : Nat} {v9 : Int32} {M9 : gq_M} (hl9 : l.stackTraces = false) (hZ : gq_Zn A s) (hC : gq_C p s m args meth c D A cI cZ ad mtL RL cL_isSo 20) (hr : meth.sig.returnType = (some .boolean))  : ∀ (n9 : Nat) (x13 : Int32) (x14 : Int32) (x15 : Int32) (x16 : Int32) (x17 : Int32) (x18 : Int32) (M : gq_M), f_L_isSo_815 N  n9 x13 x14 x15 x16 x17 x18 M = some (v9, M9) → gq_W p l e (gq_rl 10 3 18) s m args below meth c D A cI cZ ad mtL 20 (gq_NQ below D cI cZ ad mtL v9 M9 args s 3 18 A) 815 [(0, .ref (ad 0)), (1, .ref (ad 109)), (2, .ref (ad 110)), (4, .ref (ad 112)), (5, .ref (ad 113)), (8, .ref (ad 119)), (11, .ref (ad 122)), (13, .int x13), (14, .int x14), (15, .int x15), (16, .int x16), (17, .int x17), (18, .int x18)] [] M 0 0 := by
  intro n9
  induction n9 with
  | zero => intro x13 x14 x15 x16 x17 x18 M h; cases h
  | succ n9 ih => intro x13 x14 x15 x16 x17 x18 M h; exact t_L_isSo_815_b hl9 hZ hC hr  ih x13 x14 x15 x16 x17 x18 M h
def f_L_isSo_787 (N : Nat) (x12 : Int32) (x13 : Int32) (M : gq_M) : Option (Int32 × gq_M) :=
  gq_g (gq_in 1 56) (gq_l (M 119 (1 : Int32).toNatClampNeg) fun v204 => gq_g (gq_nz (v204 + 1)) (gq_l ((x12 / 4) - (x12 / 4) / (v204 + 1) * (v204 + 1)) fun v206 => f_L_isSo_815 N  N x13 (x12 - x12 / 4 * 4) v206 0 0 0 M))
set_option maxHeartbeats 1000000 in
set_option maxRecDepth 20000 in
theorem t_L_isSo_787 {N : Nat} {v9 : Int32} {M9 : gq_M} (hl9 : l.stackTraces = false) (hZ : gq_Zn A s) (hC : gq_C p s m args meth c D A cI cZ ad mtL RL cL_isSo 20) (hr : meth.sig.returnType = (some .boolean))   : ∀ (x12 : Int32) (x13 : Int32) (M : gq_M), f_L_isSo_787 N  x12 x13 M = some (v9, M9) → gq_W p l e (gq_rl 10 3 18) s m args below meth c D A cI cZ ad mtL 20 (gq_NQ below D cI cZ ad mtL v9 M9 args s 3 18 A) 787 [(0, .ref (ad 0)), (1, .ref (ad 109)), (2, .ref (ad 110)), (4, .ref (ad 112)), (5, .ref (ad 113)), (8, .ref (ad 119)), (11, .ref (ad 122)), (12, .int x12), (13, .int x13)] [] M 0 0 := by
  intro x12 x13 M h
  unfold f_L_isSo_787 at h
  refine g_iload hC 7 rfl dL_isSo_787 ?_
  refine g_iconst (v := 4) hC (by decide) dL_isSo_789 ?_
  refine g_irem hC (by decide) dL_isSo_790 ?_
  refine g_istore (L2 := [(14, .int (x12 - x12 / 4 * 4)), (0, .ref (ad 0)), (1, .ref (ad 109)), (2, .ref (ad 110)), (4, .ref (ad 112)), (5, .ref (ad 113)), (8, .ref (ad 119)), (11, .ref (ad 122)), (12, .int x12), (13, .int x13)]) hC (by decide) rfl dL_isSo_791 ?_
  refine g_iload hC 8 rfl dL_isSo_793 ?_
  refine g_iconst (v := 4) hC (by decide) dL_isSo_795 ?_
  refine g_idiv hC (by decide) dL_isSo_796 ?_
  refine g_aload hC 6 rfl dL_isSo_797 ?_
  refine g_iconst (v := 1) hC (by decide) dL_isSo_799 ?_
  obtain ⟨g203, h⟩ := gq_g_i h
  refine g_iald hC arL_119 (gq_in_i g203) dL_isSo_800 ?_
  refine g_topi (fun v204 hv204 => ?_)
  replace h := gq_l_i hv204 h
  refine g_iconst (v := 1) hC (by decide) dL_isSo_801 ?_
  refine g_iadd hC dL_isSo_802 ?_
  obtain ⟨g205, h⟩ := gq_g_i h
  refine g_irem hC (gq_nz_i g205) dL_isSo_803 ?_
  refine g_topi (fun v206 hv206 => ?_)
  replace h := gq_l_i hv206 h
  refine g_istore (L2 := [(15, .int v206), (14, .int (x12 - x12 / 4 * 4)), (0, .ref (ad 0)), (1, .ref (ad 109)), (2, .ref (ad 110)), (4, .ref (ad 112)), (5, .ref (ad 113)), (8, .ref (ad 119)), (11, .ref (ad 122)), (12, .int x12), (13, .int x13)]) hC (by decide) rfl dL_isSo_804 ?_
  refine g_iconst (v := 0) hC (by decide) dL_isSo_806 ?_
  refine g_istore (L2 := [(16, .int 0), (15, .int v206), (14, .int (x12 - x12 / 4 * 4)), (0, .ref (ad 0)), (1, .ref (ad 109)), (2, .ref (ad 110)), (4, .ref (ad 112)), (5, .ref (ad 113)), (8, .ref (ad 119)), (11, .ref (ad 122)), (12, .int x12), (13, .int x13)]) hC (by decide) rfl dL_isSo_807 ?_
  refine g_iconst (v := 0) hC (by decide) dL_isSo_809 ?_
  refine g_istore (L2 := [(17, .int 0), (16, .int 0), (15, .int v206), (14, .int (x12 - x12 / 4 * 4)), (0, .ref (ad 0)), (1, .ref (ad 109)), (2, .ref (ad 110)), (4, .ref (ad 112)), (5, .ref (ad 113)), (8, .ref (ad 119)), (11, .ref (ad 122)), (12, .int x12), (13, .int x13)]) hC (by decide) rfl dL_isSo_810 ?_
  refine g_iconst (v := 0) hC (by decide) dL_isSo_812 ?_
  refine g_istore (L2 := [(18, .int 0), (17, .int 0), (16, .int 0), (15, .int v206), (14, .int (x12 - x12 / 4 * 4)), (0, .ref (ad 0)), (1, .ref (ad 109)), (2, .ref (ad 110)), (4, .ref (ad 112)), (5, .ref (ad 113)), (8, .ref (ad 119)), (11, .ref (ad 122)), (12, .int x12), (13, .int x13)]) hC (by decide) rfl dL_isSo_813 ?_
  exact g_weak [5, 6, 7, 8, 9, 10, 11, 13, 4, 3, 2, 1, 0] rfl (t_L_isSo_815 hl9 hZ hC hr  N x13 (x12 - x12 / 4 * 4) v206 0 0 0 M h)
def f_L_isSo_779 (N : Nat) (kh719 : Int32 → Int32 → Int32 → gq_M → Option (Int32 × gq_M)) (x12 : Int32) (x14 : Int32) (s0 : Int32) (M : gq_M) : Option (Int32 × gq_M) :=
  kh719 x12 s0 (x14 + 1) M
set_option maxHeartbeats 1000000 in
set_option maxRecDepth 20000 in
theorem t_L_isSo_779 {N : Nat} {kh719 : Int32 → Int32 → Int32 → gq_M → Option (Int32 × gq_M)} {v9 : Int32} {M9 : gq_M} (hl9 : l.stackTraces = false) (hZ : gq_Zn A s) (hC : gq_C p s m args meth c D A cI cZ ad mtL RL cL_isSo 20) (hr : meth.sig.returnType = (some .boolean)) (hk719 : ∀ (x12 : Int32) (x13 : Int32) (x14 : Int32) (M : gq_M), kh719 x12 x13 x14 M = some (v9, M9) → gq_W p l e (gq_rl 10 3 18) s m args below meth c D A cI cZ ad mtL 20 (gq_NQ below D cI cZ ad mtL v9 M9 args s 3 18 A) 719 [(0, .ref (ad 0)), (1, .ref (ad 109)), (2, .ref (ad 110)), (4, .ref (ad 112)), (5, .ref (ad 113)), (8, .ref (ad 119)), (11, .ref (ad 122)), (12, .int x12), (13, .int x13), (14, .int x14)] [] M 0 0)  : ∀ (x12 : Int32) (x14 : Int32) (s0 : Int32) (M : gq_M), f_L_isSo_779 N kh719 x12 x14 s0 M = some (v9, M9) → gq_W p l e (gq_rl 10 3 18) s m args below meth c D A cI cZ ad mtL 20 (gq_NQ below D cI cZ ad mtL v9 M9 args s 3 18 A) 779 [(0, .ref (ad 0)), (1, .ref (ad 109)), (2, .ref (ad 110)), (4, .ref (ad 112)), (5, .ref (ad 113)), (8, .ref (ad 119)), (11, .ref (ad 122)), (12, .int x12), (14, .int x14)] [.int s0] M 0 0 := by
  intro x12 x14 s0 M h
  unfold f_L_isSo_779 at h
  refine g_istore (L2 := [(13, .int s0), (0, .ref (ad 0)), (1, .ref (ad 109)), (2, .ref (ad 110)), (4, .ref (ad 112)), (5, .ref (ad 113)), (8, .ref (ad 119)), (11, .ref (ad 122)), (12, .int x12), (14, .int x14)]) hC (by decide) rfl dL_isSo_779 ?_
  refine g_iinc (v := (x14 + 1)) (L2 := [(14, .int (x14 + 1)), (13, .int s0), (0, .ref (ad 0)), (1, .ref (ad 109)), (2, .ref (ad 110)), (4, .ref (ad 112)), (5, .ref (ad 113)), (8, .ref (ad 119)), (11, .ref (ad 122)), (12, .int x12)]) hC 9 rfl (by first | rfl | decide) (by decide) rfl dL_isSo_781 ?_
  refine g_goto (tgt := 719) hC (by decide) dL_isSo_784 ?_
  exact g_weak [2, 3, 4, 5, 6, 7, 8, 9, 1, 0] rfl (hk719 x12 s0 (x14 + 1) M h)
def f_L_isSo_778 (N : Nat) (kh719 : Int32 → Int32 → Int32 → gq_M → Option (Int32 × gq_M)) (x12 : Int32) (x14 : Int32) (M : gq_M) : Option (Int32 × gq_M) :=
  f_L_isSo_779 N kh719 x12 x14 0 M
set_option maxHeartbeats 1000000 in
set_option maxRecDepth 20000 in
theorem t_L_isSo_778 {N : Nat} {kh719 : Int32 → Int32 → Int32 → gq_M → Option (Int32 × gq_M)} {v9 : Int32} {M9 : gq_M} (hl9 : l.stackTraces = false) (hZ : gq_Zn A s) (hC : gq_C p s m args meth c D A cI cZ ad mtL RL cL_isSo 20) (hr : meth.sig.returnType = (some .boolean)) (hk719 : ∀ (x12 : Int32) (x13 : Int32) (x14 : Int32) (M : gq_M), kh719 x12 x13 x14 M = some (v9, M9) → gq_W p l e (gq_rl 10 3 18) s m args below meth c D A cI cZ ad mtL 20 (gq_NQ below D cI cZ ad mtL v9 M9 args s 3 18 A) 719 [(0, .ref (ad 0)), (1, .ref (ad 109)), (2, .ref (ad 110)), (4, .ref (ad 112)), (5, .ref (ad 113)), (8, .ref (ad 119)), (11, .ref (ad 122)), (12, .int x12), (13, .int x13), (14, .int x14)] [] M 0 0)  : ∀ (x12 : Int32) (x14 : Int32) (M : gq_M), f_L_isSo_778 N kh719 x12 x14 M = some (v9, M9) → gq_W p l e (gq_rl 10 3 18) s m args below meth c D A cI cZ ad mtL 20 (gq_NQ below D cI cZ ad mtL v9 M9 args s 3 18 A) 778 [(0, .ref (ad 0)), (1, .ref (ad 109)), (2, .ref (ad 110)), (4, .ref (ad 112)), (5, .ref (ad 113)), (8, .ref (ad 119)), (11, .ref (ad 122)), (12, .int x12), (14, .int x14)] [] M 0 0 := by
  intro x12 x14 M h
  unfold f_L_isSo_778 at h
  refine g_iconst (v := 0) hC (by decide) dL_isSo_778 ?_
  exact g_weak [0, 1, 2, 3, 4, 5, 6, 7, 8] rfl (t_L_isSo_779 hl9 hZ hC hr hk719 x12 x14 0 M h)
def f_L_isSo_774 (N : Nat) (kh719 : Int32 → Int32 → Int32 → gq_M → Option (Int32 × gq_M)) (x12 : Int32) (x14 : Int32) (M : gq_M) : Option (Int32 × gq_M) :=
  f_L_isSo_779 N kh719 x12 x14 1 M
set_option maxHeartbeats 1000000 in
set_option maxRecDepth 20000 in
theorem t_L_isSo_774 {N : Nat} {kh719 : Int32 → Int32 → Int32 → gq_M → Option (Int32 × gq_M)} {v9 : Int32} {M9 : gq_M} (hl9 : l.stackTraces = false) (hZ : gq_Zn A s) (hC : gq_C p s m args meth c D A cI cZ ad mtL RL cL_isSo 20) (hr : meth.sig.returnType = (some .boolean)) (hk719 : ∀ (x12 : Int32) (x13 : Int32) (x14 : Int32) (M : gq_M), kh719 x12 x13 x14 M = some (v9, M9) → gq_W p l e (gq_rl 10 3 18) s m args below meth c D A cI cZ ad mtL 20 (gq_NQ below D cI cZ ad mtL v9 M9 args s 3 18 A) 719 [(0, .ref (ad 0)), (1, .ref (ad 109)), (2, .ref (ad 110)), (4, .ref (ad 112)), (5, .ref (ad 113)), (8, .ref (ad 119)), (11, .ref (ad 122)), (12, .int x12), (13, .int x13), (14, .int x14)] [] M 0 0)  : ∀ (x12 : Int32) (x14 : Int32) (M : gq_M), f_L_isSo_774 N kh719 x12 x14 M = some (v9, M9) → gq_W p l e (gq_rl 10 3 18) s m args below meth c D A cI cZ ad mtL 20 (gq_NQ below D cI cZ ad mtL v9 M9 args s 3 18 A) 774 [(0, .ref (ad 0)), (1, .ref (ad 109)), (2, .ref (ad 110)), (4, .ref (ad 112)), (5, .ref (ad 113)), (8, .ref (ad 119)), (11, .ref (ad 122)), (12, .int x12), (14, .int x14)] [] M 0 0 := by
  intro x12 x14 M h
  unfold f_L_isSo_774 at h
  refine g_iconst (v := 1) hC (by decide) dL_isSo_774 ?_
  refine g_goto (tgt := 779) hC (by decide) dL_isSo_775 ?_
  exact g_weak [0, 1, 2, 3, 4, 5, 6, 7, 8] rfl (t_L_isSo_779 hl9 hZ hC hr hk719 x12 x14 1 M h)
def f_L_isSo_719_b (N : Nat) (kh719 : Int32 → Int32 → Int32 → gq_M → Option (Int32 × gq_M)) (x12 : Int32) (x13 : Int32) (x14 : Int32) (M : gq_M) : Option (Int32 × gq_M) :=
  if 6 ≤ x14 then (f_L_isSo_787 N  x12 x13 M) else (if x13 = 0 then (f_L_isSo_787 N  x12 x13 M) else (gq_y0 (f_X9_kilos N x14 M) fun v188 Cv188 => gq_l (mrg 109 Cv188 M) fun M190 => gq_b (f_L_kilos N x14 M190) fun v191 M193 => if v188 = v191 then (if 0 < (x12 - x12 / 3 * 3) then (f_L_isSo_774 N kh719 x12 x14 M193) else (gq_y0 (f_X9_kilosAnew N x14 M193) fun v196 Cv196 => gq_l (mrg 109 Cv196 M193) fun M198 => gq_b (f_L_kilos N x14 M198) fun v199 M201 => if v196 = v199 then (f_L_isSo_774 N kh719 x12 x14 M201) else (f_L_isSo_778 N kh719 x12 x14 M201))) else (f_L_isSo_778 N kh719 x12 x14 M193)))
def f_L_isSo_719 (N : Nat) : Nat → Int32 → Int32 → Int32 → gq_M → Option (Int32 × gq_M)
  | 0 => fun _ _ _ _ => none
  | n9 + 1 => f_L_isSo_719_b N  (f_L_isSo_719 N  n9)
set_option maxHeartbeats 1000000 in
set_option maxRecDepth 20000 in
theorem t_L_isSo_719_b {N : Nat} {kh719 : Int32 → Int32 → Int32 → gq_M → Option (Int32 × gq_M)} {v9 : Int32} {M9 : gq_M} (hl9 : l.stackTraces = false) (hZ : gq_Zn A s) (hC : gq_C p s m args meth c D A cI cZ ad mtL RL cL_isSo 20) (hr : meth.sig.returnType = (some .boolean))  (hk719 : ∀ (x12 : Int32) (x13 : Int32) (x14 : Int32) (M : gq_M), kh719 x12 x13 x14 M = some (v9, M9) → gq_W p l e (gq_rl 10 3 18) s m args below meth c D A cI cZ ad mtL 20 (gq_NQ below D cI cZ ad mtL v9 M9 args s 3 18 A) 719 [(0, .ref (ad 0)), (1, .ref (ad 109)), (2, .ref (ad 110)), (4, .ref (ad 112)), (5, .ref (ad 113)), (8, .ref (ad 119)), (11, .ref (ad 122)), (12, .int x12), (13, .int x13), (14, .int x14)] [] M 0 0) : ∀ (x12 : Int32) (x13 : Int32) (x14 : Int32) (M : gq_M), f_L_isSo_719_b N  kh719 x12 x13 x14 M = some (v9, M9) → gq_W p l e (gq_rl 10 3 18) s m args below meth c D A cI cZ ad mtL 20 (gq_NQ below D cI cZ ad mtL v9 M9 args s 3 18 A) 719 [(0, .ref (ad 0)), (1, .ref (ad 109)), (2, .ref (ad 110)), (4, .ref (ad 112)), (5, .ref (ad 113)), (8, .ref (ad 119)), (11, .ref (ad 122)), (12, .int x12), (13, .int x13), (14, .int x14)] [] M 0 0 := by
  intro x12 x13 x14 M h
  unfold f_L_isSo_719_b at h
  refine g_iload hC 9 rfl dL_isSo_719 ?_
  refine g_bipush (v := 6) hC (by decide) dL_isSo_721 ?_
  refine g_icmp_ge (tgt := 787) hC (by decide) dL_isSo_723 (fun c186 => ?_) (fun c186 => ?_)
  · replace h := gq_t c186 h
    exact g_weak [0, 1, 2, 3, 4, 5, 6, 7, 8] rfl (t_L_isSo_787 hl9 hZ hC hr  x12 x13 M h)
  · replace h := gq_f c186 h
    refine g_iload hC 8 rfl dL_isSo_726 ?_
    refine g_if_eq (tgt := 787) hC (by decide) dL_isSo_728 (fun c187 => ?_) (fun c187 => ?_)
    · replace h := gq_t c187 h
      exact g_weak [0, 1, 2, 3, 4, 5, 6, 7, 8] rfl (t_L_isSo_787 hl9 hZ hC hr  x12 x13 M h)
    · replace h := gq_f c187 h
      refine g_aload_n hC 0 rfl rfl dL_isSo_731 ?_
      refine g_iload hC 9 rfl dL_isSo_732 ?_
      obtain ⟨v188, Cv188, c189, h⟩ := gq_y0_i h
      refine g_LXi (mt1 := mtC) (mt2 := mtA) (as := [.int x14]) hC hZ.1 (t_X9_kilos hl9 N _ _ _ _ _ c189) mV_X9_kilos wm_L_175 obC_0 rfl rfl (Nat.le_of_ble_eq_true rfl) ⟨Nat.le_of_ble_eq_true rfl, Nat.le_of_ble_eq_true rfl⟩ ⟨Nat.le_of_ble_eq_true rfl, Nat.le_of_ble_eq_true rfl⟩ dL_isSo_734 mtC_len (fun _ => ?_) (fun hx => absurd rfl hx)
      refine g_widen (kc2 := 0) (ks2 := 0) (Nat.le_refl _) (Nat.le_refl _) ?_
      refine g_topM (fun M190 hM190 => ?_)
      replace h := gq_l_i hM190 h
      refine g_aload_n hC 1 rfl rfl dL_isSo_737 ?_
      refine g_aload_n hC 2 rfl rfl dL_isSo_738 ?_
      refine g_aload hC 5 rfl dL_isSo_739 ?_
      refine g_iload hC 9 rfl dL_isSo_741 ?_
      obtain ⟨v191, M193, c192, h⟩ := gq_b_i h
      refine g_Si (as := [.ref (ad 109), .ref (ad 110), .ref (ad 119), .int x14]) hC (t_L_kilos N _ _ _ _ c192) mS_L_kilos wm_L_178 rfl rfl (Nat.le_of_ble_eq_true rfl) ⟨Nat.le_of_ble_eq_true rfl, Nat.le_of_ble_eq_true rfl⟩ ⟨Nat.le_of_ble_eq_true rfl, Nat.le_of_ble_eq_true rfl⟩ dL_isSo_743 ?_
      refine g_icmp_ne (tgt := 778) hC (by decide) dL_isSo_746 (fun c194 => ?_) (fun c194 => ?_)
      · replace h := gq_f c194 h
        exact g_weak [0, 1, 2, 3, 4, 5, 6, 7, 9] rfl (t_L_isSo_778 hl9 hZ hC hr hk719 x12 x14 M193 h)
      · replace h := gq_t c194 h
        refine g_iload hC 7 rfl dL_isSo_749 ?_
        refine g_iconst (v := 3) hC (by decide) dL_isSo_751 ?_
        refine g_irem hC (by decide) dL_isSo_752 ?_
        refine g_if_gt (tgt := 774) hC (by decide) dL_isSo_753 (fun c195 => ?_) (fun c195 => ?_)
        · replace h := gq_t c195 h
          exact g_weak [0, 1, 2, 3, 4, 5, 6, 7, 9] rfl (t_L_isSo_774 hl9 hZ hC hr hk719 x12 x14 M193 h)
        · replace h := gq_f c195 h
          refine g_aload_n hC 0 rfl rfl dL_isSo_756 ?_
          refine g_iload hC 9 rfl dL_isSo_757 ?_
          obtain ⟨v196, Cv196, c197, h⟩ := gq_y0_i h
          refine g_LXi (mt1 := mtC) (mt2 := mtA) (as := [.int x14]) hC hZ.1 (t_X9_kilosAnew hl9 N _ _ _ _ _ c197) mV_X9_kilosAnew wm_L_180 obC_0 rfl rfl (Nat.le_of_ble_eq_true rfl) ⟨Nat.le_of_ble_eq_true rfl, Nat.le_of_ble_eq_true rfl⟩ ⟨Nat.le_of_ble_eq_true rfl, Nat.le_of_ble_eq_true rfl⟩ dL_isSo_759 mtC_len (fun _ => ?_) (fun hx => absurd rfl hx)
          refine g_widen (kc2 := 0) (ks2 := 0) (Nat.le_refl _) (Nat.le_refl _) ?_
          refine g_topM (fun M198 hM198 => ?_)
          replace h := gq_l_i hM198 h
          refine g_aload_n hC 1 rfl rfl dL_isSo_762 ?_
          refine g_aload_n hC 2 rfl rfl dL_isSo_763 ?_
          refine g_aload hC 5 rfl dL_isSo_764 ?_
          refine g_iload hC 9 rfl dL_isSo_766 ?_
          obtain ⟨v199, M201, c200, h⟩ := gq_b_i h
          refine g_Si (as := [.ref (ad 109), .ref (ad 110), .ref (ad 119), .int x14]) hC (t_L_kilos N _ _ _ _ c200) mS_L_kilos wm_L_178 rfl rfl (Nat.le_of_ble_eq_true rfl) ⟨Nat.le_of_ble_eq_true rfl, Nat.le_of_ble_eq_true rfl⟩ ⟨Nat.le_of_ble_eq_true rfl, Nat.le_of_ble_eq_true rfl⟩ dL_isSo_768 ?_
          refine g_icmp_ne (tgt := 778) hC (by decide) dL_isSo_771 (fun c202 => ?_) (fun c202 => ?_)
          · replace h := gq_f c202 h
            exact g_weak [0, 1, 2, 3, 4, 5, 6, 7, 9] rfl (t_L_isSo_778 hl9 hZ hC hr hk719 x12 x14 M201 h)
          · replace h := gq_t c202 h
            exact g_weak [0, 1, 2, 3, 4, 5, 6, 7, 9] rfl (t_L_isSo_774 hl9 hZ hC hr hk719 x12 x14 M201 h)
theorem t_L_isSo_719 {N : Nat} {v9 : Int32} {M9 : gq_M} (hl9 : l.stackTraces = false) (hZ : gq_Zn A s) (hC : gq_C p s m args meth c D A cI cZ ad mtL RL cL_isSo 20) (hr : meth.sig.returnType = (some .boolean))  : ∀ (n9 : Nat) (x12 : Int32) (x13 : Int32) (x14 : Int32) (M : gq_M), f_L_isSo_719 N  n9 x12 x13 x14 M = some (v9, M9) → gq_W p l e (gq_rl 10 3 18) s m args below meth c D A cI cZ ad mtL 20 (gq_NQ below D cI cZ ad mtL v9 M9 args s 3 18 A) 719 [(0, .ref (ad 0)), (1, .ref (ad 109)), (2, .ref (ad 110)), (4, .ref (ad 112)), (5, .ref (ad 113)), (8, .ref (ad 119)), (11, .ref (ad 122)), (12, .int x12), (13, .int x13), (14, .int x14)] [] M 0 0 := by
  intro n9
  induction n9 with
  | zero => intro x12 x13 x14 M h; cases h
  | succ n9 ih => intro x12 x13 x14 M h; exact t_L_isSo_719_b hl9 hZ hC hr  ih x12 x13 x14 M h
def f_L_isSo_716 (N : Nat) (x12 : Int32) (x13 : Int32) (M : gq_M) : Option (Int32 × gq_M) :=
  f_L_isSo_719 N  N x12 x13 0 M
set_option maxHeartbeats 1000000 in
set_option maxRecDepth 20000 in
theorem t_L_isSo_716 {N : Nat} {v9 : Int32} {M9 : gq_M} (hl9 : l.stackTraces = false) (hZ : gq_Zn A s) (hC : gq_C p s m args meth c D A cI cZ ad mtL RL cL_isSo 20) (hr : meth.sig.returnType = (some .boolean))   : ∀ (x12 : Int32) (x13 : Int32) (M : gq_M), f_L_isSo_716 N  x12 x13 M = some (v9, M9) → gq_W p l e (gq_rl 10 3 18) s m args below meth c D A cI cZ ad mtL 20 (gq_NQ below D cI cZ ad mtL v9 M9 args s 3 18 A) 716 [(0, .ref (ad 0)), (1, .ref (ad 109)), (2, .ref (ad 110)), (4, .ref (ad 112)), (5, .ref (ad 113)), (8, .ref (ad 119)), (11, .ref (ad 122)), (12, .int x12), (13, .int x13)] [] M 0 0 := by
  intro x12 x13 M h
  unfold f_L_isSo_716 at h
  refine g_iconst (v := 0) hC (by decide) dL_isSo_716 ?_
  refine g_istore (L2 := [(14, .int 0), (0, .ref (ad 0)), (1, .ref (ad 109)), (2, .ref (ad 110)), (4, .ref (ad 112)), (5, .ref (ad 113)), (8, .ref (ad 119)), (11, .ref (ad 122)), (12, .int x12), (13, .int x13)]) hC (by decide) rfl dL_isSo_717 ?_
  exact g_weak [1, 2, 3, 4, 5, 6, 7, 8, 9, 0] rfl (t_L_isSo_719 hl9 hZ hC hr  N x12 x13 0 M h)
def f_L_isSo_708 (N : Nat) (kh507 : Int32 → Int32 → Int32 → gq_M → Option (Int32 × gq_M)) (x12 : Int32) (x14 : Int32) (s0 : Int32) (M : gq_M) : Option (Int32 × gq_M) :=
  kh507 x12 s0 (x14 + 1) M
set_option maxHeartbeats 1000000 in
set_option maxRecDepth 20000 in
theorem t_L_isSo_708 {N : Nat} {kh507 : Int32 → Int32 → Int32 → gq_M → Option (Int32 × gq_M)} {v9 : Int32} {M9 : gq_M} (hl9 : l.stackTraces = false) (hZ : gq_Zn A s) (hC : gq_C p s m args meth c D A cI cZ ad mtL RL cL_isSo 20) (hr : meth.sig.returnType = (some .boolean)) (hk507 : ∀ (x12 : Int32) (x13 : Int32) (x14 : Int32) (M : gq_M), kh507 x12 x13 x14 M = some (v9, M9) → gq_W p l e (gq_rl 10 3 18) s m args below meth c D A cI cZ ad mtL 20 (gq_NQ below D cI cZ ad mtL v9 M9 args s 3 18 A) 507 [(0, .ref (ad 0)), (1, .ref (ad 109)), (2, .ref (ad 110)), (4, .ref (ad 112)), (5, .ref (ad 113)), (8, .ref (ad 119)), (9, .ref (ad 120)), (10, .ref (ad 121)), (11, .ref (ad 122)), (12, .int x12), (13, .int x13), (14, .int x14)] [] M 0 0)  : ∀ (x12 : Int32) (x14 : Int32) (s0 : Int32) (M : gq_M), f_L_isSo_708 N kh507 x12 x14 s0 M = some (v9, M9) → gq_W p l e (gq_rl 10 3 18) s m args below meth c D A cI cZ ad mtL 20 (gq_NQ below D cI cZ ad mtL v9 M9 args s 3 18 A) 708 [(0, .ref (ad 0)), (1, .ref (ad 109)), (2, .ref (ad 110)), (4, .ref (ad 112)), (5, .ref (ad 113)), (8, .ref (ad 119)), (9, .ref (ad 120)), (10, .ref (ad 121)), (11, .ref (ad 122)), (12, .int x12), (14, .int x14)] [.int s0] M 0 0 := by
  intro x12 x14 s0 M h
  unfold f_L_isSo_708 at h
  refine g_istore (L2 := [(13, .int s0), (0, .ref (ad 0)), (1, .ref (ad 109)), (2, .ref (ad 110)), (4, .ref (ad 112)), (5, .ref (ad 113)), (8, .ref (ad 119)), (9, .ref (ad 120)), (10, .ref (ad 121)), (11, .ref (ad 122)), (12, .int x12), (14, .int x14)]) hC (by decide) rfl dL_isSo_708 ?_
  refine g_iinc (v := (x14 + 1)) (L2 := [(14, .int (x14 + 1)), (13, .int s0), (0, .ref (ad 0)), (1, .ref (ad 109)), (2, .ref (ad 110)), (4, .ref (ad 112)), (5, .ref (ad 113)), (8, .ref (ad 119)), (9, .ref (ad 120)), (10, .ref (ad 121)), (11, .ref (ad 122)), (12, .int x12)]) hC 11 rfl (by first | rfl | decide) (by decide) rfl dL_isSo_710 ?_
  refine g_goto (tgt := 507) hC (by decide) dL_isSo_713 ?_
  exact g_weak [2, 3, 4, 5, 6, 7, 8, 9, 10, 11, 1, 0] rfl (hk507 x12 s0 (x14 + 1) M h)
def f_L_isSo_707 (N : Nat) (kh507 : Int32 → Int32 → Int32 → gq_M → Option (Int32 × gq_M)) (x12 : Int32) (x14 : Int32) (M : gq_M) : Option (Int32 × gq_M) :=
  f_L_isSo_708 N kh507 x12 x14 0 M
set_option maxHeartbeats 1000000 in
set_option maxRecDepth 20000 in
theorem t_L_isSo_707 {N : Nat} {kh507 : Int32 → Int32 → Int32 → gq_M → Option (Int32 × gq_M)} {v9 : Int32} {M9 : gq_M} (hl9 : l.stackTraces = false) (hZ : gq_Zn A s) (hC : gq_C p s m args meth c D A cI cZ ad mtL RL cL_isSo 20) (hr : meth.sig.returnType = (some .boolean)) (hk507 : ∀ (x12 : Int32) (x13 : Int32) (x14 : Int32) (M : gq_M), kh507 x12 x13 x14 M = some (v9, M9) → gq_W p l e (gq_rl 10 3 18) s m args below meth c D A cI cZ ad mtL 20 (gq_NQ below D cI cZ ad mtL v9 M9 args s 3 18 A) 507 [(0, .ref (ad 0)), (1, .ref (ad 109)), (2, .ref (ad 110)), (4, .ref (ad 112)), (5, .ref (ad 113)), (8, .ref (ad 119)), (9, .ref (ad 120)), (10, .ref (ad 121)), (11, .ref (ad 122)), (12, .int x12), (13, .int x13), (14, .int x14)] [] M 0 0)  : ∀ (x12 : Int32) (x14 : Int32) (M : gq_M), f_L_isSo_707 N kh507 x12 x14 M = some (v9, M9) → gq_W p l e (gq_rl 10 3 18) s m args below meth c D A cI cZ ad mtL 20 (gq_NQ below D cI cZ ad mtL v9 M9 args s 3 18 A) 707 [(0, .ref (ad 0)), (1, .ref (ad 109)), (2, .ref (ad 110)), (4, .ref (ad 112)), (5, .ref (ad 113)), (8, .ref (ad 119)), (9, .ref (ad 120)), (10, .ref (ad 121)), (11, .ref (ad 122)), (12, .int x12), (14, .int x14)] [] M 0 0 := by
  intro x12 x14 M h
  unfold f_L_isSo_707 at h
  refine g_iconst (v := 0) hC (by decide) dL_isSo_707 ?_
  exact g_weak [0, 1, 2, 3, 4, 5, 6, 7, 8, 9, 10] rfl (t_L_isSo_708 hl9 hZ hC hr hk507 x12 x14 0 M h)
def f_L_isSo_556 (N : Nat) (kh507 : Int32 → Int32 → Int32 → gq_M → Option (Int32 × gq_M)) (kh525 : Int32 → Int32 → Int32 → Int32 → gq_M → Option (Int32 × gq_M)) (x12 : Int32) (x14 : Int32) (x16 : Int32) (s0 : Int32) (s1 : Int32) (M : gq_M) : Option (Int32 × gq_M) :=
  kh525 x12 x14 (s0 + s1) (x16 + 1) M
set_option maxHeartbeats 1000000 in
set_option maxRecDepth 20000 in
theorem t_L_isSo_556 {N : Nat} {kh507 : Int32 → Int32 → Int32 → gq_M → Option (Int32 × gq_M)} {kh525 : Int32 → Int32 → Int32 → Int32 → gq_M → Option (Int32 × gq_M)} {v9 : Int32} {M9 : gq_M} (hl9 : l.stackTraces = false) (hZ : gq_Zn A s) (hC : gq_C p s m args meth c D A cI cZ ad mtL RL cL_isSo 20) (hr : meth.sig.returnType = (some .boolean)) (hk507 : ∀ (x12 : Int32) (x13 : Int32) (x14 : Int32) (M : gq_M), kh507 x12 x13 x14 M = some (v9, M9) → gq_W p l e (gq_rl 10 3 18) s m args below meth c D A cI cZ ad mtL 20 (gq_NQ below D cI cZ ad mtL v9 M9 args s 3 18 A) 507 [(0, .ref (ad 0)), (1, .ref (ad 109)), (2, .ref (ad 110)), (4, .ref (ad 112)), (5, .ref (ad 113)), (8, .ref (ad 119)), (9, .ref (ad 120)), (10, .ref (ad 121)), (11, .ref (ad 122)), (12, .int x12), (13, .int x13), (14, .int x14)] [] M 0 0) (hk525 : ∀ (x12 : Int32) (x14 : Int32) (x15 : Int32) (x16 : Int32) (M : gq_M), kh525 x12 x14 x15 x16 M = some (v9, M9) → gq_W p l e (gq_rl 10 3 18) s m args below meth c D A cI cZ ad mtL 20 (gq_NQ below D cI cZ ad mtL v9 M9 args s 3 18 A) 525 [(0, .ref (ad 0)), (1, .ref (ad 109)), (2, .ref (ad 110)), (4, .ref (ad 112)), (5, .ref (ad 113)), (8, .ref (ad 119)), (9, .ref (ad 120)), (10, .ref (ad 121)), (11, .ref (ad 122)), (12, .int x12), (14, .int x14), (15, .int x15), (16, .int x16)] [] M 0 0)  : ∀ (x12 : Int32) (x14 : Int32) (x16 : Int32) (s0 : Int32) (s1 : Int32) (M : gq_M), f_L_isSo_556 N kh507 kh525 x12 x14 x16 s0 s1 M = some (v9, M9) → gq_W p l e (gq_rl 10 3 18) s m args below meth c D A cI cZ ad mtL 20 (gq_NQ below D cI cZ ad mtL v9 M9 args s 3 18 A) 556 [(0, .ref (ad 0)), (1, .ref (ad 109)), (2, .ref (ad 110)), (4, .ref (ad 112)), (5, .ref (ad 113)), (8, .ref (ad 119)), (9, .ref (ad 120)), (10, .ref (ad 121)), (11, .ref (ad 122)), (12, .int x12), (14, .int x14), (16, .int x16)] [.int s1, .int s0] M 0 0 := by
  intro x12 x14 x16 s0 s1 M h
  unfold f_L_isSo_556 at h
  refine g_iadd hC dL_isSo_556 ?_
  refine g_istore (L2 := [(15, .int (s0 + s1)), (0, .ref (ad 0)), (1, .ref (ad 109)), (2, .ref (ad 110)), (4, .ref (ad 112)), (5, .ref (ad 113)), (8, .ref (ad 119)), (9, .ref (ad 120)), (10, .ref (ad 121)), (11, .ref (ad 122)), (12, .int x12), (14, .int x14), (16, .int x16)]) hC (by decide) rfl dL_isSo_557 ?_
  refine g_iinc (v := (x16 + 1)) (L2 := [(16, .int (x16 + 1)), (15, .int (s0 + s1)), (0, .ref (ad 0)), (1, .ref (ad 109)), (2, .ref (ad 110)), (4, .ref (ad 112)), (5, .ref (ad 113)), (8, .ref (ad 119)), (9, .ref (ad 120)), (10, .ref (ad 121)), (11, .ref (ad 122)), (12, .int x12), (14, .int x14)]) hC 12 rfl (by first | rfl | decide) (by decide) rfl dL_isSo_559 ?_
  refine g_goto (tgt := 525) hC (by decide) dL_isSo_562 ?_
  exact g_weak [2, 3, 4, 5, 6, 7, 8, 9, 10, 11, 12, 1, 0] rfl (hk525 x12 x14 (s0 + s1) (x16 + 1) M h)
def f_L_isSo_525_b (N : Nat) (kh507 : Int32 → Int32 → Int32 → gq_M → Option (Int32 × gq_M)) (kh525 : Int32 → Int32 → Int32 → Int32 → gq_M → Option (Int32 × gq_M)) (x12 : Int32) (x14 : Int32) (x15 : Int32) (x16 : Int32) (M : gq_M) : Option (Int32 × gq_M) :=
  gq_g (gq_in 4 56) (gq_l (M 119 (4 : Int32).toNatClampNeg) fun v141 => if v141 ≤ x16 then (gq_g (gq_in (32 + (4 * x14)) 64) (gq_l (M 120 ((32 + (4 * x14)) : Int32).toNatClampNeg) fun v144 => gq_g (gq_in (33 + (4 * x14)) 64) (gq_l (M 120 ((33 + (4 * x14)) : Int32).toNatClampNeg) fun v146 => gq_g (gq_in (34 + (4 * x14)) 64) (gq_l (M 120 ((34 + (4 * x14)) : Int32).toNatClampNeg) fun v148 => gq_g (gq_in (35 + (4 * x14)) 64) (gq_l (M 120 ((35 + (4 * x14)) : Int32).toNatClampNeg) fun v150 => gq_y0 (f_X9_account N x14 0 M) fun v151 Cv151 => gq_l (mrg 109 Cv151 M) fun M153 => gq_g (gq_in (24 + x14) 56) (gq_l (M153 119 ((24 + x14) : Int32).toNatClampNeg) fun v155 => if v151 = v155 then (gq_y0 (f_X9_account N x14 1 M153) fun v157 Cv157 => gq_l (mrg 109 Cv157 M153) fun M159 => gq_g (gq_in (40 + x14) 56) (gq_l (M159 119 ((40 + x14) : Int32).toNatClampNeg) fun v161 => if v157 = v161 then (gq_y0 (f_X9_account N x14 2 M159) fun v163 Cv163 => gq_l (mrg 109 Cv163 M159) fun M165 => if v163 = x15 then (gq_y0 (f_X9_ship N x14 0 M165) fun v167 Cv167 => gq_l (mrg 109 Cv167 M165) fun M169 => gq_g (gq_in (16 + x14) 24) (gq_l (M169 121 ((16 + x14) : Int32).toNatClampNeg) fun v171 => if v167 = v171 then (gq_y0 (f_X9_ship N x14 1 M169) fun v173 Cv173 => gq_l (mrg 109 Cv173 M169) fun M175 => gq_g (gq_in x14 24) (gq_l (M175 121 x14.toNatClampNeg) fun v177 => if v173 = v177 then (gq_y0 (f_X9_ship N x14 2 M175) fun v179 Cv179 => gq_l (mrg 109 Cv179 M175) fun M181 => if v179 = (((v144 + v146) + v148) + v150) then (f_L_isSo_708 N kh507 x12 x14 1 M181) else (f_L_isSo_707 N kh507 x12 x14 M181)) else (f_L_isSo_707 N kh507 x12 x14 M175))) else (f_L_isSo_707 N kh507 x12 x14 M169))) else (f_L_isSo_707 N kh507 x12 x14 M165)) else (f_L_isSo_707 N kh507 x12 x14 M159))) else (f_L_isSo_707 N kh507 x12 x14 M153))))))) else (gq_g (gq_in x16 40) (gq_l (M 112 x16.toNatClampNeg) fun v184 => if (v184 - v184 / 16 * 16) = (x14 + 1) then (f_L_isSo_556 N kh507 kh525 x12 x14 x16 x15 1 M) else (f_L_isSo_556 N kh507 kh525 x12 x14 x16 x15 0 M))))
def f_L_isSo_525 (N : Nat) (kh507 : Int32 → Int32 → Int32 → gq_M → Option (Int32 × gq_M)) : Nat → Int32 → Int32 → Int32 → Int32 → gq_M → Option (Int32 × gq_M)
  | 0 => fun _ _ _ _ _ => none
  | n9 + 1 => f_L_isSo_525_b N kh507 (f_L_isSo_525 N kh507 n9)
set_option maxHeartbeats 1000000 in
set_option maxRecDepth 20000 in
theorem t_L_isSo_525_b {N : Nat} {kh507 : Int32 → Int32 → Int32 → gq_M → Option (Int32 × gq_M)} {kh525 : Int32 → Int32 → Int32 → Int32 → gq_M → Option (Int32 × gq_M)} {v9 : Int32} {M9 : gq_M} (hl9 : l.stackTraces = false) (hZ : gq_Zn A s) (hC : gq_C p s m args meth c D A cI cZ ad mtL RL cL_isSo 20) (hr : meth.sig.returnType = (some .boolean)) (hk507 : ∀ (x12 : Int32) (x13 : Int32) (x14 : Int32) (M : gq_M), kh507 x12 x13 x14 M = some (v9, M9) → gq_W p l e (gq_rl 10 3 18) s m args below meth c D A cI cZ ad mtL 20 (gq_NQ below D cI cZ ad mtL v9 M9 args s 3 18 A) 507 [(0, .ref (ad 0)), (1, .ref (ad 109)), (2, .ref (ad 110)), (4, .ref (ad 112)), (5, .ref (ad 113)), (8, .ref (ad 119)), (9, .ref (ad 120)), (10, .ref (ad 121)), (11, .ref (ad 122)), (12, .int x12), (13, .int x13), (14, .int x14)] [] M 0 0) (hk525 : ∀ (x12 : Int32) (x14 : Int32) (x15 : Int32) (x16 : Int32) (M : gq_M), kh525 x12 x14 x15 x16 M = some (v9, M9) → gq_W p l e (gq_rl 10 3 18) s m args below meth c D A cI cZ ad mtL 20 (gq_NQ below D cI cZ ad mtL v9 M9 args s 3 18 A) 525 [(0, .ref (ad 0)), (1, .ref (ad 109)), (2, .ref (ad 110)), (4, .ref (ad 112)), (5, .ref (ad 113)), (8, .ref (ad 119)), (9, .ref (ad 120)), (10, .ref (ad 121)), (11, .ref (ad 122)), (12, .int x12), (14, .int x14), (15, .int x15), (16, .int x16)] [] M 0 0) : ∀ (x12 : Int32) (x14 : Int32) (x15 : Int32) (x16 : Int32) (M : gq_M), f_L_isSo_525_b N kh507 kh525 x12 x14 x15 x16 M = some (v9, M9) → gq_W p l e (gq_rl 10 3 18) s m args below meth c D A cI cZ ad mtL 20 (gq_NQ below D cI cZ ad mtL v9 M9 args s 3 18 A) 525 [(0, .ref (ad 0)), (1, .ref (ad 109)), (2, .ref (ad 110)), (4, .ref (ad 112)), (5, .ref (ad 113)), (8, .ref (ad 119)), (9, .ref (ad 120)), (10, .ref (ad 121)), (11, .ref (ad 122)), (12, .int x12), (14, .int x14), (15, .int x15), (16, .int x16)] [] M 0 0 := by
  intro x12 x14 x15 x16 M h
  unfold f_L_isSo_525_b at h
  refine g_iload hC 12 rfl dL_isSo_525 ?_
  refine g_aload hC 5 rfl dL_isSo_527 ?_
  refine g_iconst (v := 4) hC (by decide) dL_isSo_529 ?_
  obtain ⟨g140, h⟩ := gq_g_i h
  refine g_iald hC arL_119 (gq_in_i g140) dL_isSo_530 ?_
  refine g_topi (fun v141 hv141 => ?_)
  replace h := gq_l_i hv141 h
  refine g_icmp_ge (tgt := 565) hC (by decide) dL_isSo_531 (fun c142 => ?_) (fun c142 => ?_)
  · replace h := gq_t c142 h
    refine g_aload hC 6 rfl dL_isSo_565 ?_
    refine g_bipush (v := 32) hC (by decide) dL_isSo_567 ?_
    refine g_iconst (v := 4) hC (by decide) dL_isSo_569 ?_
    refine g_iload hC 10 rfl dL_isSo_570 ?_
    refine g_imul hC dL_isSo_572 ?_
    refine g_iadd hC dL_isSo_573 ?_
    obtain ⟨g143, h⟩ := gq_g_i h
    refine g_iald hC arL_120 (gq_in_i g143) dL_isSo_574 ?_
    refine g_topi (fun v144 hv144 => ?_)
    replace h := gq_l_i hv144 h
    refine g_aload hC 6 rfl dL_isSo_575 ?_
    refine g_bipush (v := 33) hC (by decide) dL_isSo_577 ?_
    refine g_iconst (v := 4) hC (by decide) dL_isSo_579 ?_
    refine g_iload hC 10 rfl dL_isSo_580 ?_
    refine g_imul hC dL_isSo_582 ?_
    refine g_iadd hC dL_isSo_583 ?_
    obtain ⟨g145, h⟩ := gq_g_i h
    refine g_iald hC arL_120 (gq_in_i g145) dL_isSo_584 ?_
    refine g_topi (fun v146 hv146 => ?_)
    replace h := gq_l_i hv146 h
    refine g_iadd hC dL_isSo_585 ?_
    refine g_aload hC 6 rfl dL_isSo_586 ?_
    refine g_bipush (v := 34) hC (by decide) dL_isSo_588 ?_
    refine g_iconst (v := 4) hC (by decide) dL_isSo_590 ?_
    refine g_iload hC 10 rfl dL_isSo_591 ?_
    refine g_imul hC dL_isSo_593 ?_
    refine g_iadd hC dL_isSo_594 ?_
    obtain ⟨g147, h⟩ := gq_g_i h
    refine g_iald hC arL_120 (gq_in_i g147) dL_isSo_595 ?_
    refine g_topi (fun v148 hv148 => ?_)
    replace h := gq_l_i hv148 h
    refine g_iadd hC dL_isSo_596 ?_
    refine g_aload hC 6 rfl dL_isSo_597 ?_
    refine g_bipush (v := 35) hC (by decide) dL_isSo_599 ?_
    refine g_iconst (v := 4) hC (by decide) dL_isSo_601 ?_
    refine g_iload hC 10 rfl dL_isSo_602 ?_
    refine g_imul hC dL_isSo_604 ?_
    refine g_iadd hC dL_isSo_605 ?_
    obtain ⟨g149, h⟩ := gq_g_i h
    refine g_iald hC arL_120 (gq_in_i g149) dL_isSo_606 ?_
    refine g_topi (fun v150 hv150 => ?_)
    replace h := gq_l_i hv150 h
    refine g_iadd hC dL_isSo_607 ?_
    refine g_istore (L2 := [(16, .int (((v144 + v146) + v148) + v150)), (0, .ref (ad 0)), (1, .ref (ad 109)), (2, .ref (ad 110)), (4, .ref (ad 112)), (5, .ref (ad 113)), (8, .ref (ad 119)), (9, .ref (ad 120)), (10, .ref (ad 121)), (11, .ref (ad 122)), (12, .int x12), (14, .int x14), (15, .int x15)]) hC (by decide) rfl dL_isSo_608 ?_
    refine g_aload_n hC 1 rfl rfl dL_isSo_610 ?_
    refine g_iload hC 11 rfl dL_isSo_611 ?_
    refine g_iconst (v := 0) hC (by decide) dL_isSo_613 ?_
    obtain ⟨v151, Cv151, c152, h⟩ := gq_y0_i h
    refine g_LXi (mt1 := mtC) (mt2 := mtA) (as := [.int x14, .int 0]) hC hZ.1 (t_X9_account hl9 N _ _ _ _ _ _ c152) mV_X9_account wm_L_169 obC_0 rfl rfl (Nat.le_of_ble_eq_true rfl) ⟨Nat.le_of_ble_eq_true rfl, Nat.le_of_ble_eq_true rfl⟩ ⟨Nat.le_of_ble_eq_true rfl, Nat.le_of_ble_eq_true rfl⟩ dL_isSo_614 mtC_len (fun _ => ?_) (fun hx => absurd rfl hx)
    refine g_widen (kc2 := 0) (ks2 := 0) (Nat.le_refl _) (Nat.le_refl _) ?_
    refine g_topM (fun M153 hM153 => ?_)
    replace h := gq_l_i hM153 h
    refine g_aload hC 6 rfl dL_isSo_617 ?_
    refine g_bipush (v := 24) hC (by decide) dL_isSo_619 ?_
    refine g_iload hC 11 rfl dL_isSo_621 ?_
    refine g_iadd hC dL_isSo_623 ?_
    obtain ⟨g154, h⟩ := gq_g_i h
    refine g_iald hC arL_119 (gq_in_i g154) dL_isSo_624 ?_
    refine g_topi (fun v155 hv155 => ?_)
    replace h := gq_l_i hv155 h
    refine g_icmp_ne (tgt := 707) hC (by decide) dL_isSo_625 (fun c156 => ?_) (fun c156 => ?_)
    · replace h := gq_f c156 h
      exact g_weak [1, 2, 3, 4, 5, 6, 7, 8, 9, 10, 11] rfl (t_L_isSo_707 hl9 hZ hC hr hk507 x12 x14 M153 h)
    · replace h := gq_t c156 h
      refine g_aload_n hC 1 rfl rfl dL_isSo_628 ?_
      refine g_iload hC 11 rfl dL_isSo_629 ?_
      refine g_iconst (v := 1) hC (by decide) dL_isSo_631 ?_
      obtain ⟨v157, Cv157, c158, h⟩ := gq_y0_i h
      refine g_LXi (mt1 := mtC) (mt2 := mtA) (as := [.int x14, .int 1]) hC hZ.1 (t_X9_account hl9 N _ _ _ _ _ _ c158) mV_X9_account wm_L_169 obC_0 rfl rfl (Nat.le_of_ble_eq_true rfl) ⟨Nat.le_of_ble_eq_true rfl, Nat.le_of_ble_eq_true rfl⟩ ⟨Nat.le_of_ble_eq_true rfl, Nat.le_of_ble_eq_true rfl⟩ dL_isSo_632 mtC_len (fun _ => ?_) (fun hx => absurd rfl hx)
      refine g_widen (kc2 := 0) (ks2 := 0) (Nat.le_refl _) (Nat.le_refl _) ?_
      refine g_topM (fun M159 hM159 => ?_)
      replace h := gq_l_i hM159 h
      refine g_aload hC 6 rfl dL_isSo_635 ?_
      refine g_bipush (v := 40) hC (by decide) dL_isSo_637 ?_
      refine g_iload hC 11 rfl dL_isSo_639 ?_
      refine g_iadd hC dL_isSo_641 ?_
      obtain ⟨g160, h⟩ := gq_g_i h
      refine g_iald hC arL_119 (gq_in_i g160) dL_isSo_642 ?_
      refine g_topi (fun v161 hv161 => ?_)
      replace h := gq_l_i hv161 h
      refine g_icmp_ne (tgt := 707) hC (by decide) dL_isSo_643 (fun c162 => ?_) (fun c162 => ?_)
      · replace h := gq_f c162 h
        exact g_weak [1, 2, 3, 4, 5, 6, 7, 8, 9, 10, 11] rfl (t_L_isSo_707 hl9 hZ hC hr hk507 x12 x14 M159 h)
      · replace h := gq_t c162 h
        refine g_aload_n hC 1 rfl rfl dL_isSo_646 ?_
        refine g_iload hC 11 rfl dL_isSo_647 ?_
        refine g_iconst (v := 2) hC (by decide) dL_isSo_649 ?_
        obtain ⟨v163, Cv163, c164, h⟩ := gq_y0_i h
        refine g_LXi (mt1 := mtC) (mt2 := mtA) (as := [.int x14, .int 2]) hC hZ.1 (t_X9_account hl9 N _ _ _ _ _ _ c164) mV_X9_account wm_L_169 obC_0 rfl rfl (Nat.le_of_ble_eq_true rfl) ⟨Nat.le_of_ble_eq_true rfl, Nat.le_of_ble_eq_true rfl⟩ ⟨Nat.le_of_ble_eq_true rfl, Nat.le_of_ble_eq_true rfl⟩ dL_isSo_650 mtC_len (fun _ => ?_) (fun hx => absurd rfl hx)
        refine g_widen (kc2 := 0) (ks2 := 0) (Nat.le_refl _) (Nat.le_refl _) ?_
        refine g_topM (fun M165 hM165 => ?_)
        replace h := gq_l_i hM165 h
        refine g_iload hC 12 rfl dL_isSo_653 ?_
        refine g_icmp_ne (tgt := 707) hC (by decide) dL_isSo_655 (fun c166 => ?_) (fun c166 => ?_)
        · replace h := gq_f c166 h
          exact g_weak [1, 2, 3, 4, 5, 6, 7, 8, 9, 10, 11] rfl (t_L_isSo_707 hl9 hZ hC hr hk507 x12 x14 M165 h)
        · replace h := gq_t c166 h
          refine g_aload_n hC 1 rfl rfl dL_isSo_658 ?_
          refine g_iload hC 11 rfl dL_isSo_659 ?_
          refine g_iconst (v := 0) hC (by decide) dL_isSo_661 ?_
          obtain ⟨v167, Cv167, c168, h⟩ := gq_y0_i h
          refine g_LXi (mt1 := mtC) (mt2 := mtA) (as := [.int x14, .int 0]) hC hZ.1 (t_X9_ship hl9 N _ _ _ _ _ _ c168) mV_X9_ship wm_L_172 obC_0 rfl rfl (Nat.le_of_ble_eq_true rfl) ⟨Nat.le_of_ble_eq_true rfl, Nat.le_of_ble_eq_true rfl⟩ ⟨Nat.le_of_ble_eq_true rfl, Nat.le_of_ble_eq_true rfl⟩ dL_isSo_662 mtC_len (fun _ => ?_) (fun hx => absurd rfl hx)
          refine g_widen (kc2 := 0) (ks2 := 0) (Nat.le_refl _) (Nat.le_refl _) ?_
          refine g_topM (fun M169 hM169 => ?_)
          replace h := gq_l_i hM169 h
          refine g_aload hC 8 rfl dL_isSo_665 ?_
          refine g_bipush (v := 16) hC (by decide) dL_isSo_667 ?_
          refine g_iload hC 11 rfl dL_isSo_669 ?_
          refine g_iadd hC dL_isSo_671 ?_
          obtain ⟨g170, h⟩ := gq_g_i h
          refine g_iald hC arL_121 (gq_in_i g170) dL_isSo_672 ?_
          refine g_topi (fun v171 hv171 => ?_)
          replace h := gq_l_i hv171 h
          refine g_icmp_ne (tgt := 707) hC (by decide) dL_isSo_673 (fun c172 => ?_) (fun c172 => ?_)
          · replace h := gq_f c172 h
            exact g_weak [1, 2, 3, 4, 5, 6, 7, 8, 9, 10, 11] rfl (t_L_isSo_707 hl9 hZ hC hr hk507 x12 x14 M169 h)
          · replace h := gq_t c172 h
            refine g_aload_n hC 1 rfl rfl dL_isSo_676 ?_
            refine g_iload hC 11 rfl dL_isSo_677 ?_
            refine g_iconst (v := 1) hC (by decide) dL_isSo_679 ?_
            obtain ⟨v173, Cv173, c174, h⟩ := gq_y0_i h
            refine g_LXi (mt1 := mtC) (mt2 := mtA) (as := [.int x14, .int 1]) hC hZ.1 (t_X9_ship hl9 N _ _ _ _ _ _ c174) mV_X9_ship wm_L_172 obC_0 rfl rfl (Nat.le_of_ble_eq_true rfl) ⟨Nat.le_of_ble_eq_true rfl, Nat.le_of_ble_eq_true rfl⟩ ⟨Nat.le_of_ble_eq_true rfl, Nat.le_of_ble_eq_true rfl⟩ dL_isSo_680 mtC_len (fun _ => ?_) (fun hx => absurd rfl hx)
            refine g_widen (kc2 := 0) (ks2 := 0) (Nat.le_refl _) (Nat.le_refl _) ?_
            refine g_topM (fun M175 hM175 => ?_)
            replace h := gq_l_i hM175 h
            refine g_aload hC 8 rfl dL_isSo_683 ?_
            refine g_iload hC 11 rfl dL_isSo_685 ?_
            obtain ⟨g176, h⟩ := gq_g_i h
            refine g_iald hC arL_121 (gq_in_i g176) dL_isSo_687 ?_
            refine g_topi (fun v177 hv177 => ?_)
            replace h := gq_l_i hv177 h
            refine g_icmp_ne (tgt := 707) hC (by decide) dL_isSo_688 (fun c178 => ?_) (fun c178 => ?_)
            · replace h := gq_f c178 h
              exact g_weak [1, 2, 3, 4, 5, 6, 7, 8, 9, 10, 11] rfl (t_L_isSo_707 hl9 hZ hC hr hk507 x12 x14 M175 h)
            · replace h := gq_t c178 h
              refine g_aload_n hC 1 rfl rfl dL_isSo_691 ?_
              refine g_iload hC 11 rfl dL_isSo_692 ?_
              refine g_iconst (v := 2) hC (by decide) dL_isSo_694 ?_
              obtain ⟨v179, Cv179, c180, h⟩ := gq_y0_i h
              refine g_LXi (mt1 := mtC) (mt2 := mtA) (as := [.int x14, .int 2]) hC hZ.1 (t_X9_ship hl9 N _ _ _ _ _ _ c180) mV_X9_ship wm_L_172 obC_0 rfl rfl (Nat.le_of_ble_eq_true rfl) ⟨Nat.le_of_ble_eq_true rfl, Nat.le_of_ble_eq_true rfl⟩ ⟨Nat.le_of_ble_eq_true rfl, Nat.le_of_ble_eq_true rfl⟩ dL_isSo_695 mtC_len (fun _ => ?_) (fun hx => absurd rfl hx)
              refine g_widen (kc2 := 0) (ks2 := 0) (Nat.le_refl _) (Nat.le_refl _) ?_
              refine g_topM (fun M181 hM181 => ?_)
              replace h := gq_l_i hM181 h
              refine g_iload hC 0 rfl dL_isSo_698 ?_
              refine g_icmp_ne (tgt := 707) hC (by decide) dL_isSo_700 (fun c182 => ?_) (fun c182 => ?_)
              · replace h := gq_f c182 h
                exact g_weak [1, 2, 3, 4, 5, 6, 7, 8, 9, 10, 11] rfl (t_L_isSo_707 hl9 hZ hC hr hk507 x12 x14 M181 h)
              · replace h := gq_t c182 h
                refine g_iconst (v := 1) hC (by decide) dL_isSo_703 ?_
                refine g_goto (tgt := 708) hC (by decide) dL_isSo_704 ?_
                exact g_weak [1, 2, 3, 4, 5, 6, 7, 8, 9, 10, 11] rfl (t_L_isSo_708 hl9 hZ hC hr hk507 x12 x14 1 M181 h)
  · replace h := gq_f c142 h
    refine g_iload hC 11 rfl dL_isSo_534 ?_
    refine g_aload hC 3 rfl dL_isSo_536 ?_
    refine g_iload hC 12 rfl dL_isSo_538 ?_
    obtain ⟨g183, h⟩ := gq_g_i h
    refine g_iald hC arL_112 (gq_in_i g183) dL_isSo_540 ?_
    refine g_topi (fun v184 hv184 => ?_)
    replace h := gq_l_i hv184 h
    refine g_bipush (v := 16) hC (by decide) dL_isSo_541 ?_
    refine g_irem hC (by decide) dL_isSo_543 ?_
    refine g_iload hC 10 rfl dL_isSo_544 ?_
    refine g_iconst (v := 1) hC (by decide) dL_isSo_546 ?_
    refine g_iadd hC dL_isSo_547 ?_
    refine g_icmp_ne (tgt := 555) hC (by decide) dL_isSo_548 (fun c185 => ?_) (fun c185 => ?_)
    · replace h := gq_f c185 h
      refine g_iconst (v := 0) hC (by decide) dL_isSo_555 ?_
      exact g_weak [0, 1, 2, 3, 4, 5, 6, 7, 8, 9, 10, 12] rfl (t_L_isSo_556 hl9 hZ hC hr hk507 hk525 x12 x14 x16 x15 0 M h)
    · replace h := gq_t c185 h
      refine g_iconst (v := 1) hC (by decide) dL_isSo_551 ?_
      refine g_goto (tgt := 556) hC (by decide) dL_isSo_552 ?_
      exact g_weak [0, 1, 2, 3, 4, 5, 6, 7, 8, 9, 10, 12] rfl (t_L_isSo_556 hl9 hZ hC hr hk507 hk525 x12 x14 x16 x15 1 M h)
theorem t_L_isSo_525 {N : Nat} {kh507 : Int32 → Int32 → Int32 → gq_M → Option (Int32 × gq_M)} {v9 : Int32} {M9 : gq_M} (hl9 : l.stackTraces = false) (hZ : gq_Zn A s) (hC : gq_C p s m args meth c D A cI cZ ad mtL RL cL_isSo 20) (hr : meth.sig.returnType = (some .boolean)) (hk507 : ∀ (x12 : Int32) (x13 : Int32) (x14 : Int32) (M : gq_M), kh507 x12 x13 x14 M = some (v9, M9) → gq_W p l e (gq_rl 10 3 18) s m args below meth c D A cI cZ ad mtL 20 (gq_NQ below D cI cZ ad mtL v9 M9 args s 3 18 A) 507 [(0, .ref (ad 0)), (1, .ref (ad 109)), (2, .ref (ad 110)), (4, .ref (ad 112)), (5, .ref (ad 113)), (8, .ref (ad 119)), (9, .ref (ad 120)), (10, .ref (ad 121)), (11, .ref (ad 122)), (12, .int x12), (13, .int x13), (14, .int x14)] [] M 0 0) : ∀ (n9 : Nat) (x12 : Int32) (x14 : Int32) (x15 : Int32) (x16 : Int32) (M : gq_M), f_L_isSo_525 N kh507 n9 x12 x14 x15 x16 M = some (v9, M9) → gq_W p l e (gq_rl 10 3 18) s m args below meth c D A cI cZ ad mtL 20 (gq_NQ below D cI cZ ad mtL v9 M9 args s 3 18 A) 525 [(0, .ref (ad 0)), (1, .ref (ad 109)), (2, .ref (ad 110)), (4, .ref (ad 112)), (5, .ref (ad 113)), (8, .ref (ad 119)), (9, .ref (ad 120)), (10, .ref (ad 121)), (11, .ref (ad 122)), (12, .int x12), (14, .int x14), (15, .int x15), (16, .int x16)] [] M 0 0 := by
  intro n9
  induction n9 with
  | zero => intro x12 x14 x15 x16 M h; cases h
  | succ n9 ih => intro x12 x14 x15 x16 M h; exact t_L_isSo_525_b hl9 hZ hC hr hk507 ih x12 x14 x15 x16 M h
def f_L_isSo_507_b (N : Nat) (kh507 : Int32 → Int32 → Int32 → gq_M → Option (Int32 × gq_M)) (x12 : Int32) (x13 : Int32) (x14 : Int32) (M : gq_M) : Option (Int32 × gq_M) :=
  if 8 ≤ x14 then (f_L_isSo_716 N  x12 x13 M) else (if x13 = 0 then (f_L_isSo_716 N  x12 x13 M) else (f_L_isSo_525 N kh507 N x12 x14 0 0 M))
def f_L_isSo_507 (N : Nat) : Nat → Int32 → Int32 → Int32 → gq_M → Option (Int32 × gq_M)
  | 0 => fun _ _ _ _ => none
  | n9 + 1 => f_L_isSo_507_b N  (f_L_isSo_507 N  n9)
set_option maxHeartbeats 1000000 in
set_option maxRecDepth 20000 in
theorem t_L_isSo_507_b {N : Nat} {kh507 : Int32 → Int32 → Int32 → gq_M → Option (Int32 × gq_M)} {v9 : Int32} {M9 : gq_M} (hl9 : l.stackTraces = false) (hZ : gq_Zn A s) (hC : gq_C p s m args meth c D A cI cZ ad mtL RL cL_isSo 20) (hr : meth.sig.returnType = (some .boolean))  (hk507 : ∀ (x12 : Int32) (x13 : Int32) (x14 : Int32) (M : gq_M), kh507 x12 x13 x14 M = some (v9, M9) → gq_W p l e (gq_rl 10 3 18) s m args below meth c D A cI cZ ad mtL 20 (gq_NQ below D cI cZ ad mtL v9 M9 args s 3 18 A) 507 [(0, .ref (ad 0)), (1, .ref (ad 109)), (2, .ref (ad 110)), (4, .ref (ad 112)), (5, .ref (ad 113)), (8, .ref (ad 119)), (9, .ref (ad 120)), (10, .ref (ad 121)), (11, .ref (ad 122)), (12, .int x12), (13, .int x13), (14, .int x14)] [] M 0 0) : ∀ (x12 : Int32) (x13 : Int32) (x14 : Int32) (M : gq_M), f_L_isSo_507_b N  kh507 x12 x13 x14 M = some (v9, M9) → gq_W p l e (gq_rl 10 3 18) s m args below meth c D A cI cZ ad mtL 20 (gq_NQ below D cI cZ ad mtL v9 M9 args s 3 18 A) 507 [(0, .ref (ad 0)), (1, .ref (ad 109)), (2, .ref (ad 110)), (4, .ref (ad 112)), (5, .ref (ad 113)), (8, .ref (ad 119)), (9, .ref (ad 120)), (10, .ref (ad 121)), (11, .ref (ad 122)), (12, .int x12), (13, .int x13), (14, .int x14)] [] M 0 0 := by
  intro x12 x13 x14 M h
  unfold f_L_isSo_507_b at h
  refine g_iload hC 11 rfl dL_isSo_507 ?_
  refine g_bipush (v := 8) hC (by decide) dL_isSo_509 ?_
  refine g_icmp_ge (tgt := 716) hC (by decide) dL_isSo_511 (fun c138 => ?_) (fun c138 => ?_)
  · replace h := gq_t c138 h
    exact g_weak [0, 1, 2, 3, 4, 5, 8, 9, 10] rfl (t_L_isSo_716 hl9 hZ hC hr  x12 x13 M h)
  · replace h := gq_f c138 h
    refine g_iload hC 10 rfl dL_isSo_514 ?_
    refine g_if_eq (tgt := 716) hC (by decide) dL_isSo_516 (fun c139 => ?_) (fun c139 => ?_)
    · replace h := gq_t c139 h
      exact g_weak [0, 1, 2, 3, 4, 5, 8, 9, 10] rfl (t_L_isSo_716 hl9 hZ hC hr  x12 x13 M h)
    · replace h := gq_f c139 h
      refine g_iconst (v := 0) hC (by decide) dL_isSo_519 ?_
      refine g_istore (L2 := [(15, .int 0), (0, .ref (ad 0)), (1, .ref (ad 109)), (2, .ref (ad 110)), (4, .ref (ad 112)), (5, .ref (ad 113)), (8, .ref (ad 119)), (9, .ref (ad 120)), (10, .ref (ad 121)), (11, .ref (ad 122)), (12, .int x12), (13, .int x13), (14, .int x14)]) hC (by decide) rfl dL_isSo_520 ?_
      refine g_iconst (v := 0) hC (by decide) dL_isSo_522 ?_
      refine g_istore (L2 := [(16, .int 0), (15, .int 0), (0, .ref (ad 0)), (1, .ref (ad 109)), (2, .ref (ad 110)), (4, .ref (ad 112)), (5, .ref (ad 113)), (8, .ref (ad 119)), (9, .ref (ad 120)), (10, .ref (ad 121)), (11, .ref (ad 122)), (12, .int x12), (13, .int x13), (14, .int x14)]) hC (by decide) rfl dL_isSo_523 ?_
      exact g_weak [2, 3, 4, 5, 6, 7, 8, 9, 10, 11, 13, 1, 0] rfl (t_L_isSo_525 hl9 hZ hC hr hk507 N x12 x14 0 0 M h)
theorem t_L_isSo_507 {N : Nat} {v9 : Int32} {M9 : gq_M} (hl9 : l.stackTraces = false) (hZ : gq_Zn A s) (hC : gq_C p s m args meth c D A cI cZ ad mtL RL cL_isSo 20) (hr : meth.sig.returnType = (some .boolean))  : ∀ (n9 : Nat) (x12 : Int32) (x13 : Int32) (x14 : Int32) (M : gq_M), f_L_isSo_507 N  n9 x12 x13 x14 M = some (v9, M9) → gq_W p l e (gq_rl 10 3 18) s m args below meth c D A cI cZ ad mtL 20 (gq_NQ below D cI cZ ad mtL v9 M9 args s 3 18 A) 507 [(0, .ref (ad 0)), (1, .ref (ad 109)), (2, .ref (ad 110)), (4, .ref (ad 112)), (5, .ref (ad 113)), (8, .ref (ad 119)), (9, .ref (ad 120)), (10, .ref (ad 121)), (11, .ref (ad 122)), (12, .int x12), (13, .int x13), (14, .int x14)] [] M 0 0 := by
  intro n9
  induction n9 with
  | zero => intro x12 x13 x14 M h; cases h
  | succ n9 ih => intro x12 x13 x14 M h; exact t_L_isSo_507_b hl9 hZ hC hr  ih x12 x13 x14 M h
def f_L_isSo_504 (N : Nat) (x12 : Int32) (x13 : Int32) (M : gq_M) : Option (Int32 × gq_M) :=
  f_L_isSo_507 N  N x12 x13 0 M
set_option maxHeartbeats 1000000 in
set_option maxRecDepth 20000 in
theorem t_L_isSo_504 {N : Nat} {v9 : Int32} {M9 : gq_M} (hl9 : l.stackTraces = false) (hZ : gq_Zn A s) (hC : gq_C p s m args meth c D A cI cZ ad mtL RL cL_isSo 20) (hr : meth.sig.returnType = (some .boolean))   : ∀ (x12 : Int32) (x13 : Int32) (M : gq_M), f_L_isSo_504 N  x12 x13 M = some (v9, M9) → gq_W p l e (gq_rl 10 3 18) s m args below meth c D A cI cZ ad mtL 20 (gq_NQ below D cI cZ ad mtL v9 M9 args s 3 18 A) 504 [(0, .ref (ad 0)), (1, .ref (ad 109)), (2, .ref (ad 110)), (4, .ref (ad 112)), (5, .ref (ad 113)), (8, .ref (ad 119)), (9, .ref (ad 120)), (10, .ref (ad 121)), (11, .ref (ad 122)), (12, .int x12), (13, .int x13)] [] M 0 0 := by
  intro x12 x13 M h
  unfold f_L_isSo_504 at h
  refine g_iconst (v := 0) hC (by decide) dL_isSo_504 ?_
  refine g_istore (L2 := [(14, .int 0), (0, .ref (ad 0)), (1, .ref (ad 109)), (2, .ref (ad 110)), (4, .ref (ad 112)), (5, .ref (ad 113)), (8, .ref (ad 119)), (9, .ref (ad 120)), (10, .ref (ad 121)), (11, .ref (ad 122)), (12, .int x12), (13, .int x13)]) hC (by decide) rfl dL_isSo_505 ?_
  exact g_weak [1, 2, 3, 4, 5, 6, 7, 8, 9, 10, 11, 0] rfl (t_L_isSo_507 hl9 hZ hC hr  N x12 x13 0 M h)
def f_L_isSo_496 (N : Nat) (kh332 : Int32 → Int32 → Int32 → gq_M → Option (Int32 × gq_M)) (x12 : Int32) (x14 : Int32) (s0 : Int32) (M : gq_M) : Option (Int32 × gq_M) :=
  kh332 x12 s0 (x14 + 1) M
set_option maxHeartbeats 1000000 in
set_option maxRecDepth 20000 in
theorem t_L_isSo_496 {N : Nat} {kh332 : Int32 → Int32 → Int32 → gq_M → Option (Int32 × gq_M)} {v9 : Int32} {M9 : gq_M} (hl9 : l.stackTraces = false) (hZ : gq_Zn A s) (hC : gq_C p s m args meth c D A cI cZ ad mtL RL cL_isSo 20) (hr : meth.sig.returnType = (some .boolean)) (hk332 : ∀ (x12 : Int32) (x13 : Int32) (x14 : Int32) (M : gq_M), kh332 x12 x13 x14 M = some (v9, M9) → gq_W p l e (gq_rl 10 3 18) s m args below meth c D A cI cZ ad mtL 20 (gq_NQ below D cI cZ ad mtL v9 M9 args s 3 18 A) 332 [(0, .ref (ad 0)), (1, .ref (ad 109)), (2, .ref (ad 110)), (4, .ref (ad 112)), (5, .ref (ad 113)), (6, .ref (ad 114)), (7, .ref (ad 115)), (8, .ref (ad 119)), (9, .ref (ad 120)), (10, .ref (ad 121)), (11, .ref (ad 122)), (12, .int x12), (13, .int x13), (14, .int x14)] [] M 0 0)  : ∀ (x12 : Int32) (x14 : Int32) (s0 : Int32) (M : gq_M), f_L_isSo_496 N kh332 x12 x14 s0 M = some (v9, M9) → gq_W p l e (gq_rl 10 3 18) s m args below meth c D A cI cZ ad mtL 20 (gq_NQ below D cI cZ ad mtL v9 M9 args s 3 18 A) 496 [(0, .ref (ad 0)), (1, .ref (ad 109)), (2, .ref (ad 110)), (4, .ref (ad 112)), (5, .ref (ad 113)), (6, .ref (ad 114)), (7, .ref (ad 115)), (8, .ref (ad 119)), (9, .ref (ad 120)), (10, .ref (ad 121)), (11, .ref (ad 122)), (12, .int x12), (14, .int x14)] [.int s0] M 0 0 := by
  intro x12 x14 s0 M h
  unfold f_L_isSo_496 at h
  refine g_istore (L2 := [(13, .int s0), (0, .ref (ad 0)), (1, .ref (ad 109)), (2, .ref (ad 110)), (4, .ref (ad 112)), (5, .ref (ad 113)), (6, .ref (ad 114)), (7, .ref (ad 115)), (8, .ref (ad 119)), (9, .ref (ad 120)), (10, .ref (ad 121)), (11, .ref (ad 122)), (12, .int x12), (14, .int x14)]) hC (by decide) rfl dL_isSo_496 ?_
  refine g_iinc (v := (x14 + 1)) (L2 := [(14, .int (x14 + 1)), (13, .int s0), (0, .ref (ad 0)), (1, .ref (ad 109)), (2, .ref (ad 110)), (4, .ref (ad 112)), (5, .ref (ad 113)), (6, .ref (ad 114)), (7, .ref (ad 115)), (8, .ref (ad 119)), (9, .ref (ad 120)), (10, .ref (ad 121)), (11, .ref (ad 122)), (12, .int x12)]) hC 13 rfl (by first | rfl | decide) (by decide) rfl dL_isSo_498 ?_
  refine g_goto (tgt := 332) hC (by decide) dL_isSo_501 ?_
  exact g_weak [2, 3, 4, 5, 6, 7, 8, 9, 10, 11, 12, 13, 1, 0] rfl (hk332 x12 s0 (x14 + 1) M h)
def f_L_isSo_495 (N : Nat) (kh332 : Int32 → Int32 → Int32 → gq_M → Option (Int32 × gq_M)) (x12 : Int32) (x14 : Int32) (M : gq_M) : Option (Int32 × gq_M) :=
  f_L_isSo_496 N kh332 x12 x14 0 M
set_option maxHeartbeats 1000000 in
set_option maxRecDepth 20000 in
theorem t_L_isSo_495 {N : Nat} {kh332 : Int32 → Int32 → Int32 → gq_M → Option (Int32 × gq_M)} {v9 : Int32} {M9 : gq_M} (hl9 : l.stackTraces = false) (hZ : gq_Zn A s) (hC : gq_C p s m args meth c D A cI cZ ad mtL RL cL_isSo 20) (hr : meth.sig.returnType = (some .boolean)) (hk332 : ∀ (x12 : Int32) (x13 : Int32) (x14 : Int32) (M : gq_M), kh332 x12 x13 x14 M = some (v9, M9) → gq_W p l e (gq_rl 10 3 18) s m args below meth c D A cI cZ ad mtL 20 (gq_NQ below D cI cZ ad mtL v9 M9 args s 3 18 A) 332 [(0, .ref (ad 0)), (1, .ref (ad 109)), (2, .ref (ad 110)), (4, .ref (ad 112)), (5, .ref (ad 113)), (6, .ref (ad 114)), (7, .ref (ad 115)), (8, .ref (ad 119)), (9, .ref (ad 120)), (10, .ref (ad 121)), (11, .ref (ad 122)), (12, .int x12), (13, .int x13), (14, .int x14)] [] M 0 0)  : ∀ (x12 : Int32) (x14 : Int32) (M : gq_M), f_L_isSo_495 N kh332 x12 x14 M = some (v9, M9) → gq_W p l e (gq_rl 10 3 18) s m args below meth c D A cI cZ ad mtL 20 (gq_NQ below D cI cZ ad mtL v9 M9 args s 3 18 A) 495 [(0, .ref (ad 0)), (1, .ref (ad 109)), (2, .ref (ad 110)), (4, .ref (ad 112)), (5, .ref (ad 113)), (6, .ref (ad 114)), (7, .ref (ad 115)), (8, .ref (ad 119)), (9, .ref (ad 120)), (10, .ref (ad 121)), (11, .ref (ad 122)), (12, .int x12), (14, .int x14)] [] M 0 0 := by
  intro x12 x14 M h
  unfold f_L_isSo_495 at h
  refine g_iconst (v := 0) hC (by decide) dL_isSo_495 ?_
  exact g_weak [0, 1, 2, 3, 4, 5, 6, 7, 8, 9, 10, 11, 12] rfl (t_L_isSo_496 hl9 hZ hC hr hk332 x12 x14 0 M h)
def f_L_isSo_392 (N : Nat) (kh332 : Int32 → Int32 → Int32 → gq_M → Option (Int32 × gq_M)) (kh349 : Int32 → Int32 → Int32 → Int32 → gq_M → Option (Int32 × gq_M)) (x12 : Int32) (x14 : Int32) (x16 : Int32) (s0 : Int32) (s1 : Int32) (M : gq_M) : Option (Int32 × gq_M) :=
  kh349 x12 x14 (s0 + s1) (x16 + 1) M
set_option maxHeartbeats 1000000 in
set_option maxRecDepth 20000 in
theorem t_L_isSo_392 {N : Nat} {kh332 : Int32 → Int32 → Int32 → gq_M → Option (Int32 × gq_M)} {kh349 : Int32 → Int32 → Int32 → Int32 → gq_M → Option (Int32 × gq_M)} {v9 : Int32} {M9 : gq_M} (hl9 : l.stackTraces = false) (hZ : gq_Zn A s) (hC : gq_C p s m args meth c D A cI cZ ad mtL RL cL_isSo 20) (hr : meth.sig.returnType = (some .boolean)) (hk332 : ∀ (x12 : Int32) (x13 : Int32) (x14 : Int32) (M : gq_M), kh332 x12 x13 x14 M = some (v9, M9) → gq_W p l e (gq_rl 10 3 18) s m args below meth c D A cI cZ ad mtL 20 (gq_NQ below D cI cZ ad mtL v9 M9 args s 3 18 A) 332 [(0, .ref (ad 0)), (1, .ref (ad 109)), (2, .ref (ad 110)), (4, .ref (ad 112)), (5, .ref (ad 113)), (6, .ref (ad 114)), (7, .ref (ad 115)), (8, .ref (ad 119)), (9, .ref (ad 120)), (10, .ref (ad 121)), (11, .ref (ad 122)), (12, .int x12), (13, .int x13), (14, .int x14)] [] M 0 0) (hk349 : ∀ (x12 : Int32) (x14 : Int32) (x15 : Int32) (x16 : Int32) (M : gq_M), kh349 x12 x14 x15 x16 M = some (v9, M9) → gq_W p l e (gq_rl 10 3 18) s m args below meth c D A cI cZ ad mtL 20 (gq_NQ below D cI cZ ad mtL v9 M9 args s 3 18 A) 349 [(0, .ref (ad 0)), (1, .ref (ad 109)), (2, .ref (ad 110)), (4, .ref (ad 112)), (5, .ref (ad 113)), (6, .ref (ad 114)), (7, .ref (ad 115)), (8, .ref (ad 119)), (9, .ref (ad 120)), (10, .ref (ad 121)), (11, .ref (ad 122)), (12, .int x12), (14, .int x14), (15, .int x15), (16, .int x16)] [] M 0 0)  : ∀ (x12 : Int32) (x14 : Int32) (x16 : Int32) (s0 : Int32) (s1 : Int32) (M : gq_M), f_L_isSo_392 N kh332 kh349 x12 x14 x16 s0 s1 M = some (v9, M9) → gq_W p l e (gq_rl 10 3 18) s m args below meth c D A cI cZ ad mtL 20 (gq_NQ below D cI cZ ad mtL v9 M9 args s 3 18 A) 392 [(0, .ref (ad 0)), (1, .ref (ad 109)), (2, .ref (ad 110)), (4, .ref (ad 112)), (5, .ref (ad 113)), (6, .ref (ad 114)), (7, .ref (ad 115)), (8, .ref (ad 119)), (9, .ref (ad 120)), (10, .ref (ad 121)), (11, .ref (ad 122)), (12, .int x12), (14, .int x14), (16, .int x16)] [.int s1, .int s0] M 0 0 := by
  intro x12 x14 x16 s0 s1 M h
  unfold f_L_isSo_392 at h
  refine g_iadd hC dL_isSo_392 ?_
  refine g_istore (L2 := [(15, .int (s0 + s1)), (0, .ref (ad 0)), (1, .ref (ad 109)), (2, .ref (ad 110)), (4, .ref (ad 112)), (5, .ref (ad 113)), (6, .ref (ad 114)), (7, .ref (ad 115)), (8, .ref (ad 119)), (9, .ref (ad 120)), (10, .ref (ad 121)), (11, .ref (ad 122)), (12, .int x12), (14, .int x14), (16, .int x16)]) hC (by decide) rfl dL_isSo_393 ?_
  refine g_iinc (v := (x16 + 1)) (L2 := [(16, .int (x16 + 1)), (15, .int (s0 + s1)), (0, .ref (ad 0)), (1, .ref (ad 109)), (2, .ref (ad 110)), (4, .ref (ad 112)), (5, .ref (ad 113)), (6, .ref (ad 114)), (7, .ref (ad 115)), (8, .ref (ad 119)), (9, .ref (ad 120)), (10, .ref (ad 121)), (11, .ref (ad 122)), (12, .int x12), (14, .int x14)]) hC 14 rfl (by first | rfl | decide) (by decide) rfl dL_isSo_395 ?_
  refine g_goto (tgt := 349) hC (by decide) dL_isSo_398 ?_
  exact g_weak [2, 3, 4, 5, 6, 7, 8, 9, 10, 11, 12, 13, 14, 1, 0] rfl (hk349 x12 x14 (s0 + s1) (x16 + 1) M h)
def f_L_isSo_391 (N : Nat) (kh332 : Int32 → Int32 → Int32 → gq_M → Option (Int32 × gq_M)) (kh349 : Int32 → Int32 → Int32 → Int32 → gq_M → Option (Int32 × gq_M)) (x12 : Int32) (x14 : Int32) (x16 : Int32) (s0 : Int32) (M : gq_M) : Option (Int32 × gq_M) :=
  f_L_isSo_392 N kh332 kh349 x12 x14 x16 s0 0 M
set_option maxHeartbeats 1000000 in
set_option maxRecDepth 20000 in
theorem t_L_isSo_391 {N : Nat} {kh332 : Int32 → Int32 → Int32 → gq_M → Option (Int32 × gq_M)} {kh349 : Int32 → Int32 → Int32 → Int32 → gq_M → Option (Int32 × gq_M)} {v9 : Int32} {M9 : gq_M} (hl9 : l.stackTraces = false) (hZ : gq_Zn A s) (hC : gq_C p s m args meth c D A cI cZ ad mtL RL cL_isSo 20) (hr : meth.sig.returnType = (some .boolean)) (hk332 : ∀ (x12 : Int32) (x13 : Int32) (x14 : Int32) (M : gq_M), kh332 x12 x13 x14 M = some (v9, M9) → gq_W p l e (gq_rl 10 3 18) s m args below meth c D A cI cZ ad mtL 20 (gq_NQ below D cI cZ ad mtL v9 M9 args s 3 18 A) 332 [(0, .ref (ad 0)), (1, .ref (ad 109)), (2, .ref (ad 110)), (4, .ref (ad 112)), (5, .ref (ad 113)), (6, .ref (ad 114)), (7, .ref (ad 115)), (8, .ref (ad 119)), (9, .ref (ad 120)), (10, .ref (ad 121)), (11, .ref (ad 122)), (12, .int x12), (13, .int x13), (14, .int x14)] [] M 0 0) (hk349 : ∀ (x12 : Int32) (x14 : Int32) (x15 : Int32) (x16 : Int32) (M : gq_M), kh349 x12 x14 x15 x16 M = some (v9, M9) → gq_W p l e (gq_rl 10 3 18) s m args below meth c D A cI cZ ad mtL 20 (gq_NQ below D cI cZ ad mtL v9 M9 args s 3 18 A) 349 [(0, .ref (ad 0)), (1, .ref (ad 109)), (2, .ref (ad 110)), (4, .ref (ad 112)), (5, .ref (ad 113)), (6, .ref (ad 114)), (7, .ref (ad 115)), (8, .ref (ad 119)), (9, .ref (ad 120)), (10, .ref (ad 121)), (11, .ref (ad 122)), (12, .int x12), (14, .int x14), (15, .int x15), (16, .int x16)] [] M 0 0)  : ∀ (x12 : Int32) (x14 : Int32) (x16 : Int32) (s0 : Int32) (M : gq_M), f_L_isSo_391 N kh332 kh349 x12 x14 x16 s0 M = some (v9, M9) → gq_W p l e (gq_rl 10 3 18) s m args below meth c D A cI cZ ad mtL 20 (gq_NQ below D cI cZ ad mtL v9 M9 args s 3 18 A) 391 [(0, .ref (ad 0)), (1, .ref (ad 109)), (2, .ref (ad 110)), (4, .ref (ad 112)), (5, .ref (ad 113)), (6, .ref (ad 114)), (7, .ref (ad 115)), (8, .ref (ad 119)), (9, .ref (ad 120)), (10, .ref (ad 121)), (11, .ref (ad 122)), (12, .int x12), (14, .int x14), (16, .int x16)] [.int s0] M 0 0 := by
  intro x12 x14 x16 s0 M h
  unfold f_L_isSo_391 at h
  refine g_iconst (v := 0) hC (by decide) dL_isSo_391 ?_
  exact g_weak [0, 1, 2, 3, 4, 5, 6, 7, 8, 9, 10, 11, 12, 13] rfl (t_L_isSo_392 hl9 hZ hC hr hk332 hk349 x12 x14 x16 s0 0 M h)
def f_L_isSo_349_b (N : Nat) (kh332 : Int32 → Int32 → Int32 → gq_M → Option (Int32 × gq_M)) (kh349 : Int32 → Int32 → Int32 → Int32 → gq_M → Option (Int32 × gq_M)) (x12 : Int32) (x14 : Int32) (x15 : Int32) (x16 : Int32) (M : gq_M) : Option (Int32 × gq_M) :=
  gq_g (gq_in 5 56) (gq_l (M 119 (5 : Int32).toNatClampNeg) fun v102 => if v102 ≤ x16 then (gq_y0 (f_X9_hall N x14 0 M) fun v104 Cv104 => gq_l (mrg 109 Cv104 M) fun M106 => gq_g (gq_in (8 * x14) 24) (gq_l (M106 115 ((8 * x14) : Int32).toNatClampNeg) fun v108 => if v104 = v108 then (gq_y0 (f_X9_hall N x14 1 M106) fun v110 Cv110 => gq_l (mrg 109 Cv110 M106) fun M112 => gq_g (gq_in ((8 * x14) + 1) 24) (gq_l (M112 115 (((8 * x14) + 1) : Int32).toNatClampNeg) fun v114 => if v110 = v114 then (gq_y0 (f_X9_hall N x14 2 M112) fun v116 Cv116 => gq_l (mrg 109 Cv116 M112) fun M118 => gq_g (gq_in ((8 * x14) + 2) 24) (gq_l (M118 115 (((8 * x14) + 2) : Int32).toNatClampNeg) fun v120 => if v116 = v120 then (gq_y0 (f_X9_hall N x14 3 M118) fun v122 Cv122 => gq_l (mrg 109 Cv122 M118) fun M124 => gq_g (gq_in ((8 * x14) + 4) 24) (gq_l (M124 115 (((8 * x14) + 4) : Int32).toNatClampNeg) fun v126 => if v122 = v126 then (gq_y0 (f_X9_hall N x14 4 M124) fun v128 Cv128 => gq_l (mrg 109 Cv128 M124) fun M130 => if v128 = x15 then (f_L_isSo_496 N kh332 x12 x14 1 M130) else (f_L_isSo_495 N kh332 x12 x14 M130)) else (f_L_isSo_495 N kh332 x12 x14 M124))) else (f_L_isSo_495 N kh332 x12 x14 M118))) else (f_L_isSo_495 N kh332 x12 x14 M112))) else (f_L_isSo_495 N kh332 x12 x14 M106))) else (gq_g (gq_in x16 40) (gq_l (M 114 x16.toNatClampNeg) fun v133 => if ((v133 / 2048) - (v133 / 2048) / 4 * 4) = x14 then (gq_g (gq_in x16 40) (gq_l (M 114 x16.toNatClampNeg) fun v136 => if 8192 ≤ v136 then (f_L_isSo_391 N kh332 kh349 x12 x14 x16 x15 M) else (f_L_isSo_392 N kh332 kh349 x12 x14 x16 x15 1 M))) else (f_L_isSo_391 N kh332 kh349 x12 x14 x16 x15 M))))
def f_L_isSo_349 (N : Nat) (kh332 : Int32 → Int32 → Int32 → gq_M → Option (Int32 × gq_M)) : Nat → Int32 → Int32 → Int32 → Int32 → gq_M → Option (Int32 × gq_M)
  | 0 => fun _ _ _ _ _ => none
  | n9 + 1 => f_L_isSo_349_b N kh332 (f_L_isSo_349 N kh332 n9)
set_option maxHeartbeats 1000000 in
set_option maxRecDepth 20000 in
theorem t_L_isSo_349_b {N : Nat} {kh332 : Int32 → Int32 → Int32 → gq_M → Option (Int32 × gq_M)} {kh349 : Int32 → Int32 → Int32 → Int32 → gq_M → Option (Int32 × gq_M)} {v9 : Int32} {M9 : gq_M} (hl9 : l.stackTraces = false) (hZ : gq_Zn A s) (hC : gq_C p s m args meth c D A cI cZ ad mtL RL cL_isSo 20) (hr : meth.sig.returnType = (some .boolean)) (hk332 : ∀ (x12 : Int32) (x13 : Int32) (x14 : Int32) (M : gq_M), kh332 x12 x13 x14 M = some (v9, M9) → gq_W p l e (gq_rl 10 3 18) s m args below meth c D A cI cZ ad mtL 20 (gq_NQ below D cI cZ ad mtL v9 M9 args s 3 18 A) 332 [(0, .ref (ad 0)), (1, .ref (ad 109)), (2, .ref (ad 110)), (4, .ref (ad 112)), (5, .ref (ad 113)), (6, .ref (ad 114)), (7, .ref (ad 115)), (8, .ref (ad 119)), (9, .ref (ad 120)), (10, .ref (ad 121)), (11, .ref (ad 122)), (12, .int x12), (13, .int x13), (14, .int x14)] [] M 0 0) (hk349 : ∀ (x12 : Int32) (x14 : Int32) (x15 : Int32) (x16 : Int32) (M : gq_M), kh349 x12 x14 x15 x16 M = some (v9, M9) → gq_W p l e (gq_rl 10 3 18) s m args below meth c D A cI cZ ad mtL 20 (gq_NQ below D cI cZ ad mtL v9 M9 args s 3 18 A) 349 [(0, .ref (ad 0)), (1, .ref (ad 109)), (2, .ref (ad 110)), (4, .ref (ad 112)), (5, .ref (ad 113)), (6, .ref (ad 114)), (7, .ref (ad 115)), (8, .ref (ad 119)), (9, .ref (ad 120)), (10, .ref (ad 121)), (11, .ref (ad 122)), (12, .int x12), (14, .int x14), (15, .int x15), (16, .int x16)] [] M 0 0) : ∀ (x12 : Int32) (x14 : Int32) (x15 : Int32) (x16 : Int32) (M : gq_M), f_L_isSo_349_b N kh332 kh349 x12 x14 x15 x16 M = some (v9, M9) → gq_W p l e (gq_rl 10 3 18) s m args below meth c D A cI cZ ad mtL 20 (gq_NQ below D cI cZ ad mtL v9 M9 args s 3 18 A) 349 [(0, .ref (ad 0)), (1, .ref (ad 109)), (2, .ref (ad 110)), (4, .ref (ad 112)), (5, .ref (ad 113)), (6, .ref (ad 114)), (7, .ref (ad 115)), (8, .ref (ad 119)), (9, .ref (ad 120)), (10, .ref (ad 121)), (11, .ref (ad 122)), (12, .int x12), (14, .int x14), (15, .int x15), (16, .int x16)] [] M 0 0 := by
  intro x12 x14 x15 x16 M h
  unfold f_L_isSo_349_b at h
  refine g_iload hC 14 rfl dL_isSo_349 ?_
  refine g_aload hC 7 rfl dL_isSo_351 ?_
  refine g_iconst (v := 5) hC (by decide) dL_isSo_353 ?_
  obtain ⟨g101, h⟩ := gq_g_i h
  refine g_iald hC arL_119 (gq_in_i g101) dL_isSo_354 ?_
  refine g_topi (fun v102 hv102 => ?_)
  replace h := gq_l_i hv102 h
  refine g_icmp_ge (tgt := 401) hC (by decide) dL_isSo_355 (fun c103 => ?_) (fun c103 => ?_)
  · replace h := gq_t c103 h
    refine g_aload_n hC 0 rfl rfl dL_isSo_401 ?_
    refine g_iload hC 12 rfl dL_isSo_402 ?_
    refine g_iconst (v := 0) hC (by decide) dL_isSo_404 ?_
    obtain ⟨v104, Cv104, c105, h⟩ := gq_y0_i h
    refine g_LXi (mt1 := mtC) (mt2 := mtA) (as := [.int x14, .int 0]) hC hZ.1 (t_X9_hall hl9 N _ _ _ _ _ _ c105) mV_X9_hall wm_L_166 obC_0 rfl rfl (Nat.le_of_ble_eq_true rfl) ⟨Nat.le_of_ble_eq_true rfl, Nat.le_of_ble_eq_true rfl⟩ ⟨Nat.le_of_ble_eq_true rfl, Nat.le_of_ble_eq_true rfl⟩ dL_isSo_405 mtC_len (fun _ => ?_) (fun hx => absurd rfl hx)
    refine g_widen (kc2 := 0) (ks2 := 0) (Nat.le_refl _) (Nat.le_refl _) ?_
    refine g_topM (fun M106 hM106 => ?_)
    replace h := gq_l_i hM106 h
    refine g_aload hC 6 rfl dL_isSo_408 ?_
    refine g_bipush (v := 8) hC (by decide) dL_isSo_410 ?_
    refine g_iload hC 12 rfl dL_isSo_412 ?_
    refine g_imul hC dL_isSo_414 ?_
    obtain ⟨g107, h⟩ := gq_g_i h
    refine g_iald hC arL_115 (gq_in_i g107) dL_isSo_415 ?_
    refine g_topi (fun v108 hv108 => ?_)
    replace h := gq_l_i hv108 h
    refine g_icmp_ne (tgt := 495) hC (by decide) dL_isSo_416 (fun c109 => ?_) (fun c109 => ?_)
    · replace h := gq_f c109 h
      exact g_weak [0, 1, 2, 3, 4, 5, 6, 7, 8, 9, 10, 11, 12] rfl (t_L_isSo_495 hl9 hZ hC hr hk332 x12 x14 M106 h)
    · replace h := gq_t c109 h
      refine g_aload_n hC 0 rfl rfl dL_isSo_419 ?_
      refine g_iload hC 12 rfl dL_isSo_420 ?_
      refine g_iconst (v := 1) hC (by decide) dL_isSo_422 ?_
      obtain ⟨v110, Cv110, c111, h⟩ := gq_y0_i h
      refine g_LXi (mt1 := mtC) (mt2 := mtA) (as := [.int x14, .int 1]) hC hZ.1 (t_X9_hall hl9 N _ _ _ _ _ _ c111) mV_X9_hall wm_L_166 obC_0 rfl rfl (Nat.le_of_ble_eq_true rfl) ⟨Nat.le_of_ble_eq_true rfl, Nat.le_of_ble_eq_true rfl⟩ ⟨Nat.le_of_ble_eq_true rfl, Nat.le_of_ble_eq_true rfl⟩ dL_isSo_423 mtC_len (fun _ => ?_) (fun hx => absurd rfl hx)
      refine g_widen (kc2 := 0) (ks2 := 0) (Nat.le_refl _) (Nat.le_refl _) ?_
      refine g_topM (fun M112 hM112 => ?_)
      replace h := gq_l_i hM112 h
      refine g_aload hC 6 rfl dL_isSo_426 ?_
      refine g_bipush (v := 8) hC (by decide) dL_isSo_428 ?_
      refine g_iload hC 12 rfl dL_isSo_430 ?_
      refine g_imul hC dL_isSo_432 ?_
      refine g_iconst (v := 1) hC (by decide) dL_isSo_433 ?_
      refine g_iadd hC dL_isSo_434 ?_
      obtain ⟨g113, h⟩ := gq_g_i h
      refine g_iald hC arL_115 (gq_in_i g113) dL_isSo_435 ?_
      refine g_topi (fun v114 hv114 => ?_)
      replace h := gq_l_i hv114 h
      refine g_icmp_ne (tgt := 495) hC (by decide) dL_isSo_436 (fun c115 => ?_) (fun c115 => ?_)
      · replace h := gq_f c115 h
        exact g_weak [0, 1, 2, 3, 4, 5, 6, 7, 8, 9, 10, 11, 12] rfl (t_L_isSo_495 hl9 hZ hC hr hk332 x12 x14 M112 h)
      · replace h := gq_t c115 h
        refine g_aload_n hC 0 rfl rfl dL_isSo_439 ?_
        refine g_iload hC 12 rfl dL_isSo_440 ?_
        refine g_iconst (v := 2) hC (by decide) dL_isSo_442 ?_
        obtain ⟨v116, Cv116, c117, h⟩ := gq_y0_i h
        refine g_LXi (mt1 := mtC) (mt2 := mtA) (as := [.int x14, .int 2]) hC hZ.1 (t_X9_hall hl9 N _ _ _ _ _ _ c117) mV_X9_hall wm_L_166 obC_0 rfl rfl (Nat.le_of_ble_eq_true rfl) ⟨Nat.le_of_ble_eq_true rfl, Nat.le_of_ble_eq_true rfl⟩ ⟨Nat.le_of_ble_eq_true rfl, Nat.le_of_ble_eq_true rfl⟩ dL_isSo_443 mtC_len (fun _ => ?_) (fun hx => absurd rfl hx)
        refine g_widen (kc2 := 0) (ks2 := 0) (Nat.le_refl _) (Nat.le_refl _) ?_
        refine g_topM (fun M118 hM118 => ?_)
        replace h := gq_l_i hM118 h
        refine g_aload hC 6 rfl dL_isSo_446 ?_
        refine g_bipush (v := 8) hC (by decide) dL_isSo_448 ?_
        refine g_iload hC 12 rfl dL_isSo_450 ?_
        refine g_imul hC dL_isSo_452 ?_
        refine g_iconst (v := 2) hC (by decide) dL_isSo_453 ?_
        refine g_iadd hC dL_isSo_454 ?_
        obtain ⟨g119, h⟩ := gq_g_i h
        refine g_iald hC arL_115 (gq_in_i g119) dL_isSo_455 ?_
        refine g_topi (fun v120 hv120 => ?_)
        replace h := gq_l_i hv120 h
        refine g_icmp_ne (tgt := 495) hC (by decide) dL_isSo_456 (fun c121 => ?_) (fun c121 => ?_)
        · replace h := gq_f c121 h
          exact g_weak [0, 1, 2, 3, 4, 5, 6, 7, 8, 9, 10, 11, 12] rfl (t_L_isSo_495 hl9 hZ hC hr hk332 x12 x14 M118 h)
        · replace h := gq_t c121 h
          refine g_aload_n hC 0 rfl rfl dL_isSo_459 ?_
          refine g_iload hC 12 rfl dL_isSo_460 ?_
          refine g_iconst (v := 3) hC (by decide) dL_isSo_462 ?_
          obtain ⟨v122, Cv122, c123, h⟩ := gq_y0_i h
          refine g_LXi (mt1 := mtC) (mt2 := mtA) (as := [.int x14, .int 3]) hC hZ.1 (t_X9_hall hl9 N _ _ _ _ _ _ c123) mV_X9_hall wm_L_166 obC_0 rfl rfl (Nat.le_of_ble_eq_true rfl) ⟨Nat.le_of_ble_eq_true rfl, Nat.le_of_ble_eq_true rfl⟩ ⟨Nat.le_of_ble_eq_true rfl, Nat.le_of_ble_eq_true rfl⟩ dL_isSo_463 mtC_len (fun _ => ?_) (fun hx => absurd rfl hx)
          refine g_widen (kc2 := 0) (ks2 := 0) (Nat.le_refl _) (Nat.le_refl _) ?_
          refine g_topM (fun M124 hM124 => ?_)
          replace h := gq_l_i hM124 h
          refine g_aload hC 6 rfl dL_isSo_466 ?_
          refine g_bipush (v := 8) hC (by decide) dL_isSo_468 ?_
          refine g_iload hC 12 rfl dL_isSo_470 ?_
          refine g_imul hC dL_isSo_472 ?_
          refine g_iconst (v := 4) hC (by decide) dL_isSo_473 ?_
          refine g_iadd hC dL_isSo_474 ?_
          obtain ⟨g125, h⟩ := gq_g_i h
          refine g_iald hC arL_115 (gq_in_i g125) dL_isSo_475 ?_
          refine g_topi (fun v126 hv126 => ?_)
          replace h := gq_l_i hv126 h
          refine g_icmp_ne (tgt := 495) hC (by decide) dL_isSo_476 (fun c127 => ?_) (fun c127 => ?_)
          · replace h := gq_f c127 h
            exact g_weak [0, 1, 2, 3, 4, 5, 6, 7, 8, 9, 10, 11, 12] rfl (t_L_isSo_495 hl9 hZ hC hr hk332 x12 x14 M124 h)
          · replace h := gq_t c127 h
            refine g_aload_n hC 0 rfl rfl dL_isSo_479 ?_
            refine g_iload hC 12 rfl dL_isSo_480 ?_
            refine g_iconst (v := 4) hC (by decide) dL_isSo_482 ?_
            obtain ⟨v128, Cv128, c129, h⟩ := gq_y0_i h
            refine g_LXi (mt1 := mtC) (mt2 := mtA) (as := [.int x14, .int 4]) hC hZ.1 (t_X9_hall hl9 N _ _ _ _ _ _ c129) mV_X9_hall wm_L_166 obC_0 rfl rfl (Nat.le_of_ble_eq_true rfl) ⟨Nat.le_of_ble_eq_true rfl, Nat.le_of_ble_eq_true rfl⟩ ⟨Nat.le_of_ble_eq_true rfl, Nat.le_of_ble_eq_true rfl⟩ dL_isSo_483 mtC_len (fun _ => ?_) (fun hx => absurd rfl hx)
            refine g_widen (kc2 := 0) (ks2 := 0) (Nat.le_refl _) (Nat.le_refl _) ?_
            refine g_topM (fun M130 hM130 => ?_)
            replace h := gq_l_i hM130 h
            refine g_iload hC 13 rfl dL_isSo_486 ?_
            refine g_icmp_ne (tgt := 495) hC (by decide) dL_isSo_488 (fun c131 => ?_) (fun c131 => ?_)
            · replace h := gq_f c131 h
              exact g_weak [0, 1, 2, 3, 4, 5, 6, 7, 8, 9, 10, 11, 12] rfl (t_L_isSo_495 hl9 hZ hC hr hk332 x12 x14 M130 h)
            · replace h := gq_t c131 h
              refine g_iconst (v := 1) hC (by decide) dL_isSo_491 ?_
              refine g_goto (tgt := 496) hC (by decide) dL_isSo_492 ?_
              exact g_weak [0, 1, 2, 3, 4, 5, 6, 7, 8, 9, 10, 11, 12] rfl (t_L_isSo_496 hl9 hZ hC hr hk332 x12 x14 1 M130 h)
  · replace h := gq_f c103 h
    refine g_iload hC 13 rfl dL_isSo_358 ?_
    refine g_aload hC 5 rfl dL_isSo_360 ?_
    refine g_iload hC 14 rfl dL_isSo_362 ?_
    obtain ⟨g132, h⟩ := gq_g_i h
    refine g_iald hC arL_114 (gq_in_i g132) dL_isSo_364 ?_
    refine g_topi (fun v133 hv133 => ?_)
    replace h := gq_l_i hv133 h
    refine g_sipush (v := 2048) hC (by decide) dL_isSo_365 ?_
    refine g_idiv hC (by decide) dL_isSo_368 ?_
    refine g_iconst (v := 4) hC (by decide) dL_isSo_369 ?_
    refine g_irem hC (by decide) dL_isSo_370 ?_
    refine g_iload hC 12 rfl dL_isSo_371 ?_
    refine g_icmp_ne (tgt := 391) hC (by decide) dL_isSo_373 (fun c134 => ?_) (fun c134 => ?_)
    · replace h := gq_f c134 h
      exact g_weak [0, 1, 2, 3, 4, 5, 6, 7, 8, 9, 10, 11, 12, 14] rfl (t_L_isSo_391 hl9 hZ hC hr hk332 hk349 x12 x14 x16 x15 M h)
    · replace h := gq_t c134 h
      refine g_aload hC 5 rfl dL_isSo_376 ?_
      refine g_iload hC 14 rfl dL_isSo_378 ?_
      obtain ⟨g135, h⟩ := gq_g_i h
      refine g_iald hC arL_114 (gq_in_i g135) dL_isSo_380 ?_
      refine g_topi (fun v136 hv136 => ?_)
      replace h := gq_l_i hv136 h
      refine g_sipush (v := 8192) hC (by decide) dL_isSo_381 ?_
      refine g_icmp_ge (tgt := 391) hC (by decide) dL_isSo_384 (fun c137 => ?_) (fun c137 => ?_)
      · replace h := gq_t c137 h
        exact g_weak [0, 1, 2, 3, 4, 5, 6, 7, 8, 9, 10, 11, 12, 14] rfl (t_L_isSo_391 hl9 hZ hC hr hk332 hk349 x12 x14 x16 x15 M h)
      · replace h := gq_f c137 h
        refine g_iconst (v := 1) hC (by decide) dL_isSo_387 ?_
        refine g_goto (tgt := 392) hC (by decide) dL_isSo_388 ?_
        exact g_weak [0, 1, 2, 3, 4, 5, 6, 7, 8, 9, 10, 11, 12, 14] rfl (t_L_isSo_392 hl9 hZ hC hr hk332 hk349 x12 x14 x16 x15 1 M h)
theorem t_L_isSo_349 {N : Nat} {kh332 : Int32 → Int32 → Int32 → gq_M → Option (Int32 × gq_M)} {v9 : Int32} {M9 : gq_M} (hl9 : l.stackTraces = false) (hZ : gq_Zn A s) (hC : gq_C p s m args meth c D A cI cZ ad mtL RL cL_isSo 20) (hr : meth.sig.returnType = (some .boolean)) (hk332 : ∀ (x12 : Int32) (x13 : Int32) (x14 : Int32) (M : gq_M), kh332 x12 x13 x14 M = some (v9, M9) → gq_W p l e (gq_rl 10 3 18) s m args below meth c D A cI cZ ad mtL 20 (gq_NQ below D cI cZ ad mtL v9 M9 args s 3 18 A) 332 [(0, .ref (ad 0)), (1, .ref (ad 109)), (2, .ref (ad 110)), (4, .ref (ad 112)), (5, .ref (ad 113)), (6, .ref (ad 114)), (7, .ref (ad 115)), (8, .ref (ad 119)), (9, .ref (ad 120)), (10, .ref (ad 121)), (11, .ref (ad 122)), (12, .int x12), (13, .int x13), (14, .int x14)] [] M 0 0) : ∀ (n9 : Nat) (x12 : Int32) (x14 : Int32) (x15 : Int32) (x16 : Int32) (M : gq_M), f_L_isSo_349 N kh332 n9 x12 x14 x15 x16 M = some (v9, M9) → gq_W p l e (gq_rl 10 3 18) s m args below meth c D A cI cZ ad mtL 20 (gq_NQ below D cI cZ ad mtL v9 M9 args s 3 18 A) 349 [(0, .ref (ad 0)), (1, .ref (ad 109)), (2, .ref (ad 110)), (4, .ref (ad 112)), (5, .ref (ad 113)), (6, .ref (ad 114)), (7, .ref (ad 115)), (8, .ref (ad 119)), (9, .ref (ad 120)), (10, .ref (ad 121)), (11, .ref (ad 122)), (12, .int x12), (14, .int x14), (15, .int x15), (16, .int x16)] [] M 0 0 := by
  intro n9
  induction n9 with
  | zero => intro x12 x14 x15 x16 M h; cases h
  | succ n9 ih => intro x12 x14 x15 x16 M h; exact t_L_isSo_349_b hl9 hZ hC hr hk332 ih x12 x14 x15 x16 M h
def f_L_isSo_332_b (N : Nat) (kh332 : Int32 → Int32 → Int32 → gq_M → Option (Int32 × gq_M)) (x12 : Int32) (x13 : Int32) (x14 : Int32) (M : gq_M) : Option (Int32 × gq_M) :=
  if 3 ≤ x14 then (f_L_isSo_504 N  x12 x13 M) else (if x13 = 0 then (f_L_isSo_504 N  x12 x13 M) else (f_L_isSo_349 N kh332 N x12 x14 0 0 M))
def f_L_isSo_332 (N : Nat) : Nat → Int32 → Int32 → Int32 → gq_M → Option (Int32 × gq_M)
  | 0 => fun _ _ _ _ => none
  | n9 + 1 => f_L_isSo_332_b N  (f_L_isSo_332 N  n9)
set_option maxHeartbeats 1000000 in
set_option maxRecDepth 20000 in
theorem t_L_isSo_332_b {N : Nat} {kh332 : Int32 → Int32 → Int32 → gq_M → Option (Int32 × gq_M)} {v9 : Int32} {M9 : gq_M} (hl9 : l.stackTraces = false) (hZ : gq_Zn A s) (hC : gq_C p s m args meth c D A cI cZ ad mtL RL cL_isSo 20) (hr : meth.sig.returnType = (some .boolean))  (hk332 : ∀ (x12 : Int32) (x13 : Int32) (x14 : Int32) (M : gq_M), kh332 x12 x13 x14 M = some (v9, M9) → gq_W p l e (gq_rl 10 3 18) s m args below meth c D A cI cZ ad mtL 20 (gq_NQ below D cI cZ ad mtL v9 M9 args s 3 18 A) 332 [(0, .ref (ad 0)), (1, .ref (ad 109)), (2, .ref (ad 110)), (4, .ref (ad 112)), (5, .ref (ad 113)), (6, .ref (ad 114)), (7, .ref (ad 115)), (8, .ref (ad 119)), (9, .ref (ad 120)), (10, .ref (ad 121)), (11, .ref (ad 122)), (12, .int x12), (13, .int x13), (14, .int x14)] [] M 0 0) : ∀ (x12 : Int32) (x13 : Int32) (x14 : Int32) (M : gq_M), f_L_isSo_332_b N  kh332 x12 x13 x14 M = some (v9, M9) → gq_W p l e (gq_rl 10 3 18) s m args below meth c D A cI cZ ad mtL 20 (gq_NQ below D cI cZ ad mtL v9 M9 args s 3 18 A) 332 [(0, .ref (ad 0)), (1, .ref (ad 109)), (2, .ref (ad 110)), (4, .ref (ad 112)), (5, .ref (ad 113)), (6, .ref (ad 114)), (7, .ref (ad 115)), (8, .ref (ad 119)), (9, .ref (ad 120)), (10, .ref (ad 121)), (11, .ref (ad 122)), (12, .int x12), (13, .int x13), (14, .int x14)] [] M 0 0 := by
  intro x12 x13 x14 M h
  unfold f_L_isSo_332_b at h
  refine g_iload hC 13 rfl dL_isSo_332 ?_
  refine g_iconst (v := 3) hC (by decide) dL_isSo_334 ?_
  refine g_icmp_ge (tgt := 504) hC (by decide) dL_isSo_335 (fun c99 => ?_) (fun c99 => ?_)
  · replace h := gq_t c99 h
    exact g_weak [0, 1, 2, 3, 4, 7, 8, 9, 10, 11, 12] rfl (t_L_isSo_504 hl9 hZ hC hr  x12 x13 M h)
  · replace h := gq_f c99 h
    refine g_iload hC 12 rfl dL_isSo_338 ?_
    refine g_if_eq (tgt := 504) hC (by decide) dL_isSo_340 (fun c100 => ?_) (fun c100 => ?_)
    · replace h := gq_t c100 h
      exact g_weak [0, 1, 2, 3, 4, 7, 8, 9, 10, 11, 12] rfl (t_L_isSo_504 hl9 hZ hC hr  x12 x13 M h)
    · replace h := gq_f c100 h
      refine g_iconst (v := 0) hC (by decide) dL_isSo_343 ?_
      refine g_istore (L2 := [(15, .int 0), (0, .ref (ad 0)), (1, .ref (ad 109)), (2, .ref (ad 110)), (4, .ref (ad 112)), (5, .ref (ad 113)), (6, .ref (ad 114)), (7, .ref (ad 115)), (8, .ref (ad 119)), (9, .ref (ad 120)), (10, .ref (ad 121)), (11, .ref (ad 122)), (12, .int x12), (13, .int x13), (14, .int x14)]) hC (by decide) rfl dL_isSo_344 ?_
      refine g_iconst (v := 0) hC (by decide) dL_isSo_346 ?_
      refine g_istore (L2 := [(16, .int 0), (15, .int 0), (0, .ref (ad 0)), (1, .ref (ad 109)), (2, .ref (ad 110)), (4, .ref (ad 112)), (5, .ref (ad 113)), (6, .ref (ad 114)), (7, .ref (ad 115)), (8, .ref (ad 119)), (9, .ref (ad 120)), (10, .ref (ad 121)), (11, .ref (ad 122)), (12, .int x12), (13, .int x13), (14, .int x14)]) hC (by decide) rfl dL_isSo_347 ?_
      exact g_weak [2, 3, 4, 5, 6, 7, 8, 9, 10, 11, 12, 13, 15, 1, 0] rfl (t_L_isSo_349 hl9 hZ hC hr hk332 N x12 x14 0 0 M h)
theorem t_L_isSo_332 {N : Nat} {v9 : Int32} {M9 : gq_M} (hl9 : l.stackTraces = false) (hZ : gq_Zn A s) (hC : gq_C p s m args meth c D A cI cZ ad mtL RL cL_isSo 20) (hr : meth.sig.returnType = (some .boolean))  : ∀ (n9 : Nat) (x12 : Int32) (x13 : Int32) (x14 : Int32) (M : gq_M), f_L_isSo_332 N  n9 x12 x13 x14 M = some (v9, M9) → gq_W p l e (gq_rl 10 3 18) s m args below meth c D A cI cZ ad mtL 20 (gq_NQ below D cI cZ ad mtL v9 M9 args s 3 18 A) 332 [(0, .ref (ad 0)), (1, .ref (ad 109)), (2, .ref (ad 110)), (4, .ref (ad 112)), (5, .ref (ad 113)), (6, .ref (ad 114)), (7, .ref (ad 115)), (8, .ref (ad 119)), (9, .ref (ad 120)), (10, .ref (ad 121)), (11, .ref (ad 122)), (12, .int x12), (13, .int x13), (14, .int x14)] [] M 0 0 := by
  intro n9
  induction n9 with
  | zero => intro x12 x13 x14 M h; cases h
  | succ n9 ih => intro x12 x13 x14 M h; exact t_L_isSo_332_b hl9 hZ hC hr  ih x12 x13 x14 M h
def f_L_isSo_329 (N : Nat) (x12 : Int32) (x13 : Int32) (M : gq_M) : Option (Int32 × gq_M) :=
  f_L_isSo_332 N  N x12 x13 0 M
set_option maxHeartbeats 1000000 in
set_option maxRecDepth 20000 in
theorem t_L_isSo_329 {N : Nat} {v9 : Int32} {M9 : gq_M} (hl9 : l.stackTraces = false) (hZ : gq_Zn A s) (hC : gq_C p s m args meth c D A cI cZ ad mtL RL cL_isSo 20) (hr : meth.sig.returnType = (some .boolean))   : ∀ (x12 : Int32) (x13 : Int32) (M : gq_M), f_L_isSo_329 N  x12 x13 M = some (v9, M9) → gq_W p l e (gq_rl 10 3 18) s m args below meth c D A cI cZ ad mtL 20 (gq_NQ below D cI cZ ad mtL v9 M9 args s 3 18 A) 329 [(0, .ref (ad 0)), (1, .ref (ad 109)), (2, .ref (ad 110)), (4, .ref (ad 112)), (5, .ref (ad 113)), (6, .ref (ad 114)), (7, .ref (ad 115)), (8, .ref (ad 119)), (9, .ref (ad 120)), (10, .ref (ad 121)), (11, .ref (ad 122)), (12, .int x12), (13, .int x13)] [] M 0 0 := by
  intro x12 x13 M h
  unfold f_L_isSo_329 at h
  refine g_iconst (v := 0) hC (by decide) dL_isSo_329 ?_
  refine g_istore (L2 := [(14, .int 0), (0, .ref (ad 0)), (1, .ref (ad 109)), (2, .ref (ad 110)), (4, .ref (ad 112)), (5, .ref (ad 113)), (6, .ref (ad 114)), (7, .ref (ad 115)), (8, .ref (ad 119)), (9, .ref (ad 120)), (10, .ref (ad 121)), (11, .ref (ad 122)), (12, .int x12), (13, .int x13)]) hC (by decide) rfl dL_isSo_330 ?_
  exact g_weak [1, 2, 3, 4, 5, 6, 7, 8, 9, 10, 11, 12, 13, 0] rfl (t_L_isSo_332 hl9 hZ hC hr  N x12 x13 0 M h)
def f_L_isSo_321 (N : Nat) (kh182 : Int32 → Int32 → Int32 → gq_M → Option (Int32 × gq_M)) (x12 : Int32) (x14 : Int32) (s0 : Int32) (M : gq_M) : Option (Int32 × gq_M) :=
  kh182 x12 s0 (x14 + 1) M
set_option maxHeartbeats 1000000 in
set_option maxRecDepth 20000 in
theorem t_L_isSo_321 {N : Nat} {kh182 : Int32 → Int32 → Int32 → gq_M → Option (Int32 × gq_M)} {v9 : Int32} {M9 : gq_M} (hl9 : l.stackTraces = false) (hZ : gq_Zn A s) (hC : gq_C p s m args meth c D A cI cZ ad mtL RL cL_isSo 20) (hr : meth.sig.returnType = (some .boolean)) (hk182 : ∀ (x12 : Int32) (x13 : Int32) (x14 : Int32) (M : gq_M), kh182 x12 x13 x14 M = some (v9, M9) → gq_W p l e (gq_rl 10 3 18) s m args below meth c D A cI cZ ad mtL 20 (gq_NQ below D cI cZ ad mtL v9 M9 args s 3 18 A) 182 [(0, .ref (ad 0)), (1, .ref (ad 109)), (2, .ref (ad 110)), (3, .ref (ad 111)), (4, .ref (ad 112)), (5, .ref (ad 113)), (6, .ref (ad 114)), (7, .ref (ad 115)), (8, .ref (ad 119)), (9, .ref (ad 120)), (10, .ref (ad 121)), (11, .ref (ad 122)), (12, .int x12), (13, .int x13), (14, .int x14)] [] M 0 0)  : ∀ (x12 : Int32) (x14 : Int32) (s0 : Int32) (M : gq_M), f_L_isSo_321 N kh182 x12 x14 s0 M = some (v9, M9) → gq_W p l e (gq_rl 10 3 18) s m args below meth c D A cI cZ ad mtL 20 (gq_NQ below D cI cZ ad mtL v9 M9 args s 3 18 A) 321 [(0, .ref (ad 0)), (1, .ref (ad 109)), (2, .ref (ad 110)), (3, .ref (ad 111)), (4, .ref (ad 112)), (5, .ref (ad 113)), (6, .ref (ad 114)), (7, .ref (ad 115)), (8, .ref (ad 119)), (9, .ref (ad 120)), (10, .ref (ad 121)), (11, .ref (ad 122)), (12, .int x12), (14, .int x14)] [.int s0] M 0 0 := by
  intro x12 x14 s0 M h
  unfold f_L_isSo_321 at h
  refine g_istore (L2 := [(13, .int s0), (0, .ref (ad 0)), (1, .ref (ad 109)), (2, .ref (ad 110)), (3, .ref (ad 111)), (4, .ref (ad 112)), (5, .ref (ad 113)), (6, .ref (ad 114)), (7, .ref (ad 115)), (8, .ref (ad 119)), (9, .ref (ad 120)), (10, .ref (ad 121)), (11, .ref (ad 122)), (12, .int x12), (14, .int x14)]) hC (by decide) rfl dL_isSo_321 ?_
  refine g_iinc (v := (x14 + 1)) (L2 := [(14, .int (x14 + 1)), (13, .int s0), (0, .ref (ad 0)), (1, .ref (ad 109)), (2, .ref (ad 110)), (3, .ref (ad 111)), (4, .ref (ad 112)), (5, .ref (ad 113)), (6, .ref (ad 114)), (7, .ref (ad 115)), (8, .ref (ad 119)), (9, .ref (ad 120)), (10, .ref (ad 121)), (11, .ref (ad 122)), (12, .int x12)]) hC 14 rfl (by first | rfl | decide) (by decide) rfl dL_isSo_323 ?_
  refine g_goto (tgt := 182) hC (by decide) dL_isSo_326 ?_
  exact g_weak [2, 3, 4, 5, 6, 7, 8, 9, 10, 11, 12, 13, 14, 1, 0] rfl (hk182 x12 s0 (x14 + 1) M h)
def f_L_isSo_320 (N : Nat) (kh182 : Int32 → Int32 → Int32 → gq_M → Option (Int32 × gq_M)) (x12 : Int32) (x14 : Int32) (M : gq_M) : Option (Int32 × gq_M) :=
  f_L_isSo_321 N kh182 x12 x14 0 M
set_option maxHeartbeats 1000000 in
set_option maxRecDepth 20000 in
theorem t_L_isSo_320 {N : Nat} {kh182 : Int32 → Int32 → Int32 → gq_M → Option (Int32 × gq_M)} {v9 : Int32} {M9 : gq_M} (hl9 : l.stackTraces = false) (hZ : gq_Zn A s) (hC : gq_C p s m args meth c D A cI cZ ad mtL RL cL_isSo 20) (hr : meth.sig.returnType = (some .boolean)) (hk182 : ∀ (x12 : Int32) (x13 : Int32) (x14 : Int32) (M : gq_M), kh182 x12 x13 x14 M = some (v9, M9) → gq_W p l e (gq_rl 10 3 18) s m args below meth c D A cI cZ ad mtL 20 (gq_NQ below D cI cZ ad mtL v9 M9 args s 3 18 A) 182 [(0, .ref (ad 0)), (1, .ref (ad 109)), (2, .ref (ad 110)), (3, .ref (ad 111)), (4, .ref (ad 112)), (5, .ref (ad 113)), (6, .ref (ad 114)), (7, .ref (ad 115)), (8, .ref (ad 119)), (9, .ref (ad 120)), (10, .ref (ad 121)), (11, .ref (ad 122)), (12, .int x12), (13, .int x13), (14, .int x14)] [] M 0 0)  : ∀ (x12 : Int32) (x14 : Int32) (M : gq_M), f_L_isSo_320 N kh182 x12 x14 M = some (v9, M9) → gq_W p l e (gq_rl 10 3 18) s m args below meth c D A cI cZ ad mtL 20 (gq_NQ below D cI cZ ad mtL v9 M9 args s 3 18 A) 320 [(0, .ref (ad 0)), (1, .ref (ad 109)), (2, .ref (ad 110)), (3, .ref (ad 111)), (4, .ref (ad 112)), (5, .ref (ad 113)), (6, .ref (ad 114)), (7, .ref (ad 115)), (8, .ref (ad 119)), (9, .ref (ad 120)), (10, .ref (ad 121)), (11, .ref (ad 122)), (12, .int x12), (14, .int x14)] [] M 0 0 := by
  intro x12 x14 M h
  unfold f_L_isSo_320 at h
  refine g_iconst (v := 0) hC (by decide) dL_isSo_320 ?_
  exact g_weak [0, 1, 2, 3, 4, 5, 6, 7, 8, 9, 10, 11, 12, 13] rfl (t_L_isSo_321 hl9 hZ hC hr hk182 x12 x14 0 M h)
def f_L_isSo_182_b (N : Nat) (kh182 : Int32 → Int32 → Int32 → gq_M → Option (Int32 × gq_M)) (x12 : Int32) (x13 : Int32) (x14 : Int32) (M : gq_M) : Option (Int32 × gq_M) :=
  gq_g (gq_in 5 56) (gq_l (M 119 (5 : Int32).toNatClampNeg) fun v59 => if v59 ≤ x14 then (f_L_isSo_329 N  x12 x13 M) else (if x13 = 0 then (f_L_isSo_329 N  x12 x13 M) else (gq_y0 (f_X9_lot N x14 0 M) fun v62 Cv62 => gq_l (mrg 109 Cv62 M) fun M64 => gq_g (gq_in x14 40) (gq_l (M64 114 x14.toNatClampNeg) fun v66 => if v62 = (v66 - v66 / 8 * 8) then (gq_y0 (f_X9_lot N x14 1 M64) fun v68 Cv68 => gq_l (mrg 109 Cv68 M64) fun M70 => gq_g (gq_in x14 40) (gq_l (M70 114 x14.toNatClampNeg) fun v72 => if v68 = ((v72 / 8) - (v72 / 8) / 4 * 4) then (gq_y0 (f_X9_lot N x14 2 M70) fun v74 Cv74 => gq_l (mrg 109 Cv74 M70) fun M76 => gq_g (gq_in x14 40) (gq_l (M76 114 x14.toNatClampNeg) fun v78 => if v74 = ((v78 / 32) - (v78 / 32) / 4 * 4) then (gq_y0 (f_X9_lot N x14 3 M76) fun v80 Cv80 => gq_l (mrg 109 Cv80 M76) fun M82 => gq_g (gq_in x14 40) (gq_l (M82 114 x14.toNatClampNeg) fun v84 => if v80 = ((v84 / 128) - (v84 / 128) / 16 * 16) then (gq_y0 (f_X9_lot N x14 4 M82) fun v86 Cv86 => gq_l (mrg 109 Cv86 M82) fun M88 => gq_g (gq_in x14 40) (gq_l (M88 114 x14.toNatClampNeg) fun v90 => if v86 = ((v90 / 2048) - (v90 / 2048) / 4 * 4) then (gq_y0 (f_X9_lot N x14 5 M88) fun v92 Cv92 => gq_l (mrg 109 Cv92 M88) fun M94 => gq_b (f_L_left N x14 M94) fun v95 M97 => if v92 = v95 then (f_L_isSo_321 N kh182 x12 x14 1 M97) else (f_L_isSo_320 N kh182 x12 x14 M97)) else (f_L_isSo_320 N kh182 x12 x14 M88))) else (f_L_isSo_320 N kh182 x12 x14 M82))) else (f_L_isSo_320 N kh182 x12 x14 M76))) else (f_L_isSo_320 N kh182 x12 x14 M70))) else (f_L_isSo_320 N kh182 x12 x14 M64)))))
def f_L_isSo_182 (N : Nat) : Nat → Int32 → Int32 → Int32 → gq_M → Option (Int32 × gq_M)
  | 0 => fun _ _ _ _ => none
  | n9 + 1 => f_L_isSo_182_b N  (f_L_isSo_182 N  n9)
set_option maxHeartbeats 1000000 in
set_option maxRecDepth 20000 in
theorem t_L_isSo_182_b {N : Nat} {kh182 : Int32 → Int32 → Int32 → gq_M → Option (Int32 × gq_M)} {v9 : Int32} {M9 : gq_M} (hl9 : l.stackTraces = false) (hZ : gq_Zn A s) (hC : gq_C p s m args meth c D A cI cZ ad mtL RL cL_isSo 20) (hr : meth.sig.returnType = (some .boolean))  (hk182 : ∀ (x12 : Int32) (x13 : Int32) (x14 : Int32) (M : gq_M), kh182 x12 x13 x14 M = some (v9, M9) → gq_W p l e (gq_rl 10 3 18) s m args below meth c D A cI cZ ad mtL 20 (gq_NQ below D cI cZ ad mtL v9 M9 args s 3 18 A) 182 [(0, .ref (ad 0)), (1, .ref (ad 109)), (2, .ref (ad 110)), (3, .ref (ad 111)), (4, .ref (ad 112)), (5, .ref (ad 113)), (6, .ref (ad 114)), (7, .ref (ad 115)), (8, .ref (ad 119)), (9, .ref (ad 120)), (10, .ref (ad 121)), (11, .ref (ad 122)), (12, .int x12), (13, .int x13), (14, .int x14)] [] M 0 0) : ∀ (x12 : Int32) (x13 : Int32) (x14 : Int32) (M : gq_M), f_L_isSo_182_b N  kh182 x12 x13 x14 M = some (v9, M9) → gq_W p l e (gq_rl 10 3 18) s m args below meth c D A cI cZ ad mtL 20 (gq_NQ below D cI cZ ad mtL v9 M9 args s 3 18 A) 182 [(0, .ref (ad 0)), (1, .ref (ad 109)), (2, .ref (ad 110)), (3, .ref (ad 111)), (4, .ref (ad 112)), (5, .ref (ad 113)), (6, .ref (ad 114)), (7, .ref (ad 115)), (8, .ref (ad 119)), (9, .ref (ad 120)), (10, .ref (ad 121)), (11, .ref (ad 122)), (12, .int x12), (13, .int x13), (14, .int x14)] [] M 0 0 := by
  intro x12 x13 x14 M h
  unfold f_L_isSo_182_b at h
  refine g_iload hC 14 rfl dL_isSo_182 ?_
  refine g_aload hC 8 rfl dL_isSo_184 ?_
  refine g_iconst (v := 5) hC (by decide) dL_isSo_186 ?_
  obtain ⟨g58, h⟩ := gq_g_i h
  refine g_iald hC arL_119 (gq_in_i g58) dL_isSo_187 ?_
  refine g_topi (fun v59 hv59 => ?_)
  replace h := gq_l_i hv59 h
  refine g_icmp_ge (tgt := 329) hC (by decide) dL_isSo_188 (fun c60 => ?_) (fun c60 => ?_)
  · replace h := gq_t c60 h
    exact g_weak [0, 1, 2, 4, 5, 6, 7, 8, 9, 10, 11, 12, 13] rfl (t_L_isSo_329 hl9 hZ hC hr  x12 x13 M h)
  · replace h := gq_f c60 h
    refine g_iload hC 13 rfl dL_isSo_191 ?_
    refine g_if_eq (tgt := 329) hC (by decide) dL_isSo_193 (fun c61 => ?_) (fun c61 => ?_)
    · replace h := gq_t c61 h
      exact g_weak [0, 1, 2, 4, 5, 6, 7, 8, 9, 10, 11, 12, 13] rfl (t_L_isSo_329 hl9 hZ hC hr  x12 x13 M h)
    · replace h := gq_f c61 h
      refine g_aload_n hC 0 rfl rfl dL_isSo_196 ?_
      refine g_iload hC 14 rfl dL_isSo_197 ?_
      refine g_iconst (v := 0) hC (by decide) dL_isSo_199 ?_
      obtain ⟨v62, Cv62, c63, h⟩ := gq_y0_i h
      refine g_LXi (mt1 := mtC) (mt2 := mtA) (as := [.int x14, .int 0]) hC hZ.1 (t_X9_lot hl9 N _ _ _ _ _ _ c63) mV_X9_lot wm_L_73 obC_0 rfl rfl (Nat.le_of_ble_eq_true rfl) ⟨Nat.le_of_ble_eq_true rfl, Nat.le_of_ble_eq_true rfl⟩ ⟨Nat.le_of_ble_eq_true rfl, Nat.le_of_ble_eq_true rfl⟩ dL_isSo_200 mtC_len (fun _ => ?_) (fun hx => absurd rfl hx)
      refine g_widen (kc2 := 0) (ks2 := 0) (Nat.le_refl _) (Nat.le_refl _) ?_
      refine g_topM (fun M64 hM64 => ?_)
      replace h := gq_l_i hM64 h
      refine g_aload hC 6 rfl dL_isSo_203 ?_
      refine g_iload hC 14 rfl dL_isSo_205 ?_
      obtain ⟨g65, h⟩ := gq_g_i h
      refine g_iald hC arL_114 (gq_in_i g65) dL_isSo_207 ?_
      refine g_topi (fun v66 hv66 => ?_)
      replace h := gq_l_i hv66 h
      refine g_bipush (v := 8) hC (by decide) dL_isSo_208 ?_
      refine g_irem hC (by decide) dL_isSo_210 ?_
      refine g_icmp_ne (tgt := 320) hC (by decide) dL_isSo_211 (fun c67 => ?_) (fun c67 => ?_)
      · replace h := gq_f c67 h
        exact g_weak [0, 1, 2, 3, 4, 5, 6, 7, 8, 9, 10, 11, 12, 14] rfl (t_L_isSo_320 hl9 hZ hC hr hk182 x12 x14 M64 h)
      · replace h := gq_t c67 h
        refine g_aload_n hC 0 rfl rfl dL_isSo_214 ?_
        refine g_iload hC 14 rfl dL_isSo_215 ?_
        refine g_iconst (v := 1) hC (by decide) dL_isSo_217 ?_
        obtain ⟨v68, Cv68, c69, h⟩ := gq_y0_i h
        refine g_LXi (mt1 := mtC) (mt2 := mtA) (as := [.int x14, .int 1]) hC hZ.1 (t_X9_lot hl9 N _ _ _ _ _ _ c69) mV_X9_lot wm_L_73 obC_0 rfl rfl (Nat.le_of_ble_eq_true rfl) ⟨Nat.le_of_ble_eq_true rfl, Nat.le_of_ble_eq_true rfl⟩ ⟨Nat.le_of_ble_eq_true rfl, Nat.le_of_ble_eq_true rfl⟩ dL_isSo_218 mtC_len (fun _ => ?_) (fun hx => absurd rfl hx)
        refine g_widen (kc2 := 0) (ks2 := 0) (Nat.le_refl _) (Nat.le_refl _) ?_
        refine g_topM (fun M70 hM70 => ?_)
        replace h := gq_l_i hM70 h
        refine g_aload hC 6 rfl dL_isSo_221 ?_
        refine g_iload hC 14 rfl dL_isSo_223 ?_
        obtain ⟨g71, h⟩ := gq_g_i h
        refine g_iald hC arL_114 (gq_in_i g71) dL_isSo_225 ?_
        refine g_topi (fun v72 hv72 => ?_)
        replace h := gq_l_i hv72 h
        refine g_bipush (v := 8) hC (by decide) dL_isSo_226 ?_
        refine g_idiv hC (by decide) dL_isSo_228 ?_
        refine g_iconst (v := 4) hC (by decide) dL_isSo_229 ?_
        refine g_irem hC (by decide) dL_isSo_230 ?_
        refine g_icmp_ne (tgt := 320) hC (by decide) dL_isSo_231 (fun c73 => ?_) (fun c73 => ?_)
        · replace h := gq_f c73 h
          exact g_weak [0, 1, 2, 3, 4, 5, 6, 7, 8, 9, 10, 11, 12, 14] rfl (t_L_isSo_320 hl9 hZ hC hr hk182 x12 x14 M70 h)
        · replace h := gq_t c73 h
          refine g_aload_n hC 0 rfl rfl dL_isSo_234 ?_
          refine g_iload hC 14 rfl dL_isSo_235 ?_
          refine g_iconst (v := 2) hC (by decide) dL_isSo_237 ?_
          obtain ⟨v74, Cv74, c75, h⟩ := gq_y0_i h
          refine g_LXi (mt1 := mtC) (mt2 := mtA) (as := [.int x14, .int 2]) hC hZ.1 (t_X9_lot hl9 N _ _ _ _ _ _ c75) mV_X9_lot wm_L_73 obC_0 rfl rfl (Nat.le_of_ble_eq_true rfl) ⟨Nat.le_of_ble_eq_true rfl, Nat.le_of_ble_eq_true rfl⟩ ⟨Nat.le_of_ble_eq_true rfl, Nat.le_of_ble_eq_true rfl⟩ dL_isSo_238 mtC_len (fun _ => ?_) (fun hx => absurd rfl hx)
          refine g_widen (kc2 := 0) (ks2 := 0) (Nat.le_refl _) (Nat.le_refl _) ?_
          refine g_topM (fun M76 hM76 => ?_)
          replace h := gq_l_i hM76 h
          refine g_aload hC 6 rfl dL_isSo_241 ?_
          refine g_iload hC 14 rfl dL_isSo_243 ?_
          obtain ⟨g77, h⟩ := gq_g_i h
          refine g_iald hC arL_114 (gq_in_i g77) dL_isSo_245 ?_
          refine g_topi (fun v78 hv78 => ?_)
          replace h := gq_l_i hv78 h
          refine g_bipush (v := 32) hC (by decide) dL_isSo_246 ?_
          refine g_idiv hC (by decide) dL_isSo_248 ?_
          refine g_iconst (v := 4) hC (by decide) dL_isSo_249 ?_
          refine g_irem hC (by decide) dL_isSo_250 ?_
          refine g_icmp_ne (tgt := 320) hC (by decide) dL_isSo_251 (fun c79 => ?_) (fun c79 => ?_)
          · replace h := gq_f c79 h
            exact g_weak [0, 1, 2, 3, 4, 5, 6, 7, 8, 9, 10, 11, 12, 14] rfl (t_L_isSo_320 hl9 hZ hC hr hk182 x12 x14 M76 h)
          · replace h := gq_t c79 h
            refine g_aload_n hC 0 rfl rfl dL_isSo_254 ?_
            refine g_iload hC 14 rfl dL_isSo_255 ?_
            refine g_iconst (v := 3) hC (by decide) dL_isSo_257 ?_
            obtain ⟨v80, Cv80, c81, h⟩ := gq_y0_i h
            refine g_LXi (mt1 := mtC) (mt2 := mtA) (as := [.int x14, .int 3]) hC hZ.1 (t_X9_lot hl9 N _ _ _ _ _ _ c81) mV_X9_lot wm_L_73 obC_0 rfl rfl (Nat.le_of_ble_eq_true rfl) ⟨Nat.le_of_ble_eq_true rfl, Nat.le_of_ble_eq_true rfl⟩ ⟨Nat.le_of_ble_eq_true rfl, Nat.le_of_ble_eq_true rfl⟩ dL_isSo_258 mtC_len (fun _ => ?_) (fun hx => absurd rfl hx)
            refine g_widen (kc2 := 0) (ks2 := 0) (Nat.le_refl _) (Nat.le_refl _) ?_
            refine g_topM (fun M82 hM82 => ?_)
            replace h := gq_l_i hM82 h
            refine g_aload hC 6 rfl dL_isSo_261 ?_
            refine g_iload hC 14 rfl dL_isSo_263 ?_
            obtain ⟨g83, h⟩ := gq_g_i h
            refine g_iald hC arL_114 (gq_in_i g83) dL_isSo_265 ?_
            refine g_topi (fun v84 hv84 => ?_)
            replace h := gq_l_i hv84 h
            refine g_sipush (v := 128) hC (by decide) dL_isSo_266 ?_
            refine g_idiv hC (by decide) dL_isSo_269 ?_
            refine g_bipush (v := 16) hC (by decide) dL_isSo_270 ?_
            refine g_irem hC (by decide) dL_isSo_272 ?_
            refine g_icmp_ne (tgt := 320) hC (by decide) dL_isSo_273 (fun c85 => ?_) (fun c85 => ?_)
            · replace h := gq_f c85 h
              exact g_weak [0, 1, 2, 3, 4, 5, 6, 7, 8, 9, 10, 11, 12, 14] rfl (t_L_isSo_320 hl9 hZ hC hr hk182 x12 x14 M82 h)
            · replace h := gq_t c85 h
              refine g_aload_n hC 0 rfl rfl dL_isSo_276 ?_
              refine g_iload hC 14 rfl dL_isSo_277 ?_
              refine g_iconst (v := 4) hC (by decide) dL_isSo_279 ?_
              obtain ⟨v86, Cv86, c87, h⟩ := gq_y0_i h
              refine g_LXi (mt1 := mtC) (mt2 := mtA) (as := [.int x14, .int 4]) hC hZ.1 (t_X9_lot hl9 N _ _ _ _ _ _ c87) mV_X9_lot wm_L_73 obC_0 rfl rfl (Nat.le_of_ble_eq_true rfl) ⟨Nat.le_of_ble_eq_true rfl, Nat.le_of_ble_eq_true rfl⟩ ⟨Nat.le_of_ble_eq_true rfl, Nat.le_of_ble_eq_true rfl⟩ dL_isSo_280 mtC_len (fun _ => ?_) (fun hx => absurd rfl hx)
              refine g_widen (kc2 := 0) (ks2 := 0) (Nat.le_refl _) (Nat.le_refl _) ?_
              refine g_topM (fun M88 hM88 => ?_)
              replace h := gq_l_i hM88 h
              refine g_aload hC 6 rfl dL_isSo_283 ?_
              refine g_iload hC 14 rfl dL_isSo_285 ?_
              obtain ⟨g89, h⟩ := gq_g_i h
              refine g_iald hC arL_114 (gq_in_i g89) dL_isSo_287 ?_
              refine g_topi (fun v90 hv90 => ?_)
              replace h := gq_l_i hv90 h
              refine g_sipush (v := 2048) hC (by decide) dL_isSo_288 ?_
              refine g_idiv hC (by decide) dL_isSo_291 ?_
              refine g_iconst (v := 4) hC (by decide) dL_isSo_292 ?_
              refine g_irem hC (by decide) dL_isSo_293 ?_
              refine g_icmp_ne (tgt := 320) hC (by decide) dL_isSo_294 (fun c91 => ?_) (fun c91 => ?_)
              · replace h := gq_f c91 h
                exact g_weak [0, 1, 2, 3, 4, 5, 6, 7, 8, 9, 10, 11, 12, 14] rfl (t_L_isSo_320 hl9 hZ hC hr hk182 x12 x14 M88 h)
              · replace h := gq_t c91 h
                refine g_aload_n hC 0 rfl rfl dL_isSo_297 ?_
                refine g_iload hC 14 rfl dL_isSo_298 ?_
                refine g_iconst (v := 5) hC (by decide) dL_isSo_300 ?_
                obtain ⟨v92, Cv92, c93, h⟩ := gq_y0_i h
                refine g_LXi (mt1 := mtC) (mt2 := mtA) (as := [.int x14, .int 5]) hC hZ.1 (t_X9_lot hl9 N _ _ _ _ _ _ c93) mV_X9_lot wm_L_73 obC_0 rfl rfl (Nat.le_of_ble_eq_true rfl) ⟨Nat.le_of_ble_eq_true rfl, Nat.le_of_ble_eq_true rfl⟩ ⟨Nat.le_of_ble_eq_true rfl, Nat.le_of_ble_eq_true rfl⟩ dL_isSo_301 mtC_len (fun _ => ?_) (fun hx => absurd rfl hx)
                refine g_widen (kc2 := 0) (ks2 := 0) (Nat.le_refl _) (Nat.le_refl _) ?_
                refine g_topM (fun M94 hM94 => ?_)
                replace h := gq_l_i hM94 h
                refine g_aload_n hC 1 rfl rfl dL_isSo_304 ?_
                refine g_aload_n hC 3 rfl rfl dL_isSo_305 ?_
                refine g_aload hC 8 rfl dL_isSo_306 ?_
                refine g_iload hC 14 rfl dL_isSo_308 ?_
                obtain ⟨v95, M97, c96, h⟩ := gq_b_i h
                refine g_Si (as := [.ref (ad 109), .ref (ad 111), .ref (ad 119), .int x14]) hC (t_L_left N _ _ _ _ c96) mS_L_left wm_L_116 rfl rfl (Nat.le_of_ble_eq_true rfl) ⟨Nat.le_of_ble_eq_true rfl, Nat.le_of_ble_eq_true rfl⟩ ⟨Nat.le_of_ble_eq_true rfl, Nat.le_of_ble_eq_true rfl⟩ dL_isSo_310 ?_
                refine g_icmp_ne (tgt := 320) hC (by decide) dL_isSo_313 (fun c98 => ?_) (fun c98 => ?_)
                · replace h := gq_f c98 h
                  exact g_weak [0, 1, 2, 3, 4, 5, 6, 7, 8, 9, 10, 11, 12, 14] rfl (t_L_isSo_320 hl9 hZ hC hr hk182 x12 x14 M97 h)
                · replace h := gq_t c98 h
                  refine g_iconst (v := 1) hC (by decide) dL_isSo_316 ?_
                  refine g_goto (tgt := 321) hC (by decide) dL_isSo_317 ?_
                  exact g_weak [0, 1, 2, 3, 4, 5, 6, 7, 8, 9, 10, 11, 12, 14] rfl (t_L_isSo_321 hl9 hZ hC hr hk182 x12 x14 1 M97 h)
theorem t_L_isSo_182 {N : Nat} {v9 : Int32} {M9 : gq_M} (hl9 : l.stackTraces = false) (hZ : gq_Zn A s) (hC : gq_C p s m args meth c D A cI cZ ad mtL RL cL_isSo 20) (hr : meth.sig.returnType = (some .boolean))  : ∀ (n9 : Nat) (x12 : Int32) (x13 : Int32) (x14 : Int32) (M : gq_M), f_L_isSo_182 N  n9 x12 x13 x14 M = some (v9, M9) → gq_W p l e (gq_rl 10 3 18) s m args below meth c D A cI cZ ad mtL 20 (gq_NQ below D cI cZ ad mtL v9 M9 args s 3 18 A) 182 [(0, .ref (ad 0)), (1, .ref (ad 109)), (2, .ref (ad 110)), (3, .ref (ad 111)), (4, .ref (ad 112)), (5, .ref (ad 113)), (6, .ref (ad 114)), (7, .ref (ad 115)), (8, .ref (ad 119)), (9, .ref (ad 120)), (10, .ref (ad 121)), (11, .ref (ad 122)), (12, .int x12), (13, .int x13), (14, .int x14)] [] M 0 0 := by
  intro n9
  induction n9 with
  | zero => intro x12 x13 x14 M h; cases h
  | succ n9 ih => intro x12 x13 x14 M h; exact t_L_isSo_182_b hl9 hZ hC hr  ih x12 x13 x14 M h
def f_L_isSo_179 (N : Nat) (x12 : Int32) (x13 : Int32) (M : gq_M) : Option (Int32 × gq_M) :=
  f_L_isSo_182 N  N x12 x13 0 M
set_option maxHeartbeats 1000000 in
set_option maxRecDepth 20000 in
theorem t_L_isSo_179 {N : Nat} {v9 : Int32} {M9 : gq_M} (hl9 : l.stackTraces = false) (hZ : gq_Zn A s) (hC : gq_C p s m args meth c D A cI cZ ad mtL RL cL_isSo 20) (hr : meth.sig.returnType = (some .boolean))   : ∀ (x12 : Int32) (x13 : Int32) (M : gq_M), f_L_isSo_179 N  x12 x13 M = some (v9, M9) → gq_W p l e (gq_rl 10 3 18) s m args below meth c D A cI cZ ad mtL 20 (gq_NQ below D cI cZ ad mtL v9 M9 args s 3 18 A) 179 [(0, .ref (ad 0)), (1, .ref (ad 109)), (2, .ref (ad 110)), (3, .ref (ad 111)), (4, .ref (ad 112)), (5, .ref (ad 113)), (6, .ref (ad 114)), (7, .ref (ad 115)), (8, .ref (ad 119)), (9, .ref (ad 120)), (10, .ref (ad 121)), (11, .ref (ad 122)), (12, .int x12), (13, .int x13)] [] M 0 0 := by
  intro x12 x13 M h
  unfold f_L_isSo_179 at h
  refine g_iconst (v := 0) hC (by decide) dL_isSo_179 ?_
  refine g_istore (L2 := [(14, .int 0), (0, .ref (ad 0)), (1, .ref (ad 109)), (2, .ref (ad 110)), (3, .ref (ad 111)), (4, .ref (ad 112)), (5, .ref (ad 113)), (6, .ref (ad 114)), (7, .ref (ad 115)), (8, .ref (ad 119)), (9, .ref (ad 120)), (10, .ref (ad 121)), (11, .ref (ad 122)), (12, .int x12), (13, .int x13)]) hC (by decide) rfl dL_isSo_180 ?_
  exact g_weak [1, 2, 3, 4, 5, 6, 7, 8, 9, 10, 11, 12, 13, 14, 0] rfl (t_L_isSo_182 hl9 hZ hC hr  N x12 x13 0 M h)
def f_L_isSo_171 (N : Nat) (kh51 : Int32 → Int32 → Int32 → gq_M → Option (Int32 × gq_M)) (x12 : Int32) (x14 : Int32) (s0 : Int32) (M : gq_M) : Option (Int32 × gq_M) :=
  kh51 x12 s0 (x14 + 1) M
set_option maxHeartbeats 1000000 in
set_option maxRecDepth 20000 in
theorem t_L_isSo_171 {N : Nat} {kh51 : Int32 → Int32 → Int32 → gq_M → Option (Int32 × gq_M)} {v9 : Int32} {M9 : gq_M} (hl9 : l.stackTraces = false) (hZ : gq_Zn A s) (hC : gq_C p s m args meth c D A cI cZ ad mtL RL cL_isSo 20) (hr : meth.sig.returnType = (some .boolean)) (hk51 : ∀ (x12 : Int32) (x13 : Int32) (x14 : Int32) (M : gq_M), kh51 x12 x13 x14 M = some (v9, M9) → gq_W p l e (gq_rl 10 3 18) s m args below meth c D A cI cZ ad mtL 20 (gq_NQ below D cI cZ ad mtL v9 M9 args s 3 18 A) 51 [(0, .ref (ad 0)), (1, .ref (ad 109)), (2, .ref (ad 110)), (3, .ref (ad 111)), (4, .ref (ad 112)), (5, .ref (ad 113)), (6, .ref (ad 114)), (7, .ref (ad 115)), (8, .ref (ad 119)), (9, .ref (ad 120)), (10, .ref (ad 121)), (11, .ref (ad 122)), (12, .int x12), (13, .int x13), (14, .int x14)] [] M 0 0)  : ∀ (x12 : Int32) (x14 : Int32) (s0 : Int32) (M : gq_M), f_L_isSo_171 N kh51 x12 x14 s0 M = some (v9, M9) → gq_W p l e (gq_rl 10 3 18) s m args below meth c D A cI cZ ad mtL 20 (gq_NQ below D cI cZ ad mtL v9 M9 args s 3 18 A) 171 [(0, .ref (ad 0)), (1, .ref (ad 109)), (2, .ref (ad 110)), (3, .ref (ad 111)), (4, .ref (ad 112)), (5, .ref (ad 113)), (6, .ref (ad 114)), (7, .ref (ad 115)), (8, .ref (ad 119)), (9, .ref (ad 120)), (10, .ref (ad 121)), (11, .ref (ad 122)), (12, .int x12), (14, .int x14)] [.int s0] M 0 0 := by
  intro x12 x14 s0 M h
  unfold f_L_isSo_171 at h
  refine g_istore (L2 := [(13, .int s0), (0, .ref (ad 0)), (1, .ref (ad 109)), (2, .ref (ad 110)), (3, .ref (ad 111)), (4, .ref (ad 112)), (5, .ref (ad 113)), (6, .ref (ad 114)), (7, .ref (ad 115)), (8, .ref (ad 119)), (9, .ref (ad 120)), (10, .ref (ad 121)), (11, .ref (ad 122)), (12, .int x12), (14, .int x14)]) hC (by decide) rfl dL_isSo_171 ?_
  refine g_iinc (v := (x14 + 1)) (L2 := [(14, .int (x14 + 1)), (13, .int s0), (0, .ref (ad 0)), (1, .ref (ad 109)), (2, .ref (ad 110)), (3, .ref (ad 111)), (4, .ref (ad 112)), (5, .ref (ad 113)), (6, .ref (ad 114)), (7, .ref (ad 115)), (8, .ref (ad 119)), (9, .ref (ad 120)), (10, .ref (ad 121)), (11, .ref (ad 122)), (12, .int x12)]) hC 14 rfl (by first | rfl | decide) (by decide) rfl dL_isSo_173 ?_
  refine g_goto (tgt := 51) hC (by decide) dL_isSo_176 ?_
  exact g_weak [2, 3, 4, 5, 6, 7, 8, 9, 10, 11, 12, 13, 14, 1, 0] rfl (hk51 x12 s0 (x14 + 1) M h)
def f_L_isSo_170 (N : Nat) (kh51 : Int32 → Int32 → Int32 → gq_M → Option (Int32 × gq_M)) (x12 : Int32) (x14 : Int32) (M : gq_M) : Option (Int32 × gq_M) :=
  f_L_isSo_171 N kh51 x12 x14 0 M
set_option maxHeartbeats 1000000 in
set_option maxRecDepth 20000 in
theorem t_L_isSo_170 {N : Nat} {kh51 : Int32 → Int32 → Int32 → gq_M → Option (Int32 × gq_M)} {v9 : Int32} {M9 : gq_M} (hl9 : l.stackTraces = false) (hZ : gq_Zn A s) (hC : gq_C p s m args meth c D A cI cZ ad mtL RL cL_isSo 20) (hr : meth.sig.returnType = (some .boolean)) (hk51 : ∀ (x12 : Int32) (x13 : Int32) (x14 : Int32) (M : gq_M), kh51 x12 x13 x14 M = some (v9, M9) → gq_W p l e (gq_rl 10 3 18) s m args below meth c D A cI cZ ad mtL 20 (gq_NQ below D cI cZ ad mtL v9 M9 args s 3 18 A) 51 [(0, .ref (ad 0)), (1, .ref (ad 109)), (2, .ref (ad 110)), (3, .ref (ad 111)), (4, .ref (ad 112)), (5, .ref (ad 113)), (6, .ref (ad 114)), (7, .ref (ad 115)), (8, .ref (ad 119)), (9, .ref (ad 120)), (10, .ref (ad 121)), (11, .ref (ad 122)), (12, .int x12), (13, .int x13), (14, .int x14)] [] M 0 0)  : ∀ (x12 : Int32) (x14 : Int32) (M : gq_M), f_L_isSo_170 N kh51 x12 x14 M = some (v9, M9) → gq_W p l e (gq_rl 10 3 18) s m args below meth c D A cI cZ ad mtL 20 (gq_NQ below D cI cZ ad mtL v9 M9 args s 3 18 A) 170 [(0, .ref (ad 0)), (1, .ref (ad 109)), (2, .ref (ad 110)), (3, .ref (ad 111)), (4, .ref (ad 112)), (5, .ref (ad 113)), (6, .ref (ad 114)), (7, .ref (ad 115)), (8, .ref (ad 119)), (9, .ref (ad 120)), (10, .ref (ad 121)), (11, .ref (ad 122)), (12, .int x12), (14, .int x14)] [] M 0 0 := by
  intro x12 x14 M h
  unfold f_L_isSo_170 at h
  refine g_iconst (v := 0) hC (by decide) dL_isSo_170 ?_
  exact g_weak [0, 1, 2, 3, 4, 5, 6, 7, 8, 9, 10, 11, 12, 13] rfl (t_L_isSo_171 hl9 hZ hC hr hk51 x12 x14 0 M h)
def f_L_isSo_149 (N : Nat) (kh51 : Int32 → Int32 → Int32 → gq_M → Option (Int32 × gq_M)) (x12 : Int32) (x14 : Int32) (s0 : Int32) (s1 : Int32) (M : gq_M) : Option (Int32 × gq_M) :=
  if s0 = s1 then (gq_y0 (f_X9_told N x14 4 M) fun v52 Cv52 => gq_l (mrg 109 Cv52 M) fun M54 => gq_g (gq_in x14 40) (gq_l (M54 111 x14.toNatClampNeg) fun v56 => if v52 = v56 then (f_L_isSo_171 N kh51 x12 x14 1 M54) else (f_L_isSo_170 N kh51 x12 x14 M54))) else (f_L_isSo_170 N kh51 x12 x14 M)
set_option maxHeartbeats 1000000 in
set_option maxRecDepth 20000 in
theorem t_L_isSo_149 {N : Nat} {kh51 : Int32 → Int32 → Int32 → gq_M → Option (Int32 × gq_M)} {v9 : Int32} {M9 : gq_M} (hl9 : l.stackTraces = false) (hZ : gq_Zn A s) (hC : gq_C p s m args meth c D A cI cZ ad mtL RL cL_isSo 20) (hr : meth.sig.returnType = (some .boolean)) (hk51 : ∀ (x12 : Int32) (x13 : Int32) (x14 : Int32) (M : gq_M), kh51 x12 x13 x14 M = some (v9, M9) → gq_W p l e (gq_rl 10 3 18) s m args below meth c D A cI cZ ad mtL 20 (gq_NQ below D cI cZ ad mtL v9 M9 args s 3 18 A) 51 [(0, .ref (ad 0)), (1, .ref (ad 109)), (2, .ref (ad 110)), (3, .ref (ad 111)), (4, .ref (ad 112)), (5, .ref (ad 113)), (6, .ref (ad 114)), (7, .ref (ad 115)), (8, .ref (ad 119)), (9, .ref (ad 120)), (10, .ref (ad 121)), (11, .ref (ad 122)), (12, .int x12), (13, .int x13), (14, .int x14)] [] M 0 0)  : ∀ (x12 : Int32) (x14 : Int32) (s0 : Int32) (s1 : Int32) (M : gq_M), f_L_isSo_149 N kh51 x12 x14 s0 s1 M = some (v9, M9) → gq_W p l e (gq_rl 10 3 18) s m args below meth c D A cI cZ ad mtL 20 (gq_NQ below D cI cZ ad mtL v9 M9 args s 3 18 A) 149 [(0, .ref (ad 0)), (1, .ref (ad 109)), (2, .ref (ad 110)), (3, .ref (ad 111)), (4, .ref (ad 112)), (5, .ref (ad 113)), (6, .ref (ad 114)), (7, .ref (ad 115)), (8, .ref (ad 119)), (9, .ref (ad 120)), (10, .ref (ad 121)), (11, .ref (ad 122)), (12, .int x12), (14, .int x14)] [.int s1, .int s0] M 0 0 := by
  intro x12 x14 s0 s1 M h
  unfold f_L_isSo_149 at h
  refine g_icmp_ne (tgt := 170) hC (by decide) dL_isSo_149 (fun c51 => ?_) (fun c51 => ?_)
  · replace h := gq_f c51 h
    exact g_weak [0, 1, 2, 3, 4, 5, 6, 7, 8, 9, 10, 11, 12, 13] rfl (t_L_isSo_170 hl9 hZ hC hr hk51 x12 x14 M h)
  · replace h := gq_t c51 h
    refine g_aload_n hC 0 rfl rfl dL_isSo_152 ?_
    refine g_iload hC 13 rfl dL_isSo_153 ?_
    refine g_iconst (v := 4) hC (by decide) dL_isSo_155 ?_
    obtain ⟨v52, Cv52, c53, h⟩ := gq_y0_i h
    refine g_LXi (mt1 := mtC) (mt2 := mtA) (as := [.int x14, .int 4]) hC hZ.1 (t_X9_told hl9 N _ _ _ _ _ _ c53) mV_X9_told wm_L_71 obC_0 rfl rfl (Nat.le_of_ble_eq_true rfl) ⟨Nat.le_of_ble_eq_true rfl, Nat.le_of_ble_eq_true rfl⟩ ⟨Nat.le_of_ble_eq_true rfl, Nat.le_of_ble_eq_true rfl⟩ dL_isSo_156 mtC_len (fun _ => ?_) (fun hx => absurd rfl hx)
    refine g_widen (kc2 := 0) (ks2 := 0) (Nat.le_refl _) (Nat.le_refl _) ?_
    refine g_topM (fun M54 hM54 => ?_)
    replace h := gq_l_i hM54 h
    refine g_aload_n hC 3 rfl rfl dL_isSo_159 ?_
    refine g_iload hC 13 rfl dL_isSo_160 ?_
    obtain ⟨g55, h⟩ := gq_g_i h
    refine g_iald hC arL_111 (gq_in_i g55) dL_isSo_162 ?_
    refine g_topi (fun v56 hv56 => ?_)
    replace h := gq_l_i hv56 h
    refine g_icmp_ne (tgt := 170) hC (by decide) dL_isSo_163 (fun c57 => ?_) (fun c57 => ?_)
    · replace h := gq_f c57 h
      exact g_weak [0, 1, 2, 3, 4, 5, 6, 7, 8, 9, 10, 11, 12, 13] rfl (t_L_isSo_170 hl9 hZ hC hr hk51 x12 x14 M54 h)
    · replace h := gq_t c57 h
      refine g_iconst (v := 1) hC (by decide) dL_isSo_166 ?_
      refine g_goto (tgt := 171) hC (by decide) dL_isSo_167 ?_
      exact g_weak [0, 1, 2, 3, 4, 5, 6, 7, 8, 9, 10, 11, 12, 13] rfl (t_L_isSo_171 hl9 hZ hC hr hk51 x12 x14 1 M54 h)
def f_L_isSo_51_b (N : Nat) (kh51 : Int32 → Int32 → Int32 → gq_M → Option (Int32 × gq_M)) (x12 : Int32) (x13 : Int32) (x14 : Int32) (M : gq_M) : Option (Int32 × gq_M) :=
  gq_g (gq_in 4 56) (gq_l (M 119 (4 : Int32).toNatClampNeg) fun v21 => if v21 ≤ x14 then (f_L_isSo_179 N  x12 x13 M) else (if x13 = 0 then (f_L_isSo_179 N  x12 x13 M) else (gq_y0 (f_X9_told N x14 0 M) fun v24 Cv24 => gq_l (mrg 109 Cv24 M) fun M26 => gq_b (f_L_how N x14 M26) fun v27 M29 => if v24 = v27 then (gq_y0 (f_X9_told N x14 1 M29) fun v31 Cv31 => gq_l (mrg 109 Cv31 M29) fun M33 => gq_g (gq_in x14 40) (gq_l (M33 109 x14.toNatClampNeg) fun v35 => if v31 = ((v35 / 128) - (v35 / 128) / 16 * 16) then (gq_y0 (f_X9_told N x14 2 M33) fun v37 Cv37 => gq_l (mrg 109 Cv37 M33) fun M39 => gq_g (gq_in x14 40) (gq_l (M39 112 x14.toNatClampNeg) fun v41 => if v37 = ((v41 - v41 / 16 * 16) - 1) then (gq_y0 (f_X9_told N x14 3 M39) fun v43 Cv43 => gq_l (mrg 109 Cv43 M39) fun M45 => gq_g (gq_in x14 40) (gq_l (M45 112 x14.toNatClampNeg) fun v47 => if v47 = 0 then (f_L_isSo_149 N kh51 x12 x14 v43 (-1) M45) else (gq_g (gq_in x14 40) (gq_l (M45 112 x14.toNatClampNeg) fun v50 => f_L_isSo_149 N kh51 x12 x14 v43 (v50 / 16) M45)))) else (f_L_isSo_170 N kh51 x12 x14 M39))) else (f_L_isSo_170 N kh51 x12 x14 M33))) else (f_L_isSo_170 N kh51 x12 x14 M29))))
def f_L_isSo_51 (N : Nat) : Nat → Int32 → Int32 → Int32 → gq_M → Option (Int32 × gq_M)
  | 0 => fun _ _ _ _ => none
  | n9 + 1 => f_L_isSo_51_b N  (f_L_isSo_51 N  n9)
set_option maxHeartbeats 1000000 in
set_option maxRecDepth 20000 in
theorem t_L_isSo_51_b {N : Nat} {kh51 : Int32 → Int32 → Int32 → gq_M → Option (Int32 × gq_M)} {v9 : Int32} {M9 : gq_M} (hl9 : l.stackTraces = false) (hZ : gq_Zn A s) (hC : gq_C p s m args meth c D A cI cZ ad mtL RL cL_isSo 20) (hr : meth.sig.returnType = (some .boolean))  (hk51 : ∀ (x12 : Int32) (x13 : Int32) (x14 : Int32) (M : gq_M), kh51 x12 x13 x14 M = some (v9, M9) → gq_W p l e (gq_rl 10 3 18) s m args below meth c D A cI cZ ad mtL 20 (gq_NQ below D cI cZ ad mtL v9 M9 args s 3 18 A) 51 [(0, .ref (ad 0)), (1, .ref (ad 109)), (2, .ref (ad 110)), (3, .ref (ad 111)), (4, .ref (ad 112)), (5, .ref (ad 113)), (6, .ref (ad 114)), (7, .ref (ad 115)), (8, .ref (ad 119)), (9, .ref (ad 120)), (10, .ref (ad 121)), (11, .ref (ad 122)), (12, .int x12), (13, .int x13), (14, .int x14)] [] M 0 0) : ∀ (x12 : Int32) (x13 : Int32) (x14 : Int32) (M : gq_M), f_L_isSo_51_b N  kh51 x12 x13 x14 M = some (v9, M9) → gq_W p l e (gq_rl 10 3 18) s m args below meth c D A cI cZ ad mtL 20 (gq_NQ below D cI cZ ad mtL v9 M9 args s 3 18 A) 51 [(0, .ref (ad 0)), (1, .ref (ad 109)), (2, .ref (ad 110)), (3, .ref (ad 111)), (4, .ref (ad 112)), (5, .ref (ad 113)), (6, .ref (ad 114)), (7, .ref (ad 115)), (8, .ref (ad 119)), (9, .ref (ad 120)), (10, .ref (ad 121)), (11, .ref (ad 122)), (12, .int x12), (13, .int x13), (14, .int x14)] [] M 0 0 := by
  intro x12 x13 x14 M h
  unfold f_L_isSo_51_b at h
  refine g_iload hC 14 rfl dL_isSo_51 ?_
  refine g_aload hC 8 rfl dL_isSo_53 ?_
  refine g_iconst (v := 4) hC (by decide) dL_isSo_55 ?_
  obtain ⟨g20, h⟩ := gq_g_i h
  refine g_iald hC arL_119 (gq_in_i g20) dL_isSo_56 ?_
  refine g_topi (fun v21 hv21 => ?_)
  replace h := gq_l_i hv21 h
  refine g_icmp_ge (tgt := 179) hC (by decide) dL_isSo_57 (fun c22 => ?_) (fun c22 => ?_)
  · replace h := gq_t c22 h
    exact g_weak [0, 1, 2, 3, 4, 5, 6, 7, 8, 9, 10, 11, 12, 13] rfl (t_L_isSo_179 hl9 hZ hC hr  x12 x13 M h)
  · replace h := gq_f c22 h
    refine g_iload hC 13 rfl dL_isSo_60 ?_
    refine g_if_eq (tgt := 179) hC (by decide) dL_isSo_62 (fun c23 => ?_) (fun c23 => ?_)
    · replace h := gq_t c23 h
      exact g_weak [0, 1, 2, 3, 4, 5, 6, 7, 8, 9, 10, 11, 12, 13] rfl (t_L_isSo_179 hl9 hZ hC hr  x12 x13 M h)
    · replace h := gq_f c23 h
      refine g_aload_n hC 0 rfl rfl dL_isSo_65 ?_
      refine g_iload hC 14 rfl dL_isSo_66 ?_
      refine g_iconst (v := 0) hC (by decide) dL_isSo_68 ?_
      obtain ⟨v24, Cv24, c25, h⟩ := gq_y0_i h
      refine g_LXi (mt1 := mtC) (mt2 := mtA) (as := [.int x14, .int 0]) hC hZ.1 (t_X9_told hl9 N _ _ _ _ _ _ c25) mV_X9_told wm_L_71 obC_0 rfl rfl (Nat.le_of_ble_eq_true rfl) ⟨Nat.le_of_ble_eq_true rfl, Nat.le_of_ble_eq_true rfl⟩ ⟨Nat.le_of_ble_eq_true rfl, Nat.le_of_ble_eq_true rfl⟩ dL_isSo_69 mtC_len (fun _ => ?_) (fun hx => absurd rfl hx)
      refine g_widen (kc2 := 0) (ks2 := 0) (Nat.le_refl _) (Nat.le_refl _) ?_
      refine g_topM (fun M26 hM26 => ?_)
      replace h := gq_l_i hM26 h
      refine g_aload_n hC 1 rfl rfl dL_isSo_72 ?_
      refine g_iload hC 14 rfl dL_isSo_73 ?_
      obtain ⟨v27, M29, c28, h⟩ := gq_b_i h
      refine g_Si (as := [.ref (ad 109), .int x14]) hC (t_L_how N _ _ _ _ c28) mS_L_how wm_L_95 rfl rfl (Nat.le_of_ble_eq_true rfl) ⟨Nat.le_of_ble_eq_true rfl, Nat.le_of_ble_eq_true rfl⟩ ⟨Nat.le_of_ble_eq_true rfl, Nat.le_of_ble_eq_true rfl⟩ dL_isSo_75 ?_
      refine g_icmp_ne (tgt := 170) hC (by decide) dL_isSo_78 (fun c30 => ?_) (fun c30 => ?_)
      · replace h := gq_f c30 h
        exact g_weak [0, 1, 2, 3, 4, 5, 6, 7, 8, 9, 10, 11, 12, 14] rfl (t_L_isSo_170 hl9 hZ hC hr hk51 x12 x14 M29 h)
      · replace h := gq_t c30 h
        refine g_aload_n hC 0 rfl rfl dL_isSo_81 ?_
        refine g_iload hC 14 rfl dL_isSo_82 ?_
        refine g_iconst (v := 1) hC (by decide) dL_isSo_84 ?_
        obtain ⟨v31, Cv31, c32, h⟩ := gq_y0_i h
        refine g_LXi (mt1 := mtC) (mt2 := mtA) (as := [.int x14, .int 1]) hC hZ.1 (t_X9_told hl9 N _ _ _ _ _ _ c32) mV_X9_told wm_L_71 obC_0 rfl rfl (Nat.le_of_ble_eq_true rfl) ⟨Nat.le_of_ble_eq_true rfl, Nat.le_of_ble_eq_true rfl⟩ ⟨Nat.le_of_ble_eq_true rfl, Nat.le_of_ble_eq_true rfl⟩ dL_isSo_85 mtC_len (fun _ => ?_) (fun hx => absurd rfl hx)
        refine g_widen (kc2 := 0) (ks2 := 0) (Nat.le_refl _) (Nat.le_refl _) ?_
        refine g_topM (fun M33 hM33 => ?_)
        replace h := gq_l_i hM33 h
        refine g_aload_n hC 1 rfl rfl dL_isSo_88 ?_
        refine g_iload hC 14 rfl dL_isSo_89 ?_
        obtain ⟨g34, h⟩ := gq_g_i h
        refine g_iald hC arL_109 (gq_in_i g34) dL_isSo_91 ?_
        refine g_topi (fun v35 hv35 => ?_)
        replace h := gq_l_i hv35 h
        refine g_sipush (v := 128) hC (by decide) dL_isSo_92 ?_
        refine g_idiv hC (by decide) dL_isSo_95 ?_
        refine g_bipush (v := 16) hC (by decide) dL_isSo_96 ?_
        refine g_irem hC (by decide) dL_isSo_98 ?_
        refine g_icmp_ne (tgt := 170) hC (by decide) dL_isSo_99 (fun c36 => ?_) (fun c36 => ?_)
        · replace h := gq_f c36 h
          exact g_weak [0, 1, 2, 3, 4, 5, 6, 7, 8, 9, 10, 11, 12, 14] rfl (t_L_isSo_170 hl9 hZ hC hr hk51 x12 x14 M33 h)
        · replace h := gq_t c36 h
          refine g_aload_n hC 0 rfl rfl dL_isSo_102 ?_
          refine g_iload hC 14 rfl dL_isSo_103 ?_
          refine g_iconst (v := 2) hC (by decide) dL_isSo_105 ?_
          obtain ⟨v37, Cv37, c38, h⟩ := gq_y0_i h
          refine g_LXi (mt1 := mtC) (mt2 := mtA) (as := [.int x14, .int 2]) hC hZ.1 (t_X9_told hl9 N _ _ _ _ _ _ c38) mV_X9_told wm_L_71 obC_0 rfl rfl (Nat.le_of_ble_eq_true rfl) ⟨Nat.le_of_ble_eq_true rfl, Nat.le_of_ble_eq_true rfl⟩ ⟨Nat.le_of_ble_eq_true rfl, Nat.le_of_ble_eq_true rfl⟩ dL_isSo_106 mtC_len (fun _ => ?_) (fun hx => absurd rfl hx)
          refine g_widen (kc2 := 0) (ks2 := 0) (Nat.le_refl _) (Nat.le_refl _) ?_
          refine g_topM (fun M39 hM39 => ?_)
          replace h := gq_l_i hM39 h
          refine g_aload hC 4 rfl dL_isSo_109 ?_
          refine g_iload hC 14 rfl dL_isSo_111 ?_
          obtain ⟨g40, h⟩ := gq_g_i h
          refine g_iald hC arL_112 (gq_in_i g40) dL_isSo_113 ?_
          refine g_topi (fun v41 hv41 => ?_)
          replace h := gq_l_i hv41 h
          refine g_bipush (v := 16) hC (by decide) dL_isSo_114 ?_
          refine g_irem hC (by decide) dL_isSo_116 ?_
          refine g_iconst (v := 1) hC (by decide) dL_isSo_117 ?_
          refine g_isub hC dL_isSo_118 ?_
          refine g_icmp_ne (tgt := 170) hC (by decide) dL_isSo_119 (fun c42 => ?_) (fun c42 => ?_)
          · replace h := gq_f c42 h
            exact g_weak [0, 1, 2, 3, 4, 5, 6, 7, 8, 9, 10, 11, 12, 14] rfl (t_L_isSo_170 hl9 hZ hC hr hk51 x12 x14 M39 h)
          · replace h := gq_t c42 h
            refine g_aload_n hC 0 rfl rfl dL_isSo_122 ?_
            refine g_iload hC 14 rfl dL_isSo_123 ?_
            refine g_iconst (v := 3) hC (by decide) dL_isSo_125 ?_
            obtain ⟨v43, Cv43, c44, h⟩ := gq_y0_i h
            refine g_LXi (mt1 := mtC) (mt2 := mtA) (as := [.int x14, .int 3]) hC hZ.1 (t_X9_told hl9 N _ _ _ _ _ _ c44) mV_X9_told wm_L_71 obC_0 rfl rfl (Nat.le_of_ble_eq_true rfl) ⟨Nat.le_of_ble_eq_true rfl, Nat.le_of_ble_eq_true rfl⟩ ⟨Nat.le_of_ble_eq_true rfl, Nat.le_of_ble_eq_true rfl⟩ dL_isSo_126 mtC_len (fun _ => ?_) (fun hx => absurd rfl hx)
            refine g_widen (kc2 := 0) (ks2 := 0) (Nat.le_refl _) (Nat.le_refl _) ?_
            refine g_topM (fun M45 hM45 => ?_)
            replace h := gq_l_i hM45 h
            refine g_aload hC 4 rfl dL_isSo_129 ?_
            refine g_iload hC 14 rfl dL_isSo_131 ?_
            obtain ⟨g46, h⟩ := gq_g_i h
            refine g_iald hC arL_112 (gq_in_i g46) dL_isSo_133 ?_
            refine g_topi (fun v47 hv47 => ?_)
            replace h := gq_l_i hv47 h
            refine g_if_ne (tgt := 141) hC (by decide) dL_isSo_134 (fun c48 => ?_) (fun c48 => ?_)
            · replace h := gq_f c48 h
              refine g_aload hC 4 rfl dL_isSo_141 ?_
              refine g_iload hC 14 rfl dL_isSo_143 ?_
              obtain ⟨g49, h⟩ := gq_g_i h
              refine g_iald hC arL_112 (gq_in_i g49) dL_isSo_145 ?_
              refine g_topi (fun v50 hv50 => ?_)
              replace h := gq_l_i hv50 h
              refine g_bipush (v := 16) hC (by decide) dL_isSo_146 ?_
              refine g_idiv hC (by decide) dL_isSo_148 ?_
              exact g_weak [0, 1, 2, 3, 4, 5, 6, 7, 8, 9, 10, 11, 12, 14] rfl (t_L_isSo_149 hl9 hZ hC hr hk51 x12 x14 v43 (v50 / 16) M45 h)
            · replace h := gq_t c48 h
              refine g_iconst (v := (-1)) hC (by decide) dL_isSo_137 ?_
              refine g_goto (tgt := 149) hC (by decide) dL_isSo_138 ?_
              exact g_weak [0, 1, 2, 3, 4, 5, 6, 7, 8, 9, 10, 11, 12, 14] rfl (t_L_isSo_149 hl9 hZ hC hr hk51 x12 x14 v43 (-1) M45 h)
theorem t_L_isSo_51 {N : Nat} {v9 : Int32} {M9 : gq_M} (hl9 : l.stackTraces = false) (hZ : gq_Zn A s) (hC : gq_C p s m args meth c D A cI cZ ad mtL RL cL_isSo 20) (hr : meth.sig.returnType = (some .boolean))  : ∀ (n9 : Nat) (x12 : Int32) (x13 : Int32) (x14 : Int32) (M : gq_M), f_L_isSo_51 N  n9 x12 x13 x14 M = some (v9, M9) → gq_W p l e (gq_rl 10 3 18) s m args below meth c D A cI cZ ad mtL 20 (gq_NQ below D cI cZ ad mtL v9 M9 args s 3 18 A) 51 [(0, .ref (ad 0)), (1, .ref (ad 109)), (2, .ref (ad 110)), (3, .ref (ad 111)), (4, .ref (ad 112)), (5, .ref (ad 113)), (6, .ref (ad 114)), (7, .ref (ad 115)), (8, .ref (ad 119)), (9, .ref (ad 120)), (10, .ref (ad 121)), (11, .ref (ad 122)), (12, .int x12), (13, .int x13), (14, .int x14)] [] M 0 0 := by
  intro n9
  induction n9 with
  | zero => intro x12 x13 x14 M h; cases h
  | succ n9 ih => intro x12 x13 x14 M h; exact t_L_isSo_51_b hl9 hZ hC hr  ih x12 x13 x14 M h
def f_L_isSo_46 (N : Nat) (x12 : Int32) (s0 : Int32) (M : gq_M) : Option (Int32 × gq_M) :=
  f_L_isSo_51 N  N x12 s0 0 M
set_option maxHeartbeats 1000000 in
set_option maxRecDepth 20000 in
theorem t_L_isSo_46 {N : Nat} {v9 : Int32} {M9 : gq_M} (hl9 : l.stackTraces = false) (hZ : gq_Zn A s) (hC : gq_C p s m args meth c D A cI cZ ad mtL RL cL_isSo 20) (hr : meth.sig.returnType = (some .boolean))   : ∀ (x12 : Int32) (s0 : Int32) (M : gq_M), f_L_isSo_46 N  x12 s0 M = some (v9, M9) → gq_W p l e (gq_rl 10 3 18) s m args below meth c D A cI cZ ad mtL 20 (gq_NQ below D cI cZ ad mtL v9 M9 args s 3 18 A) 46 [(0, .ref (ad 0)), (1, .ref (ad 109)), (2, .ref (ad 110)), (3, .ref (ad 111)), (4, .ref (ad 112)), (5, .ref (ad 113)), (6, .ref (ad 114)), (7, .ref (ad 115)), (8, .ref (ad 119)), (9, .ref (ad 120)), (10, .ref (ad 121)), (11, .ref (ad 122)), (12, .int x12)] [.int s0] M 0 0 := by
  intro x12 s0 M h
  unfold f_L_isSo_46 at h
  refine g_istore (L2 := [(13, .int s0), (0, .ref (ad 0)), (1, .ref (ad 109)), (2, .ref (ad 110)), (3, .ref (ad 111)), (4, .ref (ad 112)), (5, .ref (ad 113)), (6, .ref (ad 114)), (7, .ref (ad 115)), (8, .ref (ad 119)), (9, .ref (ad 120)), (10, .ref (ad 121)), (11, .ref (ad 122)), (12, .int x12)]) hC (by decide) rfl dL_isSo_46 ?_
  refine g_iconst (v := 0) hC (by decide) dL_isSo_48 ?_
  refine g_istore (L2 := [(14, .int 0), (13, .int s0), (0, .ref (ad 0)), (1, .ref (ad 109)), (2, .ref (ad 110)), (3, .ref (ad 111)), (4, .ref (ad 112)), (5, .ref (ad 113)), (6, .ref (ad 114)), (7, .ref (ad 115)), (8, .ref (ad 119)), (9, .ref (ad 120)), (10, .ref (ad 121)), (11, .ref (ad 122)), (12, .int x12)]) hC (by decide) rfl dL_isSo_49 ?_
  exact g_weak [2, 3, 4, 5, 6, 7, 8, 9, 10, 11, 12, 13, 14, 1, 0] rfl (t_L_isSo_51 hl9 hZ hC hr  N x12 s0 0 M h)
def f_L_isSo_45 (N : Nat) (x12 : Int32) (M : gq_M) : Option (Int32 × gq_M) :=
  f_L_isSo_46 N  x12 0 M
set_option maxHeartbeats 1000000 in
set_option maxRecDepth 20000 in
theorem t_L_isSo_45 {N : Nat} {v9 : Int32} {M9 : gq_M} (hl9 : l.stackTraces = false) (hZ : gq_Zn A s) (hC : gq_C p s m args meth c D A cI cZ ad mtL RL cL_isSo 20) (hr : meth.sig.returnType = (some .boolean))   : ∀ (x12 : Int32) (M : gq_M), f_L_isSo_45 N  x12 M = some (v9, M9) → gq_W p l e (gq_rl 10 3 18) s m args below meth c D A cI cZ ad mtL 20 (gq_NQ below D cI cZ ad mtL v9 M9 args s 3 18 A) 45 [(0, .ref (ad 0)), (1, .ref (ad 109)), (2, .ref (ad 110)), (3, .ref (ad 111)), (4, .ref (ad 112)), (5, .ref (ad 113)), (6, .ref (ad 114)), (7, .ref (ad 115)), (8, .ref (ad 119)), (9, .ref (ad 120)), (10, .ref (ad 121)), (11, .ref (ad 122)), (12, .int x12)] [] M 0 0 := by
  intro x12 M h
  unfold f_L_isSo_45 at h
  refine g_iconst (v := 0) hC (by decide) dL_isSo_45 ?_
  exact g_weak [0, 1, 2, 3, 4, 5, 6, 7, 8, 9, 10, 11, 12] rfl (t_L_isSo_46 hl9 hZ hC hr  x12 0 M h)
def f_L_isSo_38 (N : Nat) (x12 : Int32) (s0 : Int32) (s1 : Int32) (M : gq_M) : Option (Int32 × gq_M) :=
  if s0 = s1 then (f_L_isSo_46 N  x12 1 M) else (f_L_isSo_45 N  x12 M)
set_option maxHeartbeats 1000000 in
set_option maxRecDepth 20000 in
theorem t_L_isSo_38 {N : Nat} {v9 : Int32} {M9 : gq_M} (hl9 : l.stackTraces = false) (hZ : gq_Zn A s) (hC : gq_C p s m args meth c D A cI cZ ad mtL RL cL_isSo 20) (hr : meth.sig.returnType = (some .boolean))   : ∀ (x12 : Int32) (s0 : Int32) (s1 : Int32) (M : gq_M), f_L_isSo_38 N  x12 s0 s1 M = some (v9, M9) → gq_W p l e (gq_rl 10 3 18) s m args below meth c D A cI cZ ad mtL 20 (gq_NQ below D cI cZ ad mtL v9 M9 args s 3 18 A) 38 [(0, .ref (ad 0)), (1, .ref (ad 109)), (2, .ref (ad 110)), (3, .ref (ad 111)), (4, .ref (ad 112)), (5, .ref (ad 113)), (6, .ref (ad 114)), (7, .ref (ad 115)), (8, .ref (ad 119)), (9, .ref (ad 120)), (10, .ref (ad 121)), (11, .ref (ad 122)), (12, .int x12)] [.int s1, .int s0] M 0 0 := by
  intro x12 s0 s1 M h
  unfold f_L_isSo_38 at h
  refine g_icmp_ne (tgt := 45) hC (by decide) dL_isSo_38 (fun c19 => ?_) (fun c19 => ?_)
  · replace h := gq_f c19 h
    exact g_weak [0, 1, 2, 3, 4, 5, 6, 7, 8, 9, 10, 11, 12] rfl (t_L_isSo_45 hl9 hZ hC hr  x12 M h)
  · replace h := gq_t c19 h
    refine g_iconst (v := 1) hC (by decide) dL_isSo_41 ?_
    refine g_goto (tgt := 46) hC (by decide) dL_isSo_42 ?_
    exact g_weak [0, 1, 2, 3, 4, 5, 6, 7, 8, 9, 10, 11, 12] rfl (t_L_isSo_46 hl9 hZ hC hr  x12 1 M h)
def f_L_isSo (N : Nat) (a12 : Int32) (M : gq_M) : Option (Int32 × gq_M) :=
  gq_b (f_X9_now N M) fun v1 Cv1 => gq_l (mrg 109 Cv1 M) fun M3 => gq_g (gq_in 0 56) (gq_l (M3 119 (0 : Int32).toNatClampNeg) fun v5 => if v1 = v5 then (gq_b (f_X9_day N M3) fun v7 Cv7 => gq_l (mrg 109 Cv7 M3) fun M9 => gq_g (gq_in 1 56) (gq_l (M9 119 (1 : Int32).toNatClampNeg) fun v11 => if v7 = v11 then (gq_b (f_X9_isOpen N M9) fun v13 Cv13 => gq_l (mrg 109 Cv13 M9) fun M15 => gq_g (gq_in 2 56) (gq_l (M15 119 (2 : Int32).toNatClampNeg) fun v17 => if v17 ≤ 0 then (f_L_isSo_38 N  a12 v13 0 M15) else (f_L_isSo_38 N  a12 v13 1 M15))) else (f_L_isSo_45 N  a12 M9))) else (f_L_isSo_45 N  a12 M3))
set_option maxHeartbeats 4000000 in
set_option maxRecDepth 20000 in
theorem t_L_isSo {l : Launch} (hl9 : l.stackTraces = false) {D : va_G} {cI cZ : ClassId} {ad : Nat → Nat} (N : Nat) (a12 : Int32) (M : gq_M) (v9 : Int32) (M9 : gq_M) (h : f_L_isSo N a12 M = some (v9, M9)) : gq_Ni l D cI cZ ad mtL yL_isSo (.code yL_isSo cL_isSo 20 (some .boolean)) 10 3 18 [.ref (ad 0), .ref (ad 109), .ref (ad 110), .ref (ad 111), .ref (ad 112), .ref (ad 113), .ref (ad 114), .ref (ad 115), .ref (ad 119), .ref (ad 120), .ref (ad 121), .ref (ad 122), .int a12] M v9 M9 := by
  refine gq_introN (own := RL) (by decide) rfl (Nat.le_of_ble_eq_true rfl) ?_
  intro p e s m below meth c hC hr hZ
  refine g_cast (L2 := [(0, .ref (ad 0)), (1, .ref (ad 109)), (2, .ref (ad 110)), (3, .ref (ad 111)), (4, .ref (ad 112)), (5, .ref (ad 113)), (6, .ref (ad 114)), (7, .ref (ad 115)), (8, .ref (ad 119)), (9, .ref (ad 120)), (10, .ref (ad 121)), (11, .ref (ad 122)), (12, .int a12)]) ?_ rfl rfl rfl rfl
  unfold f_L_isSo at h
  refine g_aload_n hC 0 rfl rfl dL_isSo_0 ?_
  obtain ⟨v1, Cv1, c2, h⟩ := gq_b_i h
  refine g_LVi (mt1 := mtC) (mt2 := mtA) (as := []) hC (t_X9_now N _ _ _ c2) mV_X9_now wm_L_156 obC_0 rfl rfl (Nat.le_of_ble_eq_true rfl) ⟨Nat.le_of_ble_eq_true rfl, Nat.le_of_ble_eq_true rfl⟩ ⟨Nat.le_of_ble_eq_true rfl, Nat.le_of_ble_eq_true rfl⟩ dL_isSo_1 mtC_len ?_
  refine g_topM (fun M3 hM3 => ?_)
  replace h := gq_l_i hM3 h
  refine g_aload hC 8 rfl dL_isSo_4 ?_
  refine g_iconst (v := 0) hC (by decide) dL_isSo_6 ?_
  obtain ⟨g4, h⟩ := gq_g_i h
  refine g_iald hC arL_119 (gq_in_i g4) dL_isSo_7 ?_
  refine g_topi (fun v5 hv5 => ?_)
  replace h := gq_l_i hv5 h
  refine g_icmp_ne (tgt := 45) hC (by decide) dL_isSo_8 (fun c6 => ?_) (fun c6 => ?_)
  · replace h := gq_f c6 h
    exact g_weak [0, 1, 2, 3, 4, 5, 6, 7, 8, 9, 10, 11, 12] rfl (t_L_isSo_45 hl9 hZ hC hr  a12 M3 h)
  · replace h := gq_t c6 h
    refine g_aload_n hC 0 rfl rfl dL_isSo_11 ?_
    obtain ⟨v7, Cv7, c8, h⟩ := gq_b_i h
    refine g_LVi (mt1 := mtC) (mt2 := mtA) (as := []) hC (t_X9_day N _ _ _ c8) mV_X9_day wm_L_159 obC_0 rfl rfl (Nat.le_of_ble_eq_true rfl) ⟨Nat.le_of_ble_eq_true rfl, Nat.le_of_ble_eq_true rfl⟩ ⟨Nat.le_of_ble_eq_true rfl, Nat.le_of_ble_eq_true rfl⟩ dL_isSo_12 mtC_len ?_
    refine g_topM (fun M9 hM9 => ?_)
    replace h := gq_l_i hM9 h
    refine g_aload hC 8 rfl dL_isSo_15 ?_
    refine g_iconst (v := 1) hC (by decide) dL_isSo_17 ?_
    obtain ⟨g10, h⟩ := gq_g_i h
    refine g_iald hC arL_119 (gq_in_i g10) dL_isSo_18 ?_
    refine g_topi (fun v11 hv11 => ?_)
    replace h := gq_l_i hv11 h
    refine g_icmp_ne (tgt := 45) hC (by decide) dL_isSo_19 (fun c12 => ?_) (fun c12 => ?_)
    · replace h := gq_f c12 h
      exact g_weak [0, 1, 2, 3, 4, 5, 6, 7, 8, 9, 10, 11, 12] rfl (t_L_isSo_45 hl9 hZ hC hr  a12 M9 h)
    · replace h := gq_t c12 h
      refine g_aload_n hC 0 rfl rfl dL_isSo_22 ?_
      obtain ⟨v13, Cv13, c14, h⟩ := gq_b_i h
      refine g_LVi (mt1 := mtC) (mt2 := mtA) (as := []) hC (t_X9_isOpen N _ _ _ c14) mV_X9_isOpen wm_L_162 obC_0 rfl rfl (Nat.le_of_ble_eq_true rfl) ⟨Nat.le_of_ble_eq_true rfl, Nat.le_of_ble_eq_true rfl⟩ ⟨Nat.le_of_ble_eq_true rfl, Nat.le_of_ble_eq_true rfl⟩ dL_isSo_23 mtC_len ?_
      refine g_topM (fun M15 hM15 => ?_)
      replace h := gq_l_i hM15 h
      refine g_aload hC 8 rfl dL_isSo_26 ?_
      refine g_iconst (v := 2) hC (by decide) dL_isSo_28 ?_
      obtain ⟨g16, h⟩ := gq_g_i h
      refine g_iald hC arL_119 (gq_in_i g16) dL_isSo_29 ?_
      refine g_topi (fun v17 hv17 => ?_)
      replace h := gq_l_i hv17 h
      refine g_if_le (tgt := 37) hC (by decide) dL_isSo_30 (fun c18 => ?_) (fun c18 => ?_)
      · replace h := gq_t c18 h
        refine g_iconst (v := 0) hC (by decide) dL_isSo_37 ?_
        exact g_weak [0, 1, 2, 3, 4, 5, 6, 7, 8, 9, 10, 11, 12] rfl (t_L_isSo_38 hl9 hZ hC hr  a12 v13 0 M15 h)
      · replace h := gq_f c18 h
        refine g_iconst (v := 1) hC (by decide) dL_isSo_33 ?_
        refine g_goto (tgt := 38) hC (by decide) dL_isSo_34 ?_
        exact g_weak [0, 1, 2, 3, 4, 5, 6, 7, 8, 9, 10, 11, 12] rfl (t_L_isSo_38 hl9 hZ hC hr  a12 v13 1 M15 h)
end
