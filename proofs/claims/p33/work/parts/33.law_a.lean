section
variable {p : Program} {l : Launch} {e : Env} {s : State} {m : MethodId} {args : Array Value} {below : List Frame} {meth : Method} {c : Code} {D : va_G} {A : Nat → Prop} {cI cZ : ClassId} {ad : Nat → Nat}
def f_L_how (N : Nat) (a1 : Int32) (M : gq_M) : Option (Int32 × gq_M) :=
  gq_g (gq_in a1 40) (gq_l (M 109 a1.toNatClampNeg) fun v2 => some (((v2 / 2048) - (v2 / 2048) / 8 * 8), M))
set_option maxHeartbeats 1000000 in
set_option maxRecDepth 20000 in
theorem t_L_how {l : Launch} {D : va_G} {cI cZ : ClassId} {ad : Nat → Nat} (N : Nat) (a1 : Int32) (M : gq_M) (v9 : Int32) (M9 : gq_M) (h : f_L_how N a1 M = some (v9, M9)) : gq_Ci l D cI cZ ad mtL yL_how cL_how 2 (some .int) 0 [.ref (ad 109), .int a1] M v9 M9 := by
  refine gq_introI (own := RL) (by decide) rfl (Nat.le_of_ble_eq_true rfl) ?_
  intro p e s m below meth c hC hr
  refine g_cast (L2 := [(0, .ref (ad 109)), (1, .int a1)]) ?_ rfl rfl rfl rfl
  unfold f_L_how at h
  refine g_aload_n hC 0 rfl rfl dL_how_0 ?_
  refine g_iload_n hC 1 rfl rfl dL_how_1 ?_
  obtain ⟨g1, h⟩ := gq_g_i h
  refine g_iald hC arL_109 (gq_in_i g1) dL_how_2 ?_
  refine g_topi (fun v2 hv2 => ?_)
  replace h := gq_l_i hv2 h
  refine g_sipush (v := 2048) hC (by decide) dL_how_3 ?_
  refine g_idiv hC (by decide) dL_how_6 ?_
  refine g_bipush (v := 8) hC (by decide) dL_how_7 ?_
  refine g_irem hC (by decide) dL_how_9 ?_
  exact g_irets hC hr h dL_how_10
def f_L_becomes (N : Nat) (a1 : Int32) (a2 : Int32) (M : gq_M) : Option (Int32 × gq_M) :=
  gq_g (gq_in a1 40) (gq_l (M 109 a1.toNatClampNeg) fun v2 => gq_b (f_L_how N a1 M) fun v3 M5 => gq_g (gq_in a1 40) (gq_l (gq_up M5 109 a1.toNatClampNeg (v2 + (2048 * (a2 - v3)))) fun M7 => some (0, M7)))
set_option maxHeartbeats 1000000 in
set_option maxRecDepth 20000 in
theorem t_L_becomes {l : Launch} {D : va_G} {cI cZ : ClassId} {ad : Nat → Nat} (N : Nat) (a1 : Int32) (a2 : Int32) (M : gq_M) (v9 : Int32) (M9 : gq_M) (h : f_L_becomes N a1 a2 M = some (v9, M9)) : gq_Cv l D cI cZ ad mtL yL_becomes cL_becomes 3 1 [.ref (ad 109), .int a1, .int a2] M M9 := by
  refine gq_introV (own := RL) (by decide) rfl (Nat.le_of_ble_eq_true rfl) ?_
  intro p e s m below meth c hC hr
  refine g_cast (L2 := [(0, .ref (ad 109)), (1, .int a1), (2, .int a2)]) ?_ rfl rfl rfl rfl
  unfold f_L_becomes at h
  refine g_aload_n hC 0 rfl rfl dL_becomes_0 ?_
  refine g_iload_n hC 1 rfl rfl dL_becomes_1 ?_
  refine g_dup2 hC rfl rfl dL_becomes_2 ?_
  obtain ⟨g1, h⟩ := gq_g_i h
  refine g_iald hC arL_109 (gq_in_i g1) dL_becomes_3 ?_
  refine g_topi (fun v2 hv2 => ?_)
  replace h := gq_l_i hv2 h
  refine g_sipush (v := 2048) hC (by decide) dL_becomes_4 ?_
  refine g_iload_n hC 2 rfl rfl dL_becomes_7 ?_
  refine g_aload_n hC 0 rfl rfl dL_becomes_8 ?_
  refine g_iload_n hC 1 rfl rfl dL_becomes_9 ?_
  obtain ⟨v3, M5, c4, h⟩ := gq_b_i h
  refine g_Si (as := [.ref (ad 109), .int a1]) hC (t_L_how N _ _ _ _ c4) mS_L_how wm_L_95 rfl rfl (Nat.le_of_ble_eq_true rfl) ⟨Nat.le_of_ble_eq_true rfl, Nat.le_of_ble_eq_true rfl⟩ ⟨Nat.zero_le _, Nat.zero_le _⟩ dL_becomes_10 ?_
  refine g_isub hC dL_becomes_13 ?_
  refine g_imul hC dL_becomes_14 ?_
  refine g_iadd hC dL_becomes_15 ?_
  obtain ⟨g6, h⟩ := gq_g_i h
  refine g_iast hC arL_109 (gq_in_i g6) dL_becomes_16 ?_
  refine g_topM (fun M7 hM7 => ?_)
  replace h := gq_l_i hM7 h
  exact g_vrets hC hr h dL_becomes_17
def f_L_isLeft_21 (N : Nat) (s0 : Int32) (M : gq_M) : Option (Int32 × gq_M) :=
  gq_g (gq_bb s0) (some (s0, M))
set_option maxHeartbeats 1000000 in
set_option maxRecDepth 20000 in
theorem t_L_isLeft_21 {N : Nat} {v9 : Int32} {M9 : gq_M} (hC : gq_C p s m args meth c D A cI cZ ad mtL RL cL_isLeft 4) (hr : meth.sig.returnType = (some .boolean))   : ∀ (s0 : Int32) (M : gq_M), f_L_isLeft_21 N  s0 M = some (v9, M9) → gq_W p l e (gq_rm 1) s m args below meth c D A cI cZ ad mtL 4 (MQ below (gq_Qi D cI cZ ad mtL v9 M9 A) args s 0 0 A) 21 [] [.int s0] M 0 0 := by
  intro s0 M h
  unfold f_L_isLeft_21 at h
  obtain ⟨g8, h⟩ := gq_g_i h
  exact g_zrets hC hr (gq_bb_i g8) h dL_isLeft_21
def f_L_isLeft_20 (N : Nat) (M : gq_M) : Option (Int32 × gq_M) :=
  f_L_isLeft_21 N  0 M
set_option maxHeartbeats 1000000 in
set_option maxRecDepth 20000 in
theorem t_L_isLeft_20 {N : Nat} {v9 : Int32} {M9 : gq_M} (hC : gq_C p s m args meth c D A cI cZ ad mtL RL cL_isLeft 4) (hr : meth.sig.returnType = (some .boolean))   : ∀ (M : gq_M), f_L_isLeft_20 N   M = some (v9, M9) → gq_W p l e (gq_rm 1) s m args below meth c D A cI cZ ad mtL 4 (MQ below (gq_Qi D cI cZ ad mtL v9 M9 A) args s 0 0 A) 20 [] [] M 0 0 := by
  intro  M h
  unfold f_L_isLeft_20 at h
  refine g_iconst (v := 0) hC (by decide) dL_isLeft_20 ?_
  exact g_weak [] rfl (t_L_isLeft_21 hC hr  0 M h)
def f_L_isLeft (N : Nat) (a2 : Int32) (a3 : Int32) (M : gq_M) : Option (Int32 × gq_M) :=
  gq_g (gq_in a2 40) (gq_l (M 111 a2.toNatClampNeg) fun v2 => if v2 = a3 then (gq_b (f_L_how N a2 M) fun v4 M6 => if v4 = 2 then (f_L_isLeft_21 N  1 M6) else (f_L_isLeft_20 N   M6)) else (f_L_isLeft_20 N   M))
set_option maxHeartbeats 1000000 in
set_option maxRecDepth 20000 in
theorem t_L_isLeft {l : Launch} {D : va_G} {cI cZ : ClassId} {ad : Nat → Nat} (N : Nat) (a2 : Int32) (a3 : Int32) (M : gq_M) (v9 : Int32) (M9 : gq_M) (h : f_L_isLeft N a2 a3 M = some (v9, M9)) : gq_Ci l D cI cZ ad mtL yL_isLeft cL_isLeft 4 (some .boolean) 1 [.ref (ad 109), .ref (ad 111), .int a2, .int a3] M v9 M9 := by
  refine gq_introI (own := RL) (by decide) rfl (Nat.le_of_ble_eq_true rfl) ?_
  intro p e s m below meth c hC hr
  refine g_cast (L2 := [(0, .ref (ad 109)), (1, .ref (ad 111)), (2, .int a2), (3, .int a3)]) ?_ rfl rfl rfl rfl
  unfold f_L_isLeft at h
  refine g_aload_n hC 1 rfl rfl dL_isLeft_0 ?_
  refine g_iload_n hC 2 rfl rfl dL_isLeft_1 ?_
  obtain ⟨g1, h⟩ := gq_g_i h
  refine g_iald hC arL_111 (gq_in_i g1) dL_isLeft_2 ?_
  refine g_topi (fun v2 hv2 => ?_)
  replace h := gq_l_i hv2 h
  refine g_iload_n hC 3 rfl rfl dL_isLeft_3 ?_
  refine g_icmp_ne (tgt := 20) hC (by decide) dL_isLeft_4 (fun c3 => ?_) (fun c3 => ?_)
  · replace h := gq_f c3 h
    exact g_weak [] rfl (t_L_isLeft_20 hC hr   M h)
  · replace h := gq_t c3 h
    refine g_aload_n hC 0 rfl rfl dL_isLeft_7 ?_
    refine g_iload_n hC 2 rfl rfl dL_isLeft_8 ?_
    obtain ⟨v4, M6, c5, h⟩ := gq_b_i h
    refine g_Si (as := [.ref (ad 109), .int a2]) hC (t_L_how N _ _ _ _ c5) mS_L_how wm_L_95 rfl rfl (Nat.le_of_ble_eq_true rfl) ⟨Nat.le_of_ble_eq_true rfl, Nat.le_of_ble_eq_true rfl⟩ ⟨Nat.zero_le _, Nat.zero_le _⟩ dL_isLeft_9 ?_
    refine g_iconst (v := 2) hC (by decide) dL_isLeft_12 ?_
    refine g_icmp_ne (tgt := 20) hC (by decide) dL_isLeft_13 (fun c7 => ?_) (fun c7 => ?_)
    · replace h := gq_f c7 h
      exact g_weak [] rfl (t_L_isLeft_20 hC hr   M6 h)
    · replace h := gq_t c7 h
      refine g_iconst (v := 1) hC (by decide) dL_isLeft_16 ?_
      refine g_goto (tgt := 21) hC (by decide) dL_isLeft_17 ?_
      exact g_weak [] rfl (t_L_isLeft_21 hC hr  1 M6 h)
def f_L_left_32 (N : Nat) (kh6 : Int32 → Int32 → Int32 → gq_M → Option (Int32 × gq_M)) (x3 : Int32) (x5 : Int32) (s0 : Int32) (s1 : Int32) (M : gq_M) : Option (Int32 × gq_M) :=
  kh6 x3 (s0 + s1) (x5 + 1) M
set_option maxHeartbeats 1000000 in
set_option maxRecDepth 20000 in
theorem t_L_left_32 {N : Nat} {kh6 : Int32 → Int32 → Int32 → gq_M → Option (Int32 × gq_M)} {v9 : Int32} {M9 : gq_M} (hC : gq_C p s m args meth c D A cI cZ ad mtL RL cL_left 6) (hr : meth.sig.returnType = (some .int)) (hk6 : ∀ (x3 : Int32) (x4 : Int32) (x5 : Int32) (M : gq_M), kh6 x3 x4 x5 M = some (v9, M9) → gq_W p l e (gq_rm 2) s m args below meth c D A cI cZ ad mtL 6 (MQ below (gq_Qi D cI cZ ad mtL v9 M9 A) args s 0 0 A) 6 [(0, .ref (ad 109)), (1, .ref (ad 111)), (2, .ref (ad 119)), (3, .int x3), (4, .int x4), (5, .int x5)] [] M 0 0)  : ∀ (x3 : Int32) (x5 : Int32) (s0 : Int32) (s1 : Int32) (M : gq_M), f_L_left_32 N kh6 x3 x5 s0 s1 M = some (v9, M9) → gq_W p l e (gq_rm 2) s m args below meth c D A cI cZ ad mtL 6 (MQ below (gq_Qi D cI cZ ad mtL v9 M9 A) args s 0 0 A) 32 [(0, .ref (ad 109)), (1, .ref (ad 111)), (2, .ref (ad 119)), (3, .int x3), (5, .int x5)] [.int s1, .int s0] M 0 0 := by
  intro x3 x5 s0 s1 M h
  unfold f_L_left_32 at h
  refine g_iadd hC dL_left_32 ?_
  refine g_istore (L2 := [(4, .int (s0 + s1)), (0, .ref (ad 109)), (1, .ref (ad 111)), (2, .ref (ad 119)), (3, .int x3), (5, .int x5)]) hC (by decide) rfl dL_left_33 ?_
  refine g_iinc (v := (x5 + 1)) (L2 := [(5, .int (x5 + 1)), (4, .int (s0 + s1)), (0, .ref (ad 109)), (1, .ref (ad 111)), (2, .ref (ad 119)), (3, .int x3)]) hC 5 rfl (by first | rfl | decide) (by decide) rfl dL_left_35 ?_
  refine g_goto (tgt := 6) hC (by decide) dL_left_38 ?_
  exact g_weak [2, 3, 4, 5, 1, 0] rfl (hk6 x3 (s0 + s1) (x5 + 1) M h)
def f_L_left_6_b (N : Nat) (kh6 : Int32 → Int32 → Int32 → gq_M → Option (Int32 × gq_M)) (x3 : Int32) (x4 : Int32) (x5 : Int32) (M : gq_M) : Option (Int32 × gq_M) :=
  gq_g (gq_in 4 56) (gq_l (M 119 (4 : Int32).toNatClampNeg) fun v2 => if v2 ≤ x5 then (some (x4, M)) else (gq_b (f_L_isLeft N x5 x3 M) fun v4 M6 => if v4 = 0 then (f_L_left_32 N kh6 x3 x5 x4 0 M6) else (f_L_left_32 N kh6 x3 x5 x4 1 M6)))
def f_L_left_6 (N : Nat) : Nat → Int32 → Int32 → Int32 → gq_M → Option (Int32 × gq_M)
  | 0 => fun _ _ _ _ => none
  | n9 + 1 => f_L_left_6_b N  (f_L_left_6 N  n9)
set_option maxHeartbeats 1000000 in
set_option maxRecDepth 20000 in
theorem t_L_left_6_b {N : Nat} {kh6 : Int32 → Int32 → Int32 → gq_M → Option (Int32 × gq_M)} {v9 : Int32} {M9 : gq_M} (hC : gq_C p s m args meth c D A cI cZ ad mtL RL cL_left 6) (hr : meth.sig.returnType = (some .int))  (hk6 : ∀ (x3 : Int32) (x4 : Int32) (x5 : Int32) (M : gq_M), kh6 x3 x4 x5 M = some (v9, M9) → gq_W p l e (gq_rm 2) s m args below meth c D A cI cZ ad mtL 6 (MQ below (gq_Qi D cI cZ ad mtL v9 M9 A) args s 0 0 A) 6 [(0, .ref (ad 109)), (1, .ref (ad 111)), (2, .ref (ad 119)), (3, .int x3), (4, .int x4), (5, .int x5)] [] M 0 0) : ∀ (x3 : Int32) (x4 : Int32) (x5 : Int32) (M : gq_M), f_L_left_6_b N  kh6 x3 x4 x5 M = some (v9, M9) → gq_W p l e (gq_rm 2) s m args below meth c D A cI cZ ad mtL 6 (MQ below (gq_Qi D cI cZ ad mtL v9 M9 A) args s 0 0 A) 6 [(0, .ref (ad 109)), (1, .ref (ad 111)), (2, .ref (ad 119)), (3, .int x3), (4, .int x4), (5, .int x5)] [] M 0 0 := by
  intro x3 x4 x5 M h
  unfold f_L_left_6_b at h
  refine g_iload hC 5 rfl dL_left_6 ?_
  refine g_aload_n hC 2 rfl rfl dL_left_8 ?_
  refine g_iconst (v := 4) hC (by decide) dL_left_9 ?_
  obtain ⟨g1, h⟩ := gq_g_i h
  refine g_iald hC arL_119 (gq_in_i g1) dL_left_10 ?_
  refine g_topi (fun v2 hv2 => ?_)
  replace h := gq_l_i hv2 h
  refine g_icmp_ge (tgt := 41) hC (by decide) dL_left_11 (fun c3 => ?_) (fun c3 => ?_)
  · replace h := gq_t c3 h
    refine g_iload hC 4 rfl dL_left_41 ?_
    exact g_irets hC hr h dL_left_43
  · replace h := gq_f c3 h
    refine g_iload hC 4 rfl dL_left_14 ?_
    refine g_aload_n hC 0 rfl rfl dL_left_16 ?_
    refine g_aload_n hC 1 rfl rfl dL_left_17 ?_
    refine g_iload hC 5 rfl dL_left_18 ?_
    refine g_iload_n hC 3 rfl rfl dL_left_20 ?_
    obtain ⟨v4, M6, c5, h⟩ := gq_b_i h
    refine g_Si (as := [.ref (ad 109), .ref (ad 111), .int x5, .int x3]) hC (t_L_isLeft N _ _ _ _ _ c5) mS_L_isLeft wm_L_99 rfl rfl (Nat.le_of_ble_eq_true rfl) ⟨Nat.le_of_ble_eq_true rfl, Nat.le_of_ble_eq_true rfl⟩ ⟨Nat.zero_le _, Nat.zero_le _⟩ dL_left_21 ?_
    refine g_if_eq (tgt := 31) hC (by decide) dL_left_24 (fun c7 => ?_) (fun c7 => ?_)
    · replace h := gq_t c7 h
      refine g_iconst (v := 0) hC (by decide) dL_left_31 ?_
      exact g_weak [0, 1, 2, 3, 5] rfl (t_L_left_32 hC hr hk6 x3 x5 x4 0 M6 h)
    · replace h := gq_f c7 h
      refine g_iconst (v := 1) hC (by decide) dL_left_27 ?_
      refine g_goto (tgt := 32) hC (by decide) dL_left_28 ?_
      exact g_weak [0, 1, 2, 3, 5] rfl (t_L_left_32 hC hr hk6 x3 x5 x4 1 M6 h)
theorem t_L_left_6 {N : Nat} {v9 : Int32} {M9 : gq_M} (hC : gq_C p s m args meth c D A cI cZ ad mtL RL cL_left 6) (hr : meth.sig.returnType = (some .int))  : ∀ (n9 : Nat) (x3 : Int32) (x4 : Int32) (x5 : Int32) (M : gq_M), f_L_left_6 N  n9 x3 x4 x5 M = some (v9, M9) → gq_W p l e (gq_rm 2) s m args below meth c D A cI cZ ad mtL 6 (MQ below (gq_Qi D cI cZ ad mtL v9 M9 A) args s 0 0 A) 6 [(0, .ref (ad 109)), (1, .ref (ad 111)), (2, .ref (ad 119)), (3, .int x3), (4, .int x4), (5, .int x5)] [] M 0 0 := by
  intro n9
  induction n9 with
  | zero => intro x3 x4 x5 M h; cases h
  | succ n9 ih => intro x3 x4 x5 M h; exact t_L_left_6_b hC hr  ih x3 x4 x5 M h
def f_L_left (N : Nat) (a3 : Int32) (M : gq_M) : Option (Int32 × gq_M) :=
  f_L_left_6 N  N a3 0 0 M
set_option maxHeartbeats 1000000 in
set_option maxRecDepth 20000 in
theorem t_L_left {l : Launch} {D : va_G} {cI cZ : ClassId} {ad : Nat → Nat} (N : Nat) (a3 : Int32) (M : gq_M) (v9 : Int32) (M9 : gq_M) (h : f_L_left N a3 M = some (v9, M9)) : gq_Ci l D cI cZ ad mtL yL_left cL_left 6 (some .int) 2 [.ref (ad 109), .ref (ad 111), .ref (ad 119), .int a3] M v9 M9 := by
  refine gq_introI (own := RL) (by decide) rfl (Nat.le_of_ble_eq_true rfl) ?_
  intro p e s m below meth c hC hr
  refine g_cast (L2 := [(0, .ref (ad 109)), (1, .ref (ad 111)), (2, .ref (ad 119)), (3, .int a3)]) ?_ rfl rfl rfl rfl
  unfold f_L_left at h
  refine g_iconst (v := 0) hC (by decide) dL_left_0 ?_
  refine g_istore (L2 := [(4, .int 0), (0, .ref (ad 109)), (1, .ref (ad 111)), (2, .ref (ad 119)), (3, .int a3)]) hC (by decide) rfl dL_left_1 ?_
  refine g_iconst (v := 0) hC (by decide) dL_left_3 ?_
  refine g_istore (L2 := [(5, .int 0), (4, .int 0), (0, .ref (ad 109)), (1, .ref (ad 111)), (2, .ref (ad 119)), (3, .int a3)]) hC (by decide) rfl dL_left_4 ?_
  exact g_weak [2, 3, 4, 5, 1, 0] rfl (t_L_left_6 hC hr  N a3 0 0 M h)
def f_L_first_30 (N : Nat) (x4 : Int32) (M : gq_M) : Option (Int32 × gq_M) :=
  some (x4, M)
set_option maxHeartbeats 1000000 in
set_option maxRecDepth 20000 in
theorem t_L_first_30 {N : Nat} {v9 : Int32} {M9 : gq_M} (hC : gq_C p s m args meth c D A cI cZ ad mtL RL cL_first 5) (hr : meth.sig.returnType = (some .int))   : ∀ (x4 : Int32) (M : gq_M), f_L_first_30 N  x4 M = some (v9, M9) → gq_W p l e (gq_rm 2) s m args below meth c D A cI cZ ad mtL 5 (MQ below (gq_Qi D cI cZ ad mtL v9 M9 A) args s 0 0 A) 30 [(4, .int x4)] [] M 0 0 := by
  intro x4 M h
  unfold f_L_first_30 at h
  refine g_iload hC 0 rfl dL_first_30 ?_
  exact g_irets hC hr h dL_first_32
def f_L_first_3_b (N : Nat) (kh3 : Int32 → Int32 → gq_M → Option (Int32 × gq_M)) (x3 : Int32) (x4 : Int32) (M : gq_M) : Option (Int32 × gq_M) :=
  gq_g (gq_in 4 56) (gq_l (M 119 (4 : Int32).toNatClampNeg) fun v2 => if (v2 - 1) ≤ x4 then (f_L_first_30 N  x4 M) else (gq_b (f_L_isLeft N x4 x3 M) fun v4 M6 => if v4 = 0 then (kh3 x3 (x4 + 1) M6) else (f_L_first_30 N  x4 M6)))
def f_L_first_3 (N : Nat) : Nat → Int32 → Int32 → gq_M → Option (Int32 × gq_M)
  | 0 => fun _ _ _ => none
  | n9 + 1 => f_L_first_3_b N  (f_L_first_3 N  n9)
set_option maxHeartbeats 1000000 in
set_option maxRecDepth 20000 in
theorem t_L_first_3_b {N : Nat} {kh3 : Int32 → Int32 → gq_M → Option (Int32 × gq_M)} {v9 : Int32} {M9 : gq_M} (hC : gq_C p s m args meth c D A cI cZ ad mtL RL cL_first 5) (hr : meth.sig.returnType = (some .int))  (hk3 : ∀ (x3 : Int32) (x4 : Int32) (M : gq_M), kh3 x3 x4 M = some (v9, M9) → gq_W p l e (gq_rm 2) s m args below meth c D A cI cZ ad mtL 5 (MQ below (gq_Qi D cI cZ ad mtL v9 M9 A) args s 0 0 A) 3 [(0, .ref (ad 109)), (1, .ref (ad 111)), (2, .ref (ad 119)), (3, .int x3), (4, .int x4)] [] M 0 0) : ∀ (x3 : Int32) (x4 : Int32) (M : gq_M), f_L_first_3_b N  kh3 x3 x4 M = some (v9, M9) → gq_W p l e (gq_rm 2) s m args below meth c D A cI cZ ad mtL 5 (MQ below (gq_Qi D cI cZ ad mtL v9 M9 A) args s 0 0 A) 3 [(0, .ref (ad 109)), (1, .ref (ad 111)), (2, .ref (ad 119)), (3, .int x3), (4, .int x4)] [] M 0 0 := by
  intro x3 x4 M h
  unfold f_L_first_3_b at h
  refine g_iload hC 4 rfl dL_first_3 ?_
  refine g_aload_n hC 2 rfl rfl dL_first_5 ?_
  refine g_iconst (v := 4) hC (by decide) dL_first_6 ?_
  obtain ⟨g1, h⟩ := gq_g_i h
  refine g_iald hC arL_119 (gq_in_i g1) dL_first_7 ?_
  refine g_topi (fun v2 hv2 => ?_)
  replace h := gq_l_i hv2 h
  refine g_iconst (v := 1) hC (by decide) dL_first_8 ?_
  refine g_isub hC dL_first_9 ?_
  refine g_icmp_ge (tgt := 30) hC (by decide) dL_first_10 (fun c3 => ?_) (fun c3 => ?_)
  · replace h := gq_t c3 h
    exact g_weak [4] rfl (t_L_first_30 hC hr  x4 M h)
  · replace h := gq_f c3 h
    refine g_aload_n hC 0 rfl rfl dL_first_13 ?_
    refine g_aload_n hC 1 rfl rfl dL_first_14 ?_
    refine g_iload hC 4 rfl dL_first_15 ?_
    refine g_iload_n hC 3 rfl rfl dL_first_17 ?_
    obtain ⟨v4, M6, c5, h⟩ := gq_b_i h
    refine g_Si (as := [.ref (ad 109), .ref (ad 111), .int x4, .int x3]) hC (t_L_isLeft N _ _ _ _ _ c5) mS_L_isLeft wm_L_99 rfl rfl (Nat.le_of_ble_eq_true rfl) ⟨Nat.le_of_ble_eq_true rfl, Nat.le_of_ble_eq_true rfl⟩ ⟨Nat.zero_le _, Nat.zero_le _⟩ dL_first_18 ?_
    refine g_if_ne (tgt := 30) hC (by decide) dL_first_21 (fun c7 => ?_) (fun c7 => ?_)
    · replace h := gq_f c7 h
      exact g_weak [4] rfl (t_L_first_30 hC hr  x4 M6 h)
    · replace h := gq_t c7 h
      refine g_iinc (v := (x4 + 1)) (L2 := [(4, .int (x4 + 1)), (0, .ref (ad 109)), (1, .ref (ad 111)), (2, .ref (ad 119)), (3, .int x3)]) hC 4 rfl (by first | rfl | decide) (by decide) rfl dL_first_24 ?_
      refine g_goto (tgt := 3) hC (by decide) dL_first_27 ?_
      exact g_weak [1, 2, 3, 4, 0] rfl (hk3 x3 (x4 + 1) M6 h)
theorem t_L_first_3 {N : Nat} {v9 : Int32} {M9 : gq_M} (hC : gq_C p s m args meth c D A cI cZ ad mtL RL cL_first 5) (hr : meth.sig.returnType = (some .int))  : ∀ (n9 : Nat) (x3 : Int32) (x4 : Int32) (M : gq_M), f_L_first_3 N  n9 x3 x4 M = some (v9, M9) → gq_W p l e (gq_rm 2) s m args below meth c D A cI cZ ad mtL 5 (MQ below (gq_Qi D cI cZ ad mtL v9 M9 A) args s 0 0 A) 3 [(0, .ref (ad 109)), (1, .ref (ad 111)), (2, .ref (ad 119)), (3, .int x3), (4, .int x4)] [] M 0 0 := by
  intro n9
  induction n9 with
  | zero => intro x3 x4 M h; cases h
  | succ n9 ih => intro x3 x4 M h; exact t_L_first_3_b hC hr  ih x3 x4 M h
def f_L_first (N : Nat) (a3 : Int32) (M : gq_M) : Option (Int32 × gq_M) :=
  f_L_first_3 N  N a3 0 M
set_option maxHeartbeats 1000000 in
set_option maxRecDepth 20000 in
theorem t_L_first {l : Launch} {D : va_G} {cI cZ : ClassId} {ad : Nat → Nat} (N : Nat) (a3 : Int32) (M : gq_M) (v9 : Int32) (M9 : gq_M) (h : f_L_first N a3 M = some (v9, M9)) : gq_Ci l D cI cZ ad mtL yL_first cL_first 5 (some .int) 2 [.ref (ad 109), .ref (ad 111), .ref (ad 119), .int a3] M v9 M9 := by
  refine gq_introI (own := RL) (by decide) rfl (Nat.le_of_ble_eq_true rfl) ?_
  intro p e s m below meth c hC hr
  refine g_cast (L2 := [(0, .ref (ad 109)), (1, .ref (ad 111)), (2, .ref (ad 119)), (3, .int a3)]) ?_ rfl rfl rfl rfl
  unfold f_L_first at h
  refine g_iconst (v := 0) hC (by decide) dL_first_0 ?_
  refine g_istore (L2 := [(4, .int 0), (0, .ref (ad 109)), (1, .ref (ad 111)), (2, .ref (ad 119)), (3, .int a3)]) hC (by decide) rfl dL_first_1 ?_
  exact g_weak [1, 2, 3, 4, 0] rfl (t_L_first_3 hC hr  N a3 0 M h)
def f_L_begins_2_b (N : Nat) (kh2 : Int32 → Int32 → gq_M → Option (Int32 × gq_M)) (x1 : Int32) (x2 : Int32) (M : gq_M) : Option (Int32 × gq_M) :=
  if 8 ≤ x2 then (some (0, M)) else (gq_g (gq_in ((8 * x1) + x2) 24) (gq_l (gq_up M 116 (((8 * x1) + x2) : Int32).toNatClampNeg (-1)) fun M3 => kh2 x1 (x2 + 1) M3))
def f_L_begins_2 (N : Nat) : Nat → Int32 → Int32 → gq_M → Option (Int32 × gq_M)
  | 0 => fun _ _ _ => none
  | n9 + 1 => f_L_begins_2_b N  (f_L_begins_2 N  n9)
set_option maxHeartbeats 1000000 in
set_option maxRecDepth 20000 in
theorem t_L_begins_2_b {N : Nat} {kh2 : Int32 → Int32 → gq_M → Option (Int32 × gq_M)} {v9 : Int32} {M9 : gq_M} (hC : gq_C p s m args meth c D A cI cZ ad mtL RL cL_begins 3) (hr : meth.sig.returnType = none)  (hk2 : ∀ (x1 : Int32) (x2 : Int32) (M : gq_M), kh2 x1 x2 M = some (v9, M9) → gq_W p l e (gq_rm 0) s m args below meth c D A cI cZ ad mtL 3 (MQ below (gq_Qv D cI cZ ad mtL M9 A) args s 0 0 A) 2 [(0, .ref (ad 116)), (1, .int x1), (2, .int x2)] [] M 0 0) : ∀ (x1 : Int32) (x2 : Int32) (M : gq_M), f_L_begins_2_b N  kh2 x1 x2 M = some (v9, M9) → gq_W p l e (gq_rm 0) s m args below meth c D A cI cZ ad mtL 3 (MQ below (gq_Qv D cI cZ ad mtL M9 A) args s 0 0 A) 2 [(0, .ref (ad 116)), (1, .int x1), (2, .int x2)] [] M 0 0 := by
  intro x1 x2 M h
  unfold f_L_begins_2_b at h
  refine g_iload_n hC 2 rfl rfl dL_begins_2 ?_
  refine g_bipush (v := 8) hC (by decide) dL_begins_3 ?_
  refine g_icmp_ge (tgt := 23) hC (by decide) dL_begins_5 (fun c1 => ?_) (fun c1 => ?_)
  · replace h := gq_t c1 h
    exact g_vrets hC hr h dL_begins_23
  · replace h := gq_f c1 h
    refine g_aload_n hC 0 rfl rfl dL_begins_8 ?_
    refine g_bipush (v := 8) hC (by decide) dL_begins_9 ?_
    refine g_iload_n hC 1 rfl rfl dL_begins_11 ?_
    refine g_imul hC dL_begins_12 ?_
    refine g_iload_n hC 2 rfl rfl dL_begins_13 ?_
    refine g_iadd hC dL_begins_14 ?_
    refine g_iconst (v := (-1)) hC (by decide) dL_begins_15 ?_
    obtain ⟨g2, h⟩ := gq_g_i h
    refine g_iast hC arL_116 (gq_in_i g2) dL_begins_16 ?_
    refine g_topM (fun M3 hM3 => ?_)
    replace h := gq_l_i hM3 h
    refine g_iinc (v := (x2 + 1)) (L2 := [(2, .int (x2 + 1)), (0, .ref (ad 116)), (1, .int x1)]) hC 2 rfl (by first | rfl | decide) (by decide) rfl dL_begins_17 ?_
    refine g_goto (tgt := 2) hC (by decide) dL_begins_20 ?_
    exact g_weak [1, 2, 0] rfl (hk2 x1 (x2 + 1) M3 h)
theorem t_L_begins_2 {N : Nat} {v9 : Int32} {M9 : gq_M} (hC : gq_C p s m args meth c D A cI cZ ad mtL RL cL_begins 3) (hr : meth.sig.returnType = none)  : ∀ (n9 : Nat) (x1 : Int32) (x2 : Int32) (M : gq_M), f_L_begins_2 N  n9 x1 x2 M = some (v9, M9) → gq_W p l e (gq_rm 0) s m args below meth c D A cI cZ ad mtL 3 (MQ below (gq_Qv D cI cZ ad mtL M9 A) args s 0 0 A) 2 [(0, .ref (ad 116)), (1, .int x1), (2, .int x2)] [] M 0 0 := by
  intro n9
  induction n9 with
  | zero => intro x1 x2 M h; cases h
  | succ n9 ih => intro x1 x2 M h; exact t_L_begins_2_b hC hr  ih x1 x2 M h
def f_L_begins (N : Nat) (a1 : Int32) (M : gq_M) : Option (Int32 × gq_M) :=
  f_L_begins_2 N  N a1 0 M
set_option maxHeartbeats 1000000 in
set_option maxRecDepth 20000 in
theorem t_L_begins {l : Launch} {D : va_G} {cI cZ : ClassId} {ad : Nat → Nat} (N : Nat) (a1 : Int32) (M : gq_M) (v9 : Int32) (M9 : gq_M) (h : f_L_begins N a1 M = some (v9, M9)) : gq_Cv l D cI cZ ad mtL yL_begins cL_begins 3 0 [.ref (ad 116), .int a1] M M9 := by
  refine gq_introV (own := RL) (by decide) rfl (Nat.le_of_ble_eq_true rfl) ?_
  intro p e s m below meth c hC hr
  refine g_cast (L2 := [(0, .ref (ad 116)), (1, .int a1)]) ?_ rfl rfl rfl rfl
  unfold f_L_begins at h
  refine g_iconst (v := 0) hC (by decide) dL_begins_0 ?_
  refine g_istore_n (L2 := [(2, .int 0), (0, .ref (ad 116)), (1, .int a1)]) hC rfl (by decide) rfl dL_begins_1 ?_
  exact g_weak [1, 2, 0] rfl (t_L_begins_2 hC hr  N a1 0 M h)
def f_L_comes_137 (N : Nat) (x4 : Int32) (s1 : Int32) (s2 : Int32) (M : gq_M) : Option (Int32 × gq_M) :=
  gq_g (gq_in s1 24) (gq_l (gq_up M 115 s1.toNatClampNeg s2) fun M28 => gq_g (gq_in ((8 * x4) + 4) 24) (gq_l (gq_up M28 115 (((8 * x4) + 4) : Int32).toNatClampNeg (-1)) fun M30 => gq_b (f_L_begins N x4 M30) fun v31 M33 => some (0, M33)))
set_option maxHeartbeats 1000000 in
set_option maxRecDepth 20000 in
theorem t_L_comes_137 {N : Nat} {v9 : Int32} {M9 : gq_M} (hC : gq_C p s m args meth c D A cI cZ ad mtL RL cL_comes 7) (hr : meth.sig.returnType = none)   : ∀ (x4 : Int32) (s1 : Int32) (s2 : Int32) (M : gq_M), f_L_comes_137 N  x4 s1 s2 M = some (v9, M9) → gq_W p l e (gq_rm 1) s m args below meth c D A cI cZ ad mtL 7 (MQ below (gq_Qv D cI cZ ad mtL M9 A) args s 0 0 A) 137 [(1, .ref (ad 115)), (2, .ref (ad 116)), (4, .int x4)] [.int s2, .int s1, .ref (ad 115)] M 0 0 := by
  intro x4 s1 s2 M h
  unfold f_L_comes_137 at h
  obtain ⟨g27, h⟩ := gq_g_i h
  refine g_iast hC arL_115 (gq_in_i g27) dL_comes_137 ?_
  refine g_topM (fun M28 hM28 => ?_)
  replace h := gq_l_i hM28 h
  refine g_aload_n hC 0 rfl rfl dL_comes_138 ?_
  refine g_bipush (v := 8) hC (by decide) dL_comes_139 ?_
  refine g_iload hC 2 rfl dL_comes_141 ?_
  refine g_imul hC dL_comes_143 ?_
  refine g_iconst (v := 4) hC (by decide) dL_comes_144 ?_
  refine g_iadd hC dL_comes_145 ?_
  refine g_iconst (v := (-1)) hC (by decide) dL_comes_146 ?_
  obtain ⟨g29, h⟩ := gq_g_i h
  refine g_iast hC arL_115 (gq_in_i g29) dL_comes_147 ?_
  refine g_topM (fun M30 hM30 => ?_)
  replace h := gq_l_i hM30 h
  refine g_aload_n hC 1 rfl rfl dL_comes_148 ?_
  refine g_iload hC 2 rfl dL_comes_149 ?_
  obtain ⟨v31, M33, c32, h⟩ := gq_b_i h
  refine g_Sv (as := [.ref (ad 116), .int x4]) hC (t_L_begins N _ _ _ _ c32) mS_L_begins wm_L_103 rfl rfl (Nat.le_of_ble_eq_true rfl) ⟨Nat.le_of_ble_eq_true rfl, Nat.le_of_ble_eq_true rfl⟩ ⟨Nat.zero_le _, Nat.zero_le _⟩ dL_comes_151 ?_
  exact g_vrets hC hr h dL_comes_154
def f_L_comes_125 (N : Nat) (x4 : Int32) (s1 : Int32) (s3 : Int32) (s5 : Int32) (M : gq_M) : Option (Int32 × gq_M) :=
  gq_g (gq_in s5 40) (gq_l (M 114 s5.toNatClampNeg) fun v24 => gq_g (gq_in (s3 + ((v24 / 8) - (v24 / 8) / 4 * 4)) 56) (gq_l (M 119 ((s3 + ((v24 / 8) - (v24 / 8) / 4 * 4)) : Int32).toNatClampNeg) fun v26 => f_L_comes_137 N  x4 s1 v26 M))
set_option maxHeartbeats 1000000 in
set_option maxRecDepth 20000 in
theorem t_L_comes_125 {N : Nat} {v9 : Int32} {M9 : gq_M} (hC : gq_C p s m args meth c D A cI cZ ad mtL RL cL_comes 7) (hr : meth.sig.returnType = none)   : ∀ (x4 : Int32) (s1 : Int32) (s3 : Int32) (s5 : Int32) (M : gq_M), f_L_comes_125 N  x4 s1 s3 s5 M = some (v9, M9) → gq_W p l e (gq_rm 1) s m args below meth c D A cI cZ ad mtL 7 (MQ below (gq_Qv D cI cZ ad mtL M9 A) args s 0 0 A) 125 [(1, .ref (ad 115)), (2, .ref (ad 116)), (4, .int x4)] [.int s5, .ref (ad 114), .int s3, .ref (ad 119), .int s1, .ref (ad 115)] M 0 0 := by
  intro x4 s1 s3 s5 M h
  unfold f_L_comes_125 at h
  obtain ⟨g23, h⟩ := gq_g_i h
  refine g_iald hC arL_114 (gq_in_i g23) dL_comes_125 ?_
  refine g_topi (fun v24 hv24 => ?_)
  replace h := gq_l_i hv24 h
  refine g_bipush (v := 8) hC (by decide) dL_comes_126 ?_
  refine g_idiv hC (by decide) dL_comes_128 ?_
  refine g_iconst (v := 4) hC (by decide) dL_comes_129 ?_
  refine g_irem hC (by decide) dL_comes_130 ?_
  refine g_iadd hC dL_comes_131 ?_
  obtain ⟨g25, h⟩ := gq_g_i h
  refine g_iald hC arL_119 (gq_in_i g25) dL_comes_132 ?_
  refine g_topi (fun v26 hv26 => ?_)
  replace h := gq_l_i hv26 h
  refine g_goto (tgt := 137) hC (by decide) dL_comes_133 ?_
  exact g_weak [0, 1, 2] rfl (t_L_comes_137 hC hr  x4 s1 v26 M h)
def f_L_comes_93 (N : Nat) (x4 : Int32) (x5 : Int32) (x6 : Int32) (s1 : Int32) (s2 : Int32) (M : gq_M) : Option (Int32 × gq_M) :=
  gq_g (gq_in s1 24) (gq_l (gq_up M 115 s1.toNatClampNeg s2) fun M18 => if x6 = 0 then (f_L_comes_137 N  x4 ((8 * x4) + 2) 0 M18) else (gq_g (gq_in 5 56) (gq_l (M18 119 (5 : Int32).toNatClampNeg) fun v21 => if v21 ≤ x5 then (f_L_comes_125 N  x4 ((8 * x4) + 2) 8 0 M18) else (f_L_comes_125 N  x4 ((8 * x4) + 2) 8 x5 M18))))
set_option maxHeartbeats 1000000 in
set_option maxRecDepth 20000 in
theorem t_L_comes_93 {N : Nat} {v9 : Int32} {M9 : gq_M} (hC : gq_C p s m args meth c D A cI cZ ad mtL RL cL_comes 7) (hr : meth.sig.returnType = none)   : ∀ (x4 : Int32) (x5 : Int32) (x6 : Int32) (s1 : Int32) (s2 : Int32) (M : gq_M), f_L_comes_93 N  x4 x5 x6 s1 s2 M = some (v9, M9) → gq_W p l e (gq_rm 1) s m args below meth c D A cI cZ ad mtL 7 (MQ below (gq_Qv D cI cZ ad mtL M9 A) args s 0 0 A) 93 [(0, .ref (ad 114)), (1, .ref (ad 115)), (2, .ref (ad 116)), (3, .ref (ad 119)), (4, .int x4), (5, .int x5), (6, .int x6)] [.int s2, .int s1, .ref (ad 115)] M 0 0 := by
  intro x4 x5 x6 s1 s2 M h
  unfold f_L_comes_93 at h
  obtain ⟨g17, h⟩ := gq_g_i h
  refine g_iast hC arL_115 (gq_in_i g17) dL_comes_93 ?_
  refine g_topM (fun M18 hM18 => ?_)
  replace h := gq_l_i hM18 h
  refine g_aload_n hC 1 rfl rfl dL_comes_94 ?_
  refine g_bipush (v := 8) hC (by decide) dL_comes_95 ?_
  refine g_iload hC 4 rfl dL_comes_97 ?_
  refine g_imul hC dL_comes_99 ?_
  refine g_iconst (v := 2) hC (by decide) dL_comes_100 ?_
  refine g_iadd hC dL_comes_101 ?_
  refine g_iload hC 6 rfl dL_comes_102 ?_
  refine g_if_eq (tgt := 136) hC (by decide) dL_comes_104 (fun c19 => ?_) (fun c19 => ?_)
  · replace h := gq_t c19 h
    refine g_iconst (v := 0) hC (by decide) dL_comes_136 ?_
    exact g_weak [1, 2, 4] rfl (t_L_comes_137 hC hr  x4 ((8 * x4) + 2) 0 M18 h)
  · replace h := gq_f c19 h
    refine g_aload_n hC 3 rfl rfl dL_comes_107 ?_
    refine g_bipush (v := 8) hC (by decide) dL_comes_108 ?_
    refine g_aload_n hC 0 rfl rfl dL_comes_110 ?_
    refine g_iload hC 5 rfl dL_comes_111 ?_
    refine g_aload_n hC 3 rfl rfl dL_comes_113 ?_
    refine g_iconst (v := 5) hC (by decide) dL_comes_114 ?_
    obtain ⟨g20, h⟩ := gq_g_i h
    refine g_iald hC arL_119 (gq_in_i g20) dL_comes_115 ?_
    refine g_topi (fun v21 hv21 => ?_)
    replace h := gq_l_i hv21 h
    refine g_icmp_ge (tgt := 124) hC (by decide) dL_comes_116 (fun c22 => ?_) (fun c22 => ?_)
    · replace h := gq_t c22 h
      refine g_iconst (v := 0) hC (by decide) dL_comes_124 ?_
      exact g_weak [1, 2, 4] rfl (t_L_comes_125 hC hr  x4 ((8 * x4) + 2) 8 0 M18 h)
    · replace h := gq_f c22 h
      refine g_iload hC 5 rfl dL_comes_119 ?_
      refine g_goto (tgt := 125) hC (by decide) dL_comes_121 ?_
      exact g_weak [1, 2, 4] rfl (t_L_comes_125 hC hr  x4 ((8 * x4) + 2) 8 x5 M18 h)
def f_L_comes_73 (N : Nat) (x4 : Int32) (x5 : Int32) (x6 : Int32) (s1 : Int32) (s2 : Int32) (M : gq_M) : Option (Int32 × gq_M) :=
  gq_g (gq_in s1 24) (gq_l (gq_up M 115 s1.toNatClampNeg s2) fun M15 => if x6 = 0 then (f_L_comes_93 N  x4 x5 x6 ((8 * x4) + 1) (-1) M15) else (f_L_comes_93 N  x4 x5 x6 ((8 * x4) + 1) x5 M15))
set_option maxHeartbeats 1000000 in
set_option maxRecDepth 20000 in
theorem t_L_comes_73 {N : Nat} {v9 : Int32} {M9 : gq_M} (hC : gq_C p s m args meth c D A cI cZ ad mtL RL cL_comes 7) (hr : meth.sig.returnType = none)   : ∀ (x4 : Int32) (x5 : Int32) (x6 : Int32) (s1 : Int32) (s2 : Int32) (M : gq_M), f_L_comes_73 N  x4 x5 x6 s1 s2 M = some (v9, M9) → gq_W p l e (gq_rm 1) s m args below meth c D A cI cZ ad mtL 7 (MQ below (gq_Qv D cI cZ ad mtL M9 A) args s 0 0 A) 73 [(0, .ref (ad 114)), (1, .ref (ad 115)), (2, .ref (ad 116)), (3, .ref (ad 119)), (4, .int x4), (5, .int x5), (6, .int x6)] [.int s2, .int s1, .ref (ad 115)] M 0 0 := by
  intro x4 x5 x6 s1 s2 M h
  unfold f_L_comes_73 at h
  obtain ⟨g14, h⟩ := gq_g_i h
  refine g_iast hC arL_115 (gq_in_i g14) dL_comes_73 ?_
  refine g_topM (fun M15 hM15 => ?_)
  replace h := gq_l_i hM15 h
  refine g_aload_n hC 1 rfl rfl dL_comes_74 ?_
  refine g_bipush (v := 8) hC (by decide) dL_comes_75 ?_
  refine g_iload hC 4 rfl dL_comes_77 ?_
  refine g_imul hC dL_comes_79 ?_
  refine g_iconst (v := 1) hC (by decide) dL_comes_80 ?_
  refine g_iadd hC dL_comes_81 ?_
  refine g_iload hC 6 rfl dL_comes_82 ?_
  refine g_if_eq (tgt := 92) hC (by decide) dL_comes_84 (fun c16 => ?_) (fun c16 => ?_)
  · replace h := gq_t c16 h
    refine g_iconst (v := (-1)) hC (by decide) dL_comes_92 ?_
    exact g_weak [0, 1, 2, 3, 4, 5, 6] rfl (t_L_comes_93 hC hr  x4 x5 x6 ((8 * x4) + 1) (-1) M15 h)
  · replace h := gq_f c16 h
    refine g_iload hC 5 rfl dL_comes_87 ?_
    refine g_goto (tgt := 93) hC (by decide) dL_comes_89 ?_
    exact g_weak [0, 1, 2, 3, 4, 5, 6] rfl (t_L_comes_93 hC hr  x4 x5 x6 ((8 * x4) + 1) x5 M15 h)
def f_L_comes_55 (N : Nat) (x4 : Int32) (x5 : Int32) (s0 : Int32) (M : gq_M) : Option (Int32 × gq_M) :=
  if s0 = 0 then (f_L_comes_73 N  x4 x5 s0 (8 * x4) 0 M) else (f_L_comes_73 N  x4 x5 s0 (8 * x4) 1 M)
set_option maxHeartbeats 1000000 in
set_option maxRecDepth 20000 in
theorem t_L_comes_55 {N : Nat} {v9 : Int32} {M9 : gq_M} (hC : gq_C p s m args meth c D A cI cZ ad mtL RL cL_comes 7) (hr : meth.sig.returnType = none)   : ∀ (x4 : Int32) (x5 : Int32) (s0 : Int32) (M : gq_M), f_L_comes_55 N  x4 x5 s0 M = some (v9, M9) → gq_W p l e (gq_rm 1) s m args below meth c D A cI cZ ad mtL 7 (MQ below (gq_Qv D cI cZ ad mtL M9 A) args s 0 0 A) 55 [(0, .ref (ad 114)), (1, .ref (ad 115)), (2, .ref (ad 116)), (3, .ref (ad 119)), (4, .int x4), (5, .int x5)] [.int s0] M 0 0 := by
  intro x4 x5 s0 M h
  unfold f_L_comes_55 at h
  refine g_istore (L2 := [(6, .int s0), (0, .ref (ad 114)), (1, .ref (ad 115)), (2, .ref (ad 116)), (3, .ref (ad 119)), (4, .int x4), (5, .int x5)]) hC (by decide) rfl dL_comes_55 ?_
  refine g_aload_n hC 2 rfl rfl dL_comes_57 ?_
  refine g_bipush (v := 8) hC (by decide) dL_comes_58 ?_
  refine g_iload hC 5 rfl dL_comes_60 ?_
  refine g_imul hC dL_comes_62 ?_
  refine g_iload hC 0 rfl dL_comes_63 ?_
  refine g_if_eq (tgt := 72) hC (by decide) dL_comes_65 (fun c13 => ?_) (fun c13 => ?_)
  · replace h := gq_t c13 h
    refine g_iconst (v := 0) hC (by decide) dL_comes_72 ?_
    exact g_weak [1, 2, 3, 4, 5, 6, 0] rfl (t_L_comes_73 hC hr  x4 x5 s0 (8 * x4) 0 M h)
  · replace h := gq_f c13 h
    refine g_iconst (v := 1) hC (by decide) dL_comes_68 ?_
    refine g_goto (tgt := 73) hC (by decide) dL_comes_69 ?_
    exact g_weak [1, 2, 3, 4, 5, 6, 0] rfl (t_L_comes_73 hC hr  x4 x5 s0 (8 * x4) 1 M h)
def f_L_comes_42 (N : Nat) (x4 : Int32) (x5 : Int32) (M : gq_M) : Option (Int32 × gq_M) :=
  gq_g (gq_in 5 56) (gq_l (M 119 (5 : Int32).toNatClampNeg) fun v11 => if v11 ≤ x5 then (f_L_comes_55 N  x4 x5 0 M) else (f_L_comes_55 N  x4 x5 1 M))
set_option maxHeartbeats 1000000 in
set_option maxRecDepth 20000 in
theorem t_L_comes_42 {N : Nat} {v9 : Int32} {M9 : gq_M} (hC : gq_C p s m args meth c D A cI cZ ad mtL RL cL_comes 7) (hr : meth.sig.returnType = none)   : ∀ (x4 : Int32) (x5 : Int32) (M : gq_M), f_L_comes_42 N  x4 x5 M = some (v9, M9) → gq_W p l e (gq_rm 1) s m args below meth c D A cI cZ ad mtL 7 (MQ below (gq_Qv D cI cZ ad mtL M9 A) args s 0 0 A) 42 [(0, .ref (ad 114)), (1, .ref (ad 115)), (2, .ref (ad 116)), (3, .ref (ad 119)), (4, .int x4), (5, .int x5)] [] M 0 0 := by
  intro x4 x5 M h
  unfold f_L_comes_42 at h
  refine g_iload hC 5 rfl dL_comes_42 ?_
  refine g_aload_n hC 3 rfl rfl dL_comes_44 ?_
  refine g_iconst (v := 5) hC (by decide) dL_comes_45 ?_
  obtain ⟨g10, h⟩ := gq_g_i h
  refine g_iald hC arL_119 (gq_in_i g10) dL_comes_46 ?_
  refine g_topi (fun v11 hv11 => ?_)
  replace h := gq_l_i hv11 h
  refine g_icmp_ge (tgt := 54) hC (by decide) dL_comes_47 (fun c12 => ?_) (fun c12 => ?_)
  · replace h := gq_t c12 h
    refine g_iconst (v := 0) hC (by decide) dL_comes_54 ?_
    exact g_weak [0, 1, 2, 3, 4, 5] rfl (t_L_comes_55 hC hr  x4 x5 0 M h)
  · replace h := gq_f c12 h
    refine g_iconst (v := 1) hC (by decide) dL_comes_50 ?_
    refine g_goto (tgt := 55) hC (by decide) dL_comes_51 ?_
    exact g_weak [0, 1, 2, 3, 4, 5] rfl (t_L_comes_55 hC hr  x4 x5 1 M h)
def f_L_comes_36 (N : Nat) (kh3 : Int32 → Int32 → gq_M → Option (Int32 × gq_M)) (x4 : Int32) (x5 : Int32) (M : gq_M) : Option (Int32 × gq_M) :=
  kh3 x4 (x5 + 1) M
set_option maxHeartbeats 1000000 in
set_option maxRecDepth 20000 in
theorem t_L_comes_36 {N : Nat} {kh3 : Int32 → Int32 → gq_M → Option (Int32 × gq_M)} {v9 : Int32} {M9 : gq_M} (hC : gq_C p s m args meth c D A cI cZ ad mtL RL cL_comes 7) (hr : meth.sig.returnType = none) (hk3 : ∀ (x4 : Int32) (x5 : Int32) (M : gq_M), kh3 x4 x5 M = some (v9, M9) → gq_W p l e (gq_rm 1) s m args below meth c D A cI cZ ad mtL 7 (MQ below (gq_Qv D cI cZ ad mtL M9 A) args s 0 0 A) 3 [(0, .ref (ad 114)), (1, .ref (ad 115)), (2, .ref (ad 116)), (3, .ref (ad 119)), (4, .int x4), (5, .int x5)] [] M 0 0)  : ∀ (x4 : Int32) (x5 : Int32) (M : gq_M), f_L_comes_36 N kh3 x4 x5 M = some (v9, M9) → gq_W p l e (gq_rm 1) s m args below meth c D A cI cZ ad mtL 7 (MQ below (gq_Qv D cI cZ ad mtL M9 A) args s 0 0 A) 36 [(0, .ref (ad 114)), (1, .ref (ad 115)), (2, .ref (ad 116)), (3, .ref (ad 119)), (4, .int x4), (5, .int x5)] [] M 0 0 := by
  intro x4 x5 M h
  unfold f_L_comes_36 at h
  refine g_iinc (v := (x5 + 1)) (L2 := [(5, .int (x5 + 1)), (0, .ref (ad 114)), (1, .ref (ad 115)), (2, .ref (ad 116)), (3, .ref (ad 119)), (4, .int x4)]) hC 5 rfl (by first | rfl | decide) (by decide) rfl dL_comes_36 ?_
  refine g_goto (tgt := 3) hC (by decide) dL_comes_39 ?_
  exact g_weak [1, 2, 3, 4, 5, 0] rfl (hk3 x4 (x5 + 1) M h)
def f_L_comes_3_b (N : Nat) (kh3 : Int32 → Int32 → gq_M → Option (Int32 × gq_M)) (x4 : Int32) (x5 : Int32) (M : gq_M) : Option (Int32 × gq_M) :=
  gq_g (gq_in 5 56) (gq_l (M 119 (5 : Int32).toNatClampNeg) fun v2 => if v2 ≤ x5 then (f_L_comes_42 N  x4 x5 M) else (gq_g (gq_in x5 40) (gq_l (M 114 x5.toNatClampNeg) fun v5 => if ((v5 / 2048) - (v5 / 2048) / 4 * 4) = x4 then (gq_g (gq_in x5 40) (gq_l (M 114 x5.toNatClampNeg) fun v8 => if v8 ≤ 8191 then (f_L_comes_42 N  x4 x5 M) else (f_L_comes_36 N kh3 x4 x5 M))) else (f_L_comes_36 N kh3 x4 x5 M))))
def f_L_comes_3 (N : Nat) : Nat → Int32 → Int32 → gq_M → Option (Int32 × gq_M)
  | 0 => fun _ _ _ => none
  | n9 + 1 => f_L_comes_3_b N  (f_L_comes_3 N  n9)
set_option maxHeartbeats 1000000 in
set_option maxRecDepth 20000 in
theorem t_L_comes_3_b {N : Nat} {kh3 : Int32 → Int32 → gq_M → Option (Int32 × gq_M)} {v9 : Int32} {M9 : gq_M} (hC : gq_C p s m args meth c D A cI cZ ad mtL RL cL_comes 7) (hr : meth.sig.returnType = none)  (hk3 : ∀ (x4 : Int32) (x5 : Int32) (M : gq_M), kh3 x4 x5 M = some (v9, M9) → gq_W p l e (gq_rm 1) s m args below meth c D A cI cZ ad mtL 7 (MQ below (gq_Qv D cI cZ ad mtL M9 A) args s 0 0 A) 3 [(0, .ref (ad 114)), (1, .ref (ad 115)), (2, .ref (ad 116)), (3, .ref (ad 119)), (4, .int x4), (5, .int x5)] [] M 0 0) : ∀ (x4 : Int32) (x5 : Int32) (M : gq_M), f_L_comes_3_b N  kh3 x4 x5 M = some (v9, M9) → gq_W p l e (gq_rm 1) s m args below meth c D A cI cZ ad mtL 7 (MQ below (gq_Qv D cI cZ ad mtL M9 A) args s 0 0 A) 3 [(0, .ref (ad 114)), (1, .ref (ad 115)), (2, .ref (ad 116)), (3, .ref (ad 119)), (4, .int x4), (5, .int x5)] [] M 0 0 := by
  intro x4 x5 M h
  unfold f_L_comes_3_b at h
  refine g_iload hC 5 rfl dL_comes_3 ?_
  refine g_aload_n hC 3 rfl rfl dL_comes_5 ?_
  refine g_iconst (v := 5) hC (by decide) dL_comes_6 ?_
  obtain ⟨g1, h⟩ := gq_g_i h
  refine g_iald hC arL_119 (gq_in_i g1) dL_comes_7 ?_
  refine g_topi (fun v2 hv2 => ?_)
  replace h := gq_l_i hv2 h
  refine g_icmp_ge (tgt := 42) hC (by decide) dL_comes_8 (fun c3 => ?_) (fun c3 => ?_)
  · replace h := gq_t c3 h
    exact g_weak [0, 1, 2, 3, 4, 5] rfl (t_L_comes_42 hC hr  x4 x5 M h)
  · replace h := gq_f c3 h
    refine g_aload_n hC 0 rfl rfl dL_comes_11 ?_
    refine g_iload hC 5 rfl dL_comes_12 ?_
    obtain ⟨g4, h⟩ := gq_g_i h
    refine g_iald hC arL_114 (gq_in_i g4) dL_comes_14 ?_
    refine g_topi (fun v5 hv5 => ?_)
    replace h := gq_l_i hv5 h
    refine g_sipush (v := 2048) hC (by decide) dL_comes_15 ?_
    refine g_idiv hC (by decide) dL_comes_18 ?_
    refine g_iconst (v := 4) hC (by decide) dL_comes_19 ?_
    refine g_irem hC (by decide) dL_comes_20 ?_
    refine g_iload hC 4 rfl dL_comes_21 ?_
    refine g_icmp_ne (tgt := 36) hC (by decide) dL_comes_23 (fun c6 => ?_) (fun c6 => ?_)
    · replace h := gq_f c6 h
      exact g_weak [0, 1, 2, 3, 4, 5] rfl (t_L_comes_36 hC hr hk3 x4 x5 M h)
    · replace h := gq_t c6 h
      refine g_aload_n hC 0 rfl rfl dL_comes_26 ?_
      refine g_iload hC 5 rfl dL_comes_27 ?_
      obtain ⟨g7, h⟩ := gq_g_i h
      refine g_iald hC arL_114 (gq_in_i g7) dL_comes_29 ?_
      refine g_topi (fun v8 hv8 => ?_)
      replace h := gq_l_i hv8 h
      refine g_sipush (v := 8191) hC (by decide) dL_comes_30 ?_
      refine g_icmp_le (tgt := 42) hC (by decide) dL_comes_33 (fun c9 => ?_) (fun c9 => ?_)
      · replace h := gq_t c9 h
        exact g_weak [0, 1, 2, 3, 4, 5] rfl (t_L_comes_42 hC hr  x4 x5 M h)
      · replace h := gq_f c9 h
        exact g_weak [0, 1, 2, 3, 4, 5] rfl (t_L_comes_36 hC hr hk3 x4 x5 M h)
theorem t_L_comes_3 {N : Nat} {v9 : Int32} {M9 : gq_M} (hC : gq_C p s m args meth c D A cI cZ ad mtL RL cL_comes 7) (hr : meth.sig.returnType = none)  : ∀ (n9 : Nat) (x4 : Int32) (x5 : Int32) (M : gq_M), f_L_comes_3 N  n9 x4 x5 M = some (v9, M9) → gq_W p l e (gq_rm 1) s m args below meth c D A cI cZ ad mtL 7 (MQ below (gq_Qv D cI cZ ad mtL M9 A) args s 0 0 A) 3 [(0, .ref (ad 114)), (1, .ref (ad 115)), (2, .ref (ad 116)), (3, .ref (ad 119)), (4, .int x4), (5, .int x5)] [] M 0 0 := by
  intro n9
  induction n9 with
  | zero => intro x4 x5 M h; cases h
  | succ n9 ih => intro x4 x5 M h; exact t_L_comes_3_b hC hr  ih x4 x5 M h
def f_L_comes (N : Nat) (a4 : Int32) (M : gq_M) : Option (Int32 × gq_M) :=
  f_L_comes_3 N  N a4 0 M
set_option maxHeartbeats 1000000 in
set_option maxRecDepth 20000 in
theorem t_L_comes {l : Launch} {D : va_G} {cI cZ : ClassId} {ad : Nat → Nat} (N : Nat) (a4 : Int32) (M : gq_M) (v9 : Int32) (M9 : gq_M) (h : f_L_comes N a4 M = some (v9, M9)) : gq_Cv l D cI cZ ad mtL yL_comes cL_comes 7 1 [.ref (ad 114), .ref (ad 115), .ref (ad 116), .ref (ad 119), .int a4] M M9 := by
  refine gq_introV (own := RL) (by decide) rfl (Nat.le_of_ble_eq_true rfl) ?_
  intro p e s m below meth c hC hr
  refine g_cast (L2 := [(0, .ref (ad 114)), (1, .ref (ad 115)), (2, .ref (ad 116)), (3, .ref (ad 119)), (4, .int a4)]) ?_ rfl rfl rfl rfl
  unfold f_L_comes at h
  refine g_iconst (v := 0) hC (by decide) dL_comes_0 ?_
  refine g_istore (L2 := [(5, .int 0), (0, .ref (ad 114)), (1, .ref (ad 115)), (2, .ref (ad 116)), (3, .ref (ad 119)), (4, .int a4)]) hC (by decide) rfl dL_comes_1 ?_
  exact g_weak [1, 2, 3, 4, 5, 0] rfl (t_L_comes_3 hC hr  N a4 0 M h)
def f_L_withdraws_195 (N : Nat) (kh6 : Int32 → Int32 → Int32 → gq_M → Option (Int32 × gq_M)) (x5 : Int32) (x6 : Int32) (x7 : Int32) (M : gq_M) : Option (Int32 × gq_M) :=
  kh6 x5 x6 (x7 + 1) M
set_option maxHeartbeats 1000000 in
set_option maxRecDepth 20000 in
theorem t_L_withdraws_195 {N : Nat} {kh6 : Int32 → Int32 → Int32 → gq_M → Option (Int32 × gq_M)} {v9 : Int32} {M9 : gq_M} (hC : gq_C p s m args meth c D A cI cZ ad mtL RL cL_withdraws 12) (hr : meth.sig.returnType = (some .int)) (hk6 : ∀ (x5 : Int32) (x6 : Int32) (x7 : Int32) (M : gq_M), kh6 x5 x6 x7 M = some (v9, M9) → gq_W p l e (gq_rm 2) s m args below meth c D A cI cZ ad mtL 12 (MQ below (gq_Qi D cI cZ ad mtL v9 M9 A) args s 0 0 A) 6 [(0, .ref (ad 109)), (1, .ref (ad 110)), (2, .ref (ad 111)), (3, .ref (ad 119)), (4, .ref (ad 121)), (5, .int x5), (6, .int x6), (7, .int x7)] [] M 0 0)  : ∀ (x5 : Int32) (x6 : Int32) (x7 : Int32) (M : gq_M), f_L_withdraws_195 N kh6 x5 x6 x7 M = some (v9, M9) → gq_W p l e (gq_rm 2) s m args below meth c D A cI cZ ad mtL 12 (MQ below (gq_Qi D cI cZ ad mtL v9 M9 A) args s 0 0 A) 195 [(0, .ref (ad 109)), (1, .ref (ad 110)), (2, .ref (ad 111)), (3, .ref (ad 119)), (4, .ref (ad 121)), (5, .int x5), (6, .int x6), (7, .int x7)] [] M 0 0 := by
  intro x5 x6 x7 M h
  unfold f_L_withdraws_195 at h
  refine g_iinc (v := (x7 + 1)) (L2 := [(7, .int (x7 + 1)), (0, .ref (ad 109)), (1, .ref (ad 110)), (2, .ref (ad 111)), (3, .ref (ad 119)), (4, .ref (ad 121)), (5, .int x5), (6, .int x6)]) hC 7 rfl (by first | rfl | decide) (by decide) rfl dL_withdraws_195 ?_
  refine g_goto (tgt := 6) hC (by decide) dL_withdraws_198 ?_
  exact g_weak [1, 2, 3, 4, 5, 6, 7, 0] rfl (hk6 x5 x6 (x7 + 1) M h)
def f_L_withdraws_190 (N : Nat) (kh6 : Int32 → Int32 → Int32 → gq_M → Option (Int32 × gq_M)) (x5 : Int32) (x6 : Int32) (x7 : Int32) (s1 : Int32) (s2 : Int32) (s3 : Int32) (M : gq_M) : Option (Int32 × gq_M) :=
  gq_g (gq_in s1 40) (gq_l (gq_up M 109 s1.toNatClampNeg (s2 + s3)) fun M41 => f_L_withdraws_195 N kh6 x5 (x6 + 1) x7 M41)
set_option maxHeartbeats 1000000 in
set_option maxRecDepth 20000 in
theorem t_L_withdraws_190 {N : Nat} {kh6 : Int32 → Int32 → Int32 → gq_M → Option (Int32 × gq_M)} {v9 : Int32} {M9 : gq_M} (hC : gq_C p s m args meth c D A cI cZ ad mtL RL cL_withdraws 12) (hr : meth.sig.returnType = (some .int)) (hk6 : ∀ (x5 : Int32) (x6 : Int32) (x7 : Int32) (M : gq_M), kh6 x5 x6 x7 M = some (v9, M9) → gq_W p l e (gq_rm 2) s m args below meth c D A cI cZ ad mtL 12 (MQ below (gq_Qi D cI cZ ad mtL v9 M9 A) args s 0 0 A) 6 [(0, .ref (ad 109)), (1, .ref (ad 110)), (2, .ref (ad 111)), (3, .ref (ad 119)), (4, .ref (ad 121)), (5, .int x5), (6, .int x6), (7, .int x7)] [] M 0 0)  : ∀ (x5 : Int32) (x6 : Int32) (x7 : Int32) (s1 : Int32) (s2 : Int32) (s3 : Int32) (M : gq_M), f_L_withdraws_190 N kh6 x5 x6 x7 s1 s2 s3 M = some (v9, M9) → gq_W p l e (gq_rm 2) s m args below meth c D A cI cZ ad mtL 12 (MQ below (gq_Qi D cI cZ ad mtL v9 M9 A) args s 0 0 A) 190 [(0, .ref (ad 109)), (1, .ref (ad 110)), (2, .ref (ad 111)), (3, .ref (ad 119)), (4, .ref (ad 121)), (5, .int x5), (6, .int x6), (7, .int x7)] [.int s3, .int s2, .int s1, .ref (ad 109)] M 0 0 := by
  intro x5 x6 x7 s1 s2 s3 M h
  unfold f_L_withdraws_190 at h
  refine g_iadd hC dL_withdraws_190 ?_
  obtain ⟨g40, h⟩ := gq_g_i h
  refine g_iast hC arL_109 (gq_in_i g40) dL_withdraws_191 ?_
  refine g_topM (fun M41 hM41 => ?_)
  replace h := gq_l_i hM41 h
  refine g_iinc (v := (x6 + 1)) (L2 := [(6, .int (x6 + 1)), (0, .ref (ad 109)), (1, .ref (ad 110)), (2, .ref (ad 111)), (3, .ref (ad 119)), (4, .ref (ad 121)), (5, .int x5), (7, .int x7)]) hC 6 rfl (by first | rfl | decide) (by decide) rfl dL_withdraws_192 ?_
  exact g_weak [1, 2, 3, 4, 5, 6, 0, 7] rfl (t_L_withdraws_195 hC hr hk6 x5 (x6 + 1) x7 M41 h)
def f_L_withdraws_170 (N : Nat) (kh6 : Int32 → Int32 → Int32 → gq_M → Option (Int32 × gq_M)) (x5 : Int32) (x6 : Int32) (x7 : Int32) (x11 : Int32) (s1 : Int32) (s2 : Int32) (M : gq_M) : Option (Int32 × gq_M) :=
  gq_b (f_L_becomes N s1 s2 M) fun v34 M36 => gq_g (gq_in x7 40) (gq_l (M36 109 x7.toNatClampNeg) fun v38 => if x11 = 0 then (f_L_withdraws_190 N kh6 x5 x6 x7 x7 v38 0 M36) else (f_L_withdraws_190 N kh6 x5 x6 x7 x7 v38 16256 M36))
set_option maxHeartbeats 1000000 in
set_option maxRecDepth 20000 in
theorem t_L_withdraws_170 {N : Nat} {kh6 : Int32 → Int32 → Int32 → gq_M → Option (Int32 × gq_M)} {v9 : Int32} {M9 : gq_M} (hC : gq_C p s m args meth c D A cI cZ ad mtL RL cL_withdraws 12) (hr : meth.sig.returnType = (some .int)) (hk6 : ∀ (x5 : Int32) (x6 : Int32) (x7 : Int32) (M : gq_M), kh6 x5 x6 x7 M = some (v9, M9) → gq_W p l e (gq_rm 2) s m args below meth c D A cI cZ ad mtL 12 (MQ below (gq_Qi D cI cZ ad mtL v9 M9 A) args s 0 0 A) 6 [(0, .ref (ad 109)), (1, .ref (ad 110)), (2, .ref (ad 111)), (3, .ref (ad 119)), (4, .ref (ad 121)), (5, .int x5), (6, .int x6), (7, .int x7)] [] M 0 0)  : ∀ (x5 : Int32) (x6 : Int32) (x7 : Int32) (x11 : Int32) (s1 : Int32) (s2 : Int32) (M : gq_M), f_L_withdraws_170 N kh6 x5 x6 x7 x11 s1 s2 M = some (v9, M9) → gq_W p l e (gq_rm 2) s m args below meth c D A cI cZ ad mtL 12 (MQ below (gq_Qi D cI cZ ad mtL v9 M9 A) args s 0 0 A) 170 [(0, .ref (ad 109)), (1, .ref (ad 110)), (2, .ref (ad 111)), (3, .ref (ad 119)), (4, .ref (ad 121)), (5, .int x5), (6, .int x6), (7, .int x7), (11, .int x11)] [.int s2, .int s1, .ref (ad 109)] M 0 0 := by
  intro x5 x6 x7 x11 s1 s2 M h
  unfold f_L_withdraws_170 at h
  obtain ⟨v34, M36, c35, h⟩ := gq_b_i h
  refine g_Sv (as := [.ref (ad 109), .int s1, .int s2]) hC (t_L_becomes N _ _ _ _ _ c35) mS_L_becomes wm_L_107 rfl rfl (Nat.le_of_ble_eq_true rfl) ⟨Nat.le_of_ble_eq_true rfl, Nat.le_of_ble_eq_true rfl⟩ ⟨Nat.zero_le _, Nat.zero_le _⟩ dL_withdraws_170 ?_
  refine g_aload_n hC 0 rfl rfl dL_withdraws_173 ?_
  refine g_iload hC 7 rfl dL_withdraws_174 ?_
  refine g_dup2 hC rfl rfl dL_withdraws_176 ?_
  obtain ⟨g37, h⟩ := gq_g_i h
  refine g_iald hC arL_109 (gq_in_i g37) dL_withdraws_177 ?_
  refine g_topi (fun v38 hv38 => ?_)
  replace h := gq_l_i hv38 h
  refine g_iload hC 8 rfl dL_withdraws_178 ?_
  refine g_if_eq (tgt := 189) hC (by decide) dL_withdraws_180 (fun c39 => ?_) (fun c39 => ?_)
  · replace h := gq_t c39 h
    refine g_iconst (v := 0) hC (by decide) dL_withdraws_189 ?_
    exact g_weak [0, 1, 2, 3, 4, 5, 6, 7] rfl (t_L_withdraws_190 hC hr hk6 x5 x6 x7 x7 v38 0 M36 h)
  · replace h := gq_f c39 h
    refine g_sipush (v := 16256) hC (by decide) dL_withdraws_183 ?_
    refine g_goto (tgt := 190) hC (by decide) dL_withdraws_186 ?_
    exact g_weak [0, 1, 2, 3, 4, 5, 6, 7] rfl (t_L_withdraws_190 hC hr hk6 x5 x6 x7 x7 v38 16256 M36 h)
def f_L_withdraws_144 (N : Nat) (kh6 : Int32 → Int32 → Int32 → gq_M → Option (Int32 × gq_M)) (x5 : Int32) (x6 : Int32) (x7 : Int32) (x10 : Int32) (x11 : Int32) (s1 : Int32) (s2 : Int32) (s3 : Int32) (M : gq_M) : Option (Int32 × gq_M) :=
  gq_g (gq_in s1 24) (gq_l (gq_up M 121 s1.toNatClampNeg (s2 + s3)) fun M31 => if x10 = 0 then (if x11 = 0 then (f_L_withdraws_170 N kh6 x5 x6 x7 x11 x7 7 M31) else (f_L_withdraws_170 N kh6 x5 x6 x7 x11 x7 6 M31)) else (f_L_withdraws_170 N kh6 x5 x6 x7 x11 x7 5 M31))
set_option maxHeartbeats 1000000 in
set_option maxRecDepth 20000 in
theorem t_L_withdraws_144 {N : Nat} {kh6 : Int32 → Int32 → Int32 → gq_M → Option (Int32 × gq_M)} {v9 : Int32} {M9 : gq_M} (hC : gq_C p s m args meth c D A cI cZ ad mtL RL cL_withdraws 12) (hr : meth.sig.returnType = (some .int)) (hk6 : ∀ (x5 : Int32) (x6 : Int32) (x7 : Int32) (M : gq_M), kh6 x5 x6 x7 M = some (v9, M9) → gq_W p l e (gq_rm 2) s m args below meth c D A cI cZ ad mtL 12 (MQ below (gq_Qi D cI cZ ad mtL v9 M9 A) args s 0 0 A) 6 [(0, .ref (ad 109)), (1, .ref (ad 110)), (2, .ref (ad 111)), (3, .ref (ad 119)), (4, .ref (ad 121)), (5, .int x5), (6, .int x6), (7, .int x7)] [] M 0 0)  : ∀ (x5 : Int32) (x6 : Int32) (x7 : Int32) (x10 : Int32) (x11 : Int32) (s1 : Int32) (s2 : Int32) (s3 : Int32) (M : gq_M), f_L_withdraws_144 N kh6 x5 x6 x7 x10 x11 s1 s2 s3 M = some (v9, M9) → gq_W p l e (gq_rm 2) s m args below meth c D A cI cZ ad mtL 12 (MQ below (gq_Qi D cI cZ ad mtL v9 M9 A) args s 0 0 A) 144 [(0, .ref (ad 109)), (1, .ref (ad 110)), (2, .ref (ad 111)), (3, .ref (ad 119)), (4, .ref (ad 121)), (5, .int x5), (6, .int x6), (7, .int x7), (10, .int x10), (11, .int x11)] [.int s3, .int s2, .int s1, .ref (ad 121)] M 0 0 := by
  intro x5 x6 x7 x10 x11 s1 s2 s3 M h
  unfold f_L_withdraws_144 at h
  refine g_iadd hC dL_withdraws_144 ?_
  obtain ⟨g30, h⟩ := gq_g_i h
  refine g_iast hC arL_121 (gq_in_i g30) dL_withdraws_145 ?_
  refine g_topM (fun M31 hM31 => ?_)
  replace h := gq_l_i hM31 h
  refine g_aload_n hC 0 rfl rfl dL_withdraws_146 ?_
  refine g_iload hC 7 rfl dL_withdraws_147 ?_
  refine g_iload hC 8 rfl dL_withdraws_149 ?_
  refine g_if_eq (tgt := 158) hC (by decide) dL_withdraws_151 (fun c32 => ?_) (fun c32 => ?_)
  · replace h := gq_t c32 h
    refine g_iload hC 9 rfl dL_withdraws_158 ?_
    refine g_if_eq (tgt := 168) hC (by decide) dL_withdraws_160 (fun c33 => ?_) (fun c33 => ?_)
    · replace h := gq_t c33 h
      refine g_bipush (v := 7) hC (by decide) dL_withdraws_168 ?_
      exact g_weak [0, 1, 2, 3, 4, 5, 6, 7, 9] rfl (t_L_withdraws_170 hC hr hk6 x5 x6 x7 x11 x7 7 M31 h)
    · replace h := gq_f c33 h
      refine g_bipush (v := 6) hC (by decide) dL_withdraws_163 ?_
      refine g_goto (tgt := 170) hC (by decide) dL_withdraws_165 ?_
      exact g_weak [0, 1, 2, 3, 4, 5, 6, 7, 9] rfl (t_L_withdraws_170 hC hr hk6 x5 x6 x7 x11 x7 6 M31 h)
  · replace h := gq_f c32 h
    refine g_iconst (v := 5) hC (by decide) dL_withdraws_154 ?_
    refine g_goto (tgt := 170) hC (by decide) dL_withdraws_155 ?_
    exact g_weak [0, 1, 2, 3, 4, 5, 6, 7, 9] rfl (t_L_withdraws_170 hC hr hk6 x5 x6 x7 x11 x7 5 M31 h)
def f_L_withdraws_119 (N : Nat) (kh6 : Int32 → Int32 → Int32 → gq_M → Option (Int32 × gq_M)) (x5 : Int32) (x6 : Int32) (x7 : Int32) (x8 : Int32) (x9 : Int32) (x10 : Int32) (x11 : Int32) (s1 : Int32) (s2 : Int32) (s3 : Int32) (M : gq_M) : Option (Int32 × gq_M) :=
  gq_g (gq_in s1 24) (gq_l (gq_up M 121 s1.toNatClampNeg (s2 - s3)) fun M26 => gq_g (gq_in (16 + x8) 24) (gq_l (M26 121 ((16 + x8) : Int32).toNatClampNeg) fun v28 => if x10 = 0 then (f_L_withdraws_144 N kh6 x5 x6 x7 x10 x11 (16 + x8) v28 0 M26) else (f_L_withdraws_144 N kh6 x5 x6 x7 x10 x11 (16 + x8) v28 (20 * x9) M26)))
set_option maxHeartbeats 1000000 in
set_option maxRecDepth 20000 in
theorem t_L_withdraws_119 {N : Nat} {kh6 : Int32 → Int32 → Int32 → gq_M → Option (Int32 × gq_M)} {v9 : Int32} {M9 : gq_M} (hC : gq_C p s m args meth c D A cI cZ ad mtL RL cL_withdraws 12) (hr : meth.sig.returnType = (some .int)) (hk6 : ∀ (x5 : Int32) (x6 : Int32) (x7 : Int32) (M : gq_M), kh6 x5 x6 x7 M = some (v9, M9) → gq_W p l e (gq_rm 2) s m args below meth c D A cI cZ ad mtL 12 (MQ below (gq_Qi D cI cZ ad mtL v9 M9 A) args s 0 0 A) 6 [(0, .ref (ad 109)), (1, .ref (ad 110)), (2, .ref (ad 111)), (3, .ref (ad 119)), (4, .ref (ad 121)), (5, .int x5), (6, .int x6), (7, .int x7)] [] M 0 0)  : ∀ (x5 : Int32) (x6 : Int32) (x7 : Int32) (x8 : Int32) (x9 : Int32) (x10 : Int32) (x11 : Int32) (s1 : Int32) (s2 : Int32) (s3 : Int32) (M : gq_M), f_L_withdraws_119 N kh6 x5 x6 x7 x8 x9 x10 x11 s1 s2 s3 M = some (v9, M9) → gq_W p l e (gq_rm 2) s m args below meth c D A cI cZ ad mtL 12 (MQ below (gq_Qi D cI cZ ad mtL v9 M9 A) args s 0 0 A) 119 [(0, .ref (ad 109)), (1, .ref (ad 110)), (2, .ref (ad 111)), (3, .ref (ad 119)), (4, .ref (ad 121)), (5, .int x5), (6, .int x6), (7, .int x7), (8, .int x8), (9, .int x9), (10, .int x10), (11, .int x11)] [.int s3, .int s2, .int s1, .ref (ad 121)] M 0 0 := by
  intro x5 x6 x7 x8 x9 x10 x11 s1 s2 s3 M h
  unfold f_L_withdraws_119 at h
  refine g_isub hC dL_withdraws_119 ?_
  obtain ⟨g25, h⟩ := gq_g_i h
  refine g_iast hC arL_121 (gq_in_i g25) dL_withdraws_120 ?_
  refine g_topM (fun M26 hM26 => ?_)
  replace h := gq_l_i hM26 h
  refine g_aload hC 4 rfl dL_withdraws_121 ?_
  refine g_bipush (v := 16) hC (by decide) dL_withdraws_123 ?_
  refine g_iload hC 8 rfl dL_withdraws_125 ?_
  refine g_iadd hC dL_withdraws_127 ?_
  refine g_dup2 hC rfl rfl dL_withdraws_128 ?_
  obtain ⟨g27, h⟩ := gq_g_i h
  refine g_iald hC arL_121 (gq_in_i g27) dL_withdraws_129 ?_
  refine g_topi (fun v28 hv28 => ?_)
  replace h := gq_l_i hv28 h
  refine g_iload hC 10 rfl dL_withdraws_130 ?_
  refine g_if_eq (tgt := 143) hC (by decide) dL_withdraws_132 (fun c29 => ?_) (fun c29 => ?_)
  · replace h := gq_t c29 h
    refine g_iconst (v := 0) hC (by decide) dL_withdraws_143 ?_
    exact g_weak [0, 1, 2, 3, 4, 5, 6, 7, 10, 11] rfl (t_L_withdraws_144 hC hr hk6 x5 x6 x7 x10 x11 (16 + x8) v28 0 M26 h)
  · replace h := gq_f c29 h
    refine g_bipush (v := 20) hC (by decide) dL_withdraws_135 ?_
    refine g_iload hC 9 rfl dL_withdraws_137 ?_
    refine g_imul hC dL_withdraws_139 ?_
    refine g_goto (tgt := 144) hC (by decide) dL_withdraws_140 ?_
    exact g_weak [0, 1, 2, 3, 4, 5, 6, 7, 10, 11] rfl (t_L_withdraws_144 hC hr hk6 x5 x6 x7 x10 x11 (16 + x8) v28 (20 * x9) M26 h)
def f_L_withdraws_100 (N : Nat) (kh6 : Int32 → Int32 → Int32 → gq_M → Option (Int32 × gq_M)) (x5 : Int32) (x6 : Int32) (x7 : Int32) (x8 : Int32) (x9 : Int32) (x10 : Int32) (s0 : Int32) (M : gq_M) : Option (Int32 × gq_M) :=
  gq_g (gq_in x8 24) (gq_l (M 121 x8.toNatClampNeg) fun v23 => if x10 = 0 then (f_L_withdraws_119 N kh6 x5 x6 x7 x8 x9 x10 s0 x8 v23 0 M) else (f_L_withdraws_119 N kh6 x5 x6 x7 x8 x9 x10 s0 x8 v23 x9 M))
set_option maxHeartbeats 1000000 in
set_option maxRecDepth 20000 in
theorem t_L_withdraws_100 {N : Nat} {kh6 : Int32 → Int32 → Int32 → gq_M → Option (Int32 × gq_M)} {v9 : Int32} {M9 : gq_M} (hC : gq_C p s m args meth c D A cI cZ ad mtL RL cL_withdraws 12) (hr : meth.sig.returnType = (some .int)) (hk6 : ∀ (x5 : Int32) (x6 : Int32) (x7 : Int32) (M : gq_M), kh6 x5 x6 x7 M = some (v9, M9) → gq_W p l e (gq_rm 2) s m args below meth c D A cI cZ ad mtL 12 (MQ below (gq_Qi D cI cZ ad mtL v9 M9 A) args s 0 0 A) 6 [(0, .ref (ad 109)), (1, .ref (ad 110)), (2, .ref (ad 111)), (3, .ref (ad 119)), (4, .ref (ad 121)), (5, .int x5), (6, .int x6), (7, .int x7)] [] M 0 0)  : ∀ (x5 : Int32) (x6 : Int32) (x7 : Int32) (x8 : Int32) (x9 : Int32) (x10 : Int32) (s0 : Int32) (M : gq_M), f_L_withdraws_100 N kh6 x5 x6 x7 x8 x9 x10 s0 M = some (v9, M9) → gq_W p l e (gq_rm 2) s m args below meth c D A cI cZ ad mtL 12 (MQ below (gq_Qi D cI cZ ad mtL v9 M9 A) args s 0 0 A) 100 [(0, .ref (ad 109)), (1, .ref (ad 110)), (2, .ref (ad 111)), (3, .ref (ad 119)), (4, .ref (ad 121)), (5, .int x5), (6, .int x6), (7, .int x7), (8, .int x8), (9, .int x9), (10, .int x10)] [.int s0] M 0 0 := by
  intro x5 x6 x7 x8 x9 x10 s0 M h
  unfold f_L_withdraws_100 at h
  refine g_istore (L2 := [(11, .int s0), (0, .ref (ad 109)), (1, .ref (ad 110)), (2, .ref (ad 111)), (3, .ref (ad 119)), (4, .ref (ad 121)), (5, .int x5), (6, .int x6), (7, .int x7), (8, .int x8), (9, .int x9), (10, .int x10)]) hC (by decide) rfl dL_withdraws_100 ?_
  refine g_aload hC 5 rfl dL_withdraws_102 ?_
  refine g_iload hC 9 rfl dL_withdraws_104 ?_
  refine g_dup2 hC rfl rfl dL_withdraws_106 ?_
  obtain ⟨g22, h⟩ := gq_g_i h
  refine g_iald hC arL_121 (gq_in_i g22) dL_withdraws_107 ?_
  refine g_topi (fun v23 hv23 => ?_)
  replace h := gq_l_i hv23 h
  refine g_iload hC 11 rfl dL_withdraws_108 ?_
  refine g_if_eq (tgt := 118) hC (by decide) dL_withdraws_110 (fun c24 => ?_) (fun c24 => ?_)
  · replace h := gq_t c24 h
    refine g_iconst (v := 0) hC (by decide) dL_withdraws_118 ?_
    exact g_weak [1, 2, 3, 4, 5, 6, 7, 8, 9, 10, 11, 0] rfl (t_L_withdraws_119 hC hr hk6 x5 x6 x7 x8 x9 x10 s0 x8 v23 0 M h)
  · replace h := gq_f c24 h
    refine g_iload hC 10 rfl dL_withdraws_113 ?_
    refine g_goto (tgt := 119) hC (by decide) dL_withdraws_115 ?_
    exact g_weak [1, 2, 3, 4, 5, 6, 7, 8, 9, 10, 11, 0] rfl (t_L_withdraws_119 hC hr hk6 x5 x6 x7 x8 x9 x10 s0 x8 v23 x9 M h)
def f_L_withdraws_99 (N : Nat) (kh6 : Int32 → Int32 → Int32 → gq_M → Option (Int32 × gq_M)) (x5 : Int32) (x6 : Int32) (x7 : Int32) (x8 : Int32) (x9 : Int32) (x10 : Int32) (M : gq_M) : Option (Int32 × gq_M) :=
  f_L_withdraws_100 N kh6 x5 x6 x7 x8 x9 x10 0 M
set_option maxHeartbeats 1000000 in
set_option maxRecDepth 20000 in
theorem t_L_withdraws_99 {N : Nat} {kh6 : Int32 → Int32 → Int32 → gq_M → Option (Int32 × gq_M)} {v9 : Int32} {M9 : gq_M} (hC : gq_C p s m args meth c D A cI cZ ad mtL RL cL_withdraws 12) (hr : meth.sig.returnType = (some .int)) (hk6 : ∀ (x5 : Int32) (x6 : Int32) (x7 : Int32) (M : gq_M), kh6 x5 x6 x7 M = some (v9, M9) → gq_W p l e (gq_rm 2) s m args below meth c D A cI cZ ad mtL 12 (MQ below (gq_Qi D cI cZ ad mtL v9 M9 A) args s 0 0 A) 6 [(0, .ref (ad 109)), (1, .ref (ad 110)), (2, .ref (ad 111)), (3, .ref (ad 119)), (4, .ref (ad 121)), (5, .int x5), (6, .int x6), (7, .int x7)] [] M 0 0)  : ∀ (x5 : Int32) (x6 : Int32) (x7 : Int32) (x8 : Int32) (x9 : Int32) (x10 : Int32) (M : gq_M), f_L_withdraws_99 N kh6 x5 x6 x7 x8 x9 x10 M = some (v9, M9) → gq_W p l e (gq_rm 2) s m args below meth c D A cI cZ ad mtL 12 (MQ below (gq_Qi D cI cZ ad mtL v9 M9 A) args s 0 0 A) 99 [(0, .ref (ad 109)), (1, .ref (ad 110)), (2, .ref (ad 111)), (3, .ref (ad 119)), (4, .ref (ad 121)), (5, .int x5), (6, .int x6), (7, .int x7), (8, .int x8), (9, .int x9), (10, .int x10)] [] M 0 0 := by
  intro x5 x6 x7 x8 x9 x10 M h
  unfold f_L_withdraws_99 at h
  refine g_iconst (v := 0) hC (by decide) dL_withdraws_99 ?_
  exact g_weak [0, 1, 2, 3, 4, 5, 6, 7, 8, 9, 10] rfl (t_L_withdraws_100 hC hr hk6 x5 x6 x7 x8 x9 x10 0 M h)
def f_L_withdraws_60 (N : Nat) (kh6 : Int32 → Int32 → Int32 → gq_M → Option (Int32 × gq_M)) (x5 : Int32) (x6 : Int32) (x7 : Int32) (x8 : Int32) (x9 : Int32) (s0 : Int32) (M : gq_M) : Option (Int32 × gq_M) :=
  if s0 = 0 then (gq_g (gq_in x7 40) (gq_l (M 109 x7.toNatClampNeg) fun v17 => if ((v17 / 16384) - (v17 / 16384) / 2 * 2) = 0 then (gq_g (gq_in x7 40) (gq_l (M 109 x7.toNatClampNeg) fun v20 => if ((v20 / 128) - (v20 / 128) / 16 * 16) ≤ 1 then (f_L_withdraws_99 N kh6 x5 x6 x7 x8 x9 s0 M) else (f_L_withdraws_100 N kh6 x5 x6 x7 x8 x9 s0 1 M))) else (f_L_withdraws_99 N kh6 x5 x6 x7 x8 x9 s0 M))) else (f_L_withdraws_99 N kh6 x5 x6 x7 x8 x9 s0 M)
set_option maxHeartbeats 1000000 in
set_option maxRecDepth 20000 in
theorem t_L_withdraws_60 {N : Nat} {kh6 : Int32 → Int32 → Int32 → gq_M → Option (Int32 × gq_M)} {v9 : Int32} {M9 : gq_M} (hC : gq_C p s m args meth c D A cI cZ ad mtL RL cL_withdraws 12) (hr : meth.sig.returnType = (some .int)) (hk6 : ∀ (x5 : Int32) (x6 : Int32) (x7 : Int32) (M : gq_M), kh6 x5 x6 x7 M = some (v9, M9) → gq_W p l e (gq_rm 2) s m args below meth c D A cI cZ ad mtL 12 (MQ below (gq_Qi D cI cZ ad mtL v9 M9 A) args s 0 0 A) 6 [(0, .ref (ad 109)), (1, .ref (ad 110)), (2, .ref (ad 111)), (3, .ref (ad 119)), (4, .ref (ad 121)), (5, .int x5), (6, .int x6), (7, .int x7)] [] M 0 0)  : ∀ (x5 : Int32) (x6 : Int32) (x7 : Int32) (x8 : Int32) (x9 : Int32) (s0 : Int32) (M : gq_M), f_L_withdraws_60 N kh6 x5 x6 x7 x8 x9 s0 M = some (v9, M9) → gq_W p l e (gq_rm 2) s m args below meth c D A cI cZ ad mtL 12 (MQ below (gq_Qi D cI cZ ad mtL v9 M9 A) args s 0 0 A) 60 [(0, .ref (ad 109)), (1, .ref (ad 110)), (2, .ref (ad 111)), (3, .ref (ad 119)), (4, .ref (ad 121)), (5, .int x5), (6, .int x6), (7, .int x7), (8, .int x8), (9, .int x9)] [.int s0] M 0 0 := by
  intro x5 x6 x7 x8 x9 s0 M h
  unfold f_L_withdraws_60 at h
  refine g_istore (L2 := [(10, .int s0), (0, .ref (ad 109)), (1, .ref (ad 110)), (2, .ref (ad 111)), (3, .ref (ad 119)), (4, .ref (ad 121)), (5, .int x5), (6, .int x6), (7, .int x7), (8, .int x8), (9, .int x9)]) hC (by decide) rfl dL_withdraws_60 ?_
  refine g_iload hC 0 rfl dL_withdraws_62 ?_
  refine g_if_ne (tgt := 99) hC (by decide) dL_withdraws_64 (fun c15 => ?_) (fun c15 => ?_)
  · replace h := gq_f c15 h
    exact g_weak [1, 2, 3, 4, 5, 6, 7, 8, 9, 10, 0] rfl (t_L_withdraws_99 hC hr hk6 x5 x6 x7 x8 x9 s0 M h)
  · replace h := gq_t c15 h
    refine g_aload_n hC 1 rfl rfl dL_withdraws_67 ?_
    refine g_iload hC 8 rfl dL_withdraws_68 ?_
    obtain ⟨g16, h⟩ := gq_g_i h
    refine g_iald hC arL_109 (gq_in_i g16) dL_withdraws_70 ?_
    refine g_topi (fun v17 hv17 => ?_)
    replace h := gq_l_i hv17 h
    refine g_sipush (v := 16384) hC (by decide) dL_withdraws_71 ?_
    refine g_idiv hC (by decide) dL_withdraws_74 ?_
    refine g_iconst (v := 2) hC (by decide) dL_withdraws_75 ?_
    refine g_irem hC (by decide) dL_withdraws_76 ?_
    refine g_if_ne (tgt := 99) hC (by decide) dL_withdraws_77 (fun c18 => ?_) (fun c18 => ?_)
    · replace h := gq_f c18 h
      exact g_weak [1, 2, 3, 4, 5, 6, 7, 8, 9, 10, 0] rfl (t_L_withdraws_99 hC hr hk6 x5 x6 x7 x8 x9 s0 M h)
    · replace h := gq_t c18 h
      refine g_aload_n hC 1 rfl rfl dL_withdraws_80 ?_
      refine g_iload hC 8 rfl dL_withdraws_81 ?_
      obtain ⟨g19, h⟩ := gq_g_i h
      refine g_iald hC arL_109 (gq_in_i g19) dL_withdraws_83 ?_
      refine g_topi (fun v20 hv20 => ?_)
      replace h := gq_l_i hv20 h
      refine g_sipush (v := 128) hC (by decide) dL_withdraws_84 ?_
      refine g_idiv hC (by decide) dL_withdraws_87 ?_
      refine g_bipush (v := 16) hC (by decide) dL_withdraws_88 ?_
      refine g_irem hC (by decide) dL_withdraws_90 ?_
      refine g_iconst (v := 1) hC (by decide) dL_withdraws_91 ?_
      refine g_icmp_le (tgt := 99) hC (by decide) dL_withdraws_92 (fun c21 => ?_) (fun c21 => ?_)
      · replace h := gq_t c21 h
        exact g_weak [1, 2, 3, 4, 5, 6, 7, 8, 9, 10, 0] rfl (t_L_withdraws_99 hC hr hk6 x5 x6 x7 x8 x9 s0 M h)
      · replace h := gq_f c21 h
        refine g_iconst (v := 1) hC (by decide) dL_withdraws_95 ?_
        refine g_goto (tgt := 100) hC (by decide) dL_withdraws_96 ?_
        exact g_weak [1, 2, 3, 4, 5, 6, 7, 8, 9, 10, 0] rfl (t_L_withdraws_100 hC hr hk6 x5 x6 x7 x8 x9 s0 1 M h)
def f_L_withdraws_6_b (N : Nat) (kh6 : Int32 → Int32 → Int32 → gq_M → Option (Int32 × gq_M)) (x5 : Int32) (x6 : Int32) (x7 : Int32) (M : gq_M) : Option (Int32 × gq_M) :=
  gq_g (gq_in 4 56) (gq_l (M 119 (4 : Int32).toNatClampNeg) fun v2 => if v2 ≤ x7 then (some (x6, M)) else (gq_b (f_L_isLeft N x7 x5 M) fun v4 M6 => if v4 = 0 then (f_L_withdraws_195 N kh6 x5 x6 x7 M6) else (gq_g (gq_in x7 40) (gq_l (M6 109 x7.toNatClampNeg) fun v9 => gq_g (gq_in x7 40) (gq_l (M6 110 x7.toNatClampNeg) fun v11 => gq_g (gq_in (v9 - v9 / 8 * 8) 24) (gq_l (M6 121 ((v9 - v9 / 8 * 8) : Int32).toNatClampNeg) fun v13 => if v13 < (v11 - v11 / 128 * 128) then (f_L_withdraws_60 N kh6 x5 x6 x7 (v9 - v9 / 8 * 8) (v11 - v11 / 128 * 128) 0 M6) else (f_L_withdraws_60 N kh6 x5 x6 x7 (v9 - v9 / 8 * 8) (v11 - v11 / 128 * 128) 1 M6)))))))
def f_L_withdraws_6 (N : Nat) : Nat → Int32 → Int32 → Int32 → gq_M → Option (Int32 × gq_M)
  | 0 => fun _ _ _ _ => none
  | n9 + 1 => f_L_withdraws_6_b N  (f_L_withdraws_6 N  n9)
set_option maxHeartbeats 1000000 in
set_option maxRecDepth 20000 in
theorem t_L_withdraws_6_b {N : Nat} {kh6 : Int32 → Int32 → Int32 → gq_M → Option (Int32 × gq_M)} {v9 : Int32} {M9 : gq_M} (hC : gq_C p s m args meth c D A cI cZ ad mtL RL cL_withdraws 12) (hr : meth.sig.returnType = (some .int))  (hk6 : ∀ (x5 : Int32) (x6 : Int32) (x7 : Int32) (M : gq_M), kh6 x5 x6 x7 M = some (v9, M9) → gq_W p l e (gq_rm 2) s m args below meth c D A cI cZ ad mtL 12 (MQ below (gq_Qi D cI cZ ad mtL v9 M9 A) args s 0 0 A) 6 [(0, .ref (ad 109)), (1, .ref (ad 110)), (2, .ref (ad 111)), (3, .ref (ad 119)), (4, .ref (ad 121)), (5, .int x5), (6, .int x6), (7, .int x7)] [] M 0 0) : ∀ (x5 : Int32) (x6 : Int32) (x7 : Int32) (M : gq_M), f_L_withdraws_6_b N  kh6 x5 x6 x7 M = some (v9, M9) → gq_W p l e (gq_rm 2) s m args below meth c D A cI cZ ad mtL 12 (MQ below (gq_Qi D cI cZ ad mtL v9 M9 A) args s 0 0 A) 6 [(0, .ref (ad 109)), (1, .ref (ad 110)), (2, .ref (ad 111)), (3, .ref (ad 119)), (4, .ref (ad 121)), (5, .int x5), (6, .int x6), (7, .int x7)] [] M 0 0 := by
  intro x5 x6 x7 M h
  unfold f_L_withdraws_6_b at h
  refine g_iload hC 7 rfl dL_withdraws_6 ?_
  refine g_aload_n hC 3 rfl rfl dL_withdraws_8 ?_
  refine g_iconst (v := 4) hC (by decide) dL_withdraws_9 ?_
  obtain ⟨g1, h⟩ := gq_g_i h
  refine g_iald hC arL_119 (gq_in_i g1) dL_withdraws_10 ?_
  refine g_topi (fun v2 hv2 => ?_)
  replace h := gq_l_i hv2 h
  refine g_icmp_ge (tgt := 201) hC (by decide) dL_withdraws_11 (fun c3 => ?_) (fun c3 => ?_)
  · replace h := gq_t c3 h
    refine g_iload hC 6 rfl dL_withdraws_201 ?_
    exact g_irets hC hr h dL_withdraws_203
  · replace h := gq_f c3 h
    refine g_aload_n hC 0 rfl rfl dL_withdraws_14 ?_
    refine g_aload_n hC 2 rfl rfl dL_withdraws_15 ?_
    refine g_iload hC 7 rfl dL_withdraws_16 ?_
    refine g_iload hC 5 rfl dL_withdraws_18 ?_
    obtain ⟨v4, M6, c5, h⟩ := gq_b_i h
    refine g_Si (as := [.ref (ad 109), .ref (ad 111), .int x7, .int x5]) hC (t_L_isLeft N _ _ _ _ _ c5) mS_L_isLeft wm_L_99 rfl rfl (Nat.le_of_ble_eq_true rfl) ⟨Nat.le_of_ble_eq_true rfl, Nat.le_of_ble_eq_true rfl⟩ ⟨Nat.zero_le _, Nat.zero_le _⟩ dL_withdraws_20 ?_
    refine g_if_eq (tgt := 195) hC (by decide) dL_withdraws_23 (fun c7 => ?_) (fun c7 => ?_)
    · replace h := gq_t c7 h
      exact g_weak [0, 1, 2, 3, 4, 5, 6, 7] rfl (t_L_withdraws_195 hC hr hk6 x5 x6 x7 M6 h)
    · replace h := gq_f c7 h
      refine g_aload_n hC 0 rfl rfl dL_withdraws_26 ?_
      refine g_iload hC 7 rfl dL_withdraws_27 ?_
      obtain ⟨g8, h⟩ := gq_g_i h
      refine g_iald hC arL_109 (gq_in_i g8) dL_withdraws_29 ?_
      refine g_topi (fun v9 hv9 => ?_)
      replace h := gq_l_i hv9 h
      refine g_bipush (v := 8) hC (by decide) dL_withdraws_30 ?_
      refine g_irem hC (by decide) dL_withdraws_32 ?_
      refine g_istore (L2 := [(8, .int (v9 - v9 / 8 * 8)), (0, .ref (ad 109)), (1, .ref (ad 110)), (2, .ref (ad 111)), (3, .ref (ad 119)), (4, .ref (ad 121)), (5, .int x5), (6, .int x6), (7, .int x7)]) hC (by decide) rfl dL_withdraws_33 ?_
      refine g_aload_n hC 2 rfl rfl dL_withdraws_35 ?_
      refine g_iload hC 8 rfl dL_withdraws_36 ?_
      obtain ⟨g10, h⟩ := gq_g_i h
      refine g_iald hC arL_110 (gq_in_i g10) dL_withdraws_38 ?_
      refine g_topi (fun v11 hv11 => ?_)
      replace h := gq_l_i hv11 h
      refine g_sipush (v := 128) hC (by decide) dL_withdraws_39 ?_
      refine g_irem hC (by decide) dL_withdraws_42 ?_
      refine g_istore (L2 := [(9, .int (v11 - v11 / 128 * 128)), (8, .int (v9 - v9 / 8 * 8)), (0, .ref (ad 109)), (1, .ref (ad 110)), (2, .ref (ad 111)), (3, .ref (ad 119)), (4, .ref (ad 121)), (5, .int x5), (6, .int x6), (7, .int x7)]) hC (by decide) rfl dL_withdraws_43 ?_
      refine g_aload hC 6 rfl dL_withdraws_45 ?_
      refine g_iload hC 1 rfl dL_withdraws_47 ?_
      obtain ⟨g12, h⟩ := gq_g_i h
      refine g_iald hC arL_121 (gq_in_i g12) dL_withdraws_49 ?_
      refine g_topi (fun v13 hv13 => ?_)
      replace h := gq_l_i hv13 h
      refine g_iload hC 0 rfl dL_withdraws_50 ?_
      refine g_icmp_lt (tgt := 59) hC (by decide) dL_withdraws_52 (fun c14 => ?_) (fun c14 => ?_)
      · replace h := gq_t c14 h
        refine g_iconst (v := 0) hC (by decide) dL_withdraws_59 ?_
        exact g_weak [2, 3, 4, 5, 6, 7, 8, 9, 1, 0] rfl (t_L_withdraws_60 hC hr hk6 x5 x6 x7 (v9 - v9 / 8 * 8) (v11 - v11 / 128 * 128) 0 M6 h)
      · replace h := gq_f c14 h
        refine g_iconst (v := 1) hC (by decide) dL_withdraws_55 ?_
        refine g_goto (tgt := 60) hC (by decide) dL_withdraws_56 ?_
        exact g_weak [2, 3, 4, 5, 6, 7, 8, 9, 1, 0] rfl (t_L_withdraws_60 hC hr hk6 x5 x6 x7 (v9 - v9 / 8 * 8) (v11 - v11 / 128 * 128) 1 M6 h)
theorem t_L_withdraws_6 {N : Nat} {v9 : Int32} {M9 : gq_M} (hC : gq_C p s m args meth c D A cI cZ ad mtL RL cL_withdraws 12) (hr : meth.sig.returnType = (some .int))  : ∀ (n9 : Nat) (x5 : Int32) (x6 : Int32) (x7 : Int32) (M : gq_M), f_L_withdraws_6 N  n9 x5 x6 x7 M = some (v9, M9) → gq_W p l e (gq_rm 2) s m args below meth c D A cI cZ ad mtL 12 (MQ below (gq_Qi D cI cZ ad mtL v9 M9 A) args s 0 0 A) 6 [(0, .ref (ad 109)), (1, .ref (ad 110)), (2, .ref (ad 111)), (3, .ref (ad 119)), (4, .ref (ad 121)), (5, .int x5), (6, .int x6), (7, .int x7)] [] M 0 0 := by
  intro n9
  induction n9 with
  | zero => intro x5 x6 x7 M h; cases h
  | succ n9 ih => intro x5 x6 x7 M h; exact t_L_withdraws_6_b hC hr  ih x5 x6 x7 M h
def f_L_withdraws (N : Nat) (a5 : Int32) (M : gq_M) : Option (Int32 × gq_M) :=
  f_L_withdraws_6 N  N a5 0 0 M
set_option maxHeartbeats 1000000 in
set_option maxRecDepth 20000 in
theorem t_L_withdraws {l : Launch} {D : va_G} {cI cZ : ClassId} {ad : Nat → Nat} (N : Nat) (a5 : Int32) (M : gq_M) (v9 : Int32) (M9 : gq_M) (h : f_L_withdraws N a5 M = some (v9, M9)) : gq_Ci l D cI cZ ad mtL yL_withdraws cL_withdraws 12 (some .int) 2 [.ref (ad 109), .ref (ad 110), .ref (ad 111), .ref (ad 119), .ref (ad 121), .int a5] M v9 M9 := by
  refine gq_introI (own := RL) (by decide) rfl (Nat.le_of_ble_eq_true rfl) ?_
  intro p e s m below meth c hC hr
  refine g_cast (L2 := [(0, .ref (ad 109)), (1, .ref (ad 110)), (2, .ref (ad 111)), (3, .ref (ad 119)), (4, .ref (ad 121)), (5, .int a5)]) ?_ rfl rfl rfl rfl
  unfold f_L_withdraws at h
  refine g_iconst (v := 0) hC (by decide) dL_withdraws_0 ?_
  refine g_istore (L2 := [(6, .int 0), (0, .ref (ad 109)), (1, .ref (ad 110)), (2, .ref (ad 111)), (3, .ref (ad 119)), (4, .ref (ad 121)), (5, .int a5)]) hC (by decide) rfl dL_withdraws_1 ?_
  refine g_iconst (v := 0) hC (by decide) dL_withdraws_3 ?_
  refine g_istore (L2 := [(7, .int 0), (6, .int 0), (0, .ref (ad 109)), (1, .ref (ad 110)), (2, .ref (ad 111)), (3, .ref (ad 119)), (4, .ref (ad 121)), (5, .int a5)]) hC (by decide) rfl dL_withdraws_4 ?_
  exact g_weak [2, 3, 4, 5, 6, 7, 1, 0] rfl (t_L_withdraws_6 hC hr  N a5 0 0 M h)
def f_L_done (N : Nat) (a4 : Int32) (M : gq_M) : Option (Int32 × gq_M) :=
  gq_g (gq_in ((8 * a4) + 1) 24) (gq_l (M 115 (((8 * a4) + 1) : Int32).toNatClampNeg) fun v2 => gq_g (gq_in v2 40) (gq_l (M 114 v2.toNatClampNeg) fun v4 => gq_g (gq_in v2 40) (gq_l (gq_up M 114 v2.toNatClampNeg (v4 + 8192)) fun M6 => gq_b (f_L_comes N a4 M6) fun v7 M9 => some (0, M9))))
set_option maxHeartbeats 1000000 in
set_option maxRecDepth 20000 in
theorem t_L_done {l : Launch} {D : va_G} {cI cZ : ClassId} {ad : Nat → Nat} (N : Nat) (a4 : Int32) (M : gq_M) (v9 : Int32) (M9 : gq_M) (h : f_L_done N a4 M = some (v9, M9)) : gq_Cv l D cI cZ ad mtL yL_done cL_done 5 2 [.ref (ad 114), .ref (ad 115), .ref (ad 116), .ref (ad 119), .int a4] M M9 := by
  refine gq_introV (own := RL) (by decide) rfl (Nat.le_of_ble_eq_true rfl) ?_
  intro p e s m below meth c hC hr
  refine g_cast (L2 := [(0, .ref (ad 114)), (1, .ref (ad 115)), (2, .ref (ad 116)), (3, .ref (ad 119)), (4, .int a4)]) ?_ rfl rfl rfl rfl
  unfold f_L_done at h
  refine g_aload_n hC 0 rfl rfl dL_done_0 ?_
  refine g_aload_n hC 1 rfl rfl dL_done_1 ?_
  refine g_bipush (v := 8) hC (by decide) dL_done_2 ?_
  refine g_iload hC 4 rfl dL_done_4 ?_
  refine g_imul hC dL_done_6 ?_
  refine g_iconst (v := 1) hC (by decide) dL_done_7 ?_
  refine g_iadd hC dL_done_8 ?_
  obtain ⟨g1, h⟩ := gq_g_i h
  refine g_iald hC arL_115 (gq_in_i g1) dL_done_9 ?_
  refine g_topi (fun v2 hv2 => ?_)
  replace h := gq_l_i hv2 h
  refine g_dup2 hC rfl rfl dL_done_10 ?_
  obtain ⟨g3, h⟩ := gq_g_i h
  refine g_iald hC arL_114 (gq_in_i g3) dL_done_11 ?_
  refine g_topi (fun v4 hv4 => ?_)
  replace h := gq_l_i hv4 h
  refine g_sipush (v := 8192) hC (by decide) dL_done_12 ?_
  refine g_iadd hC dL_done_15 ?_
  obtain ⟨g5, h⟩ := gq_g_i h
  refine g_iast hC arL_114 (gq_in_i g5) dL_done_16 ?_
  refine g_topM (fun M6 hM6 => ?_)
  replace h := gq_l_i hM6 h
  refine g_aload_n hC 0 rfl rfl dL_done_17 ?_
  refine g_aload_n hC 1 rfl rfl dL_done_18 ?_
  refine g_aload_n hC 2 rfl rfl dL_done_19 ?_
  refine g_aload_n hC 3 rfl rfl dL_done_20 ?_
  refine g_iload hC 4 rfl dL_done_21 ?_
  obtain ⟨v7, M9, c8, h⟩ := gq_b_i h
  refine g_Sv (as := [.ref (ad 114), .ref (ad 115), .ref (ad 116), .ref (ad 119), .int a4]) hC (t_L_comes N _ _ _ _ c8) mS_L_comes wm_L_111 rfl rfl (Nat.le_of_ble_eq_true rfl) ⟨Nat.le_of_ble_eq_true rfl, Nat.le_of_ble_eq_true rfl⟩ ⟨Nat.zero_le _, Nat.zero_le _⟩ dL_done_23 ?_
  exact g_vrets hC hr h dL_done_26
def f_L_costs_176 (N : Nat) (x14 : Int32) (M : gq_M) : Option (Int32 × gq_M) :=
  some (x14, M)
set_option maxHeartbeats 1000000 in
set_option maxRecDepth 20000 in
theorem t_L_costs_176 {N : Nat} {v9 : Int32} {M9 : gq_M} (hC : gq_C p s m args meth c D A cI cZ ad mtL RL cL_costs 18) (hr : meth.sig.returnType = (some .int))   : ∀ (x14 : Int32) (M : gq_M), f_L_costs_176 N  x14 M = some (v9, M9) → gq_W p l e (gq_rm 2) s m args below meth c D A cI cZ ad mtL 18 (MQ below (gq_Qi D cI cZ ad mtL v9 M9 A) args s 0 0 A) 176 [(14, .int x14)] [] M 0 0 := by
  intro x14 M h
  unfold f_L_costs_176 at h
  refine g_iload hC 0 rfl dL_costs_176 ?_
  exact g_irets hC hr h dL_costs_178
def f_L_costs_170 (N : Nat) (kh45 : Int32 → Int32 → Int32 → Int32 → Int32 → Int32 → Int32 → Int32 → gq_M → Option (Int32 × gq_M)) (x9 : Int32) (x10 : Int32) (x11 : Int32) (x12 : Int32) (x13 : Int32) (x14 : Int32) (x15 : Int32) (x16 : Int32) (M : gq_M) : Option (Int32 × gq_M) :=
  kh45 x9 x10 x11 x12 x13 x14 x15 (x16 + 1) M
set_option maxHeartbeats 1000000 in
set_option maxRecDepth 20000 in
theorem t_L_costs_170 {N : Nat} {kh45 : Int32 → Int32 → Int32 → Int32 → Int32 → Int32 → Int32 → Int32 → gq_M → Option (Int32 × gq_M)} {v9 : Int32} {M9 : gq_M} (hC : gq_C p s m args meth c D A cI cZ ad mtL RL cL_costs 18) (hr : meth.sig.returnType = (some .int)) (hk45 : ∀ (x9 : Int32) (x10 : Int32) (x11 : Int32) (x12 : Int32) (x13 : Int32) (x14 : Int32) (x15 : Int32) (x16 : Int32) (M : gq_M), kh45 x9 x10 x11 x12 x13 x14 x15 x16 M = some (v9, M9) → gq_W p l e (gq_rm 2) s m args below meth c D A cI cZ ad mtL 18 (MQ below (gq_Qi D cI cZ ad mtL v9 M9 A) args s 0 0 A) 45 [(0, .ref (ad 109)), (1, .ref (ad 110)), (2, .ref (ad 111)), (3, .ref (ad 112)), (4, .ref (ad 113)), (6, .ref (ad 119)), (7, .ref (ad 121)), (9, .int x9), (10, .int x10), (11, .int x11), (12, .int x12), (13, .int x13), (14, .int x14), (15, .int x15), (16, .int x16)] [] M 0 0)  : ∀ (x9 : Int32) (x10 : Int32) (x11 : Int32) (x12 : Int32) (x13 : Int32) (x14 : Int32) (x15 : Int32) (x16 : Int32) (M : gq_M), f_L_costs_170 N kh45 x9 x10 x11 x12 x13 x14 x15 x16 M = some (v9, M9) → gq_W p l e (gq_rm 2) s m args below meth c D A cI cZ ad mtL 18 (MQ below (gq_Qi D cI cZ ad mtL v9 M9 A) args s 0 0 A) 170 [(0, .ref (ad 109)), (1, .ref (ad 110)), (2, .ref (ad 111)), (3, .ref (ad 112)), (4, .ref (ad 113)), (6, .ref (ad 119)), (7, .ref (ad 121)), (9, .int x9), (10, .int x10), (11, .int x11), (12, .int x12), (13, .int x13), (14, .int x14), (15, .int x15), (16, .int x16)] [] M 0 0 := by
  intro x9 x10 x11 x12 x13 x14 x15 x16 M h
  unfold f_L_costs_170 at h
  refine g_iinc (v := (x16 + 1)) (L2 := [(16, .int (x16 + 1)), (0, .ref (ad 109)), (1, .ref (ad 110)), (2, .ref (ad 111)), (3, .ref (ad 112)), (4, .ref (ad 113)), (6, .ref (ad 119)), (7, .ref (ad 121)), (9, .int x9), (10, .int x10), (11, .int x11), (12, .int x12), (13, .int x13), (14, .int x14), (15, .int x15)]) hC 14 rfl (by first | rfl | decide) (by decide) rfl dL_costs_170 ?_
  refine g_goto (tgt := 45) hC (by decide) dL_costs_173 ?_
  exact g_weak [1, 2, 3, 4, 5, 6, 7, 8, 9, 10, 11, 12, 13, 14, 0] rfl (hk45 x9 x10 x11 x12 x13 x14 x15 (x16 + 1) M h)
def f_L_costs_45_b (N : Nat) (kh45 : Int32 → Int32 → Int32 → Int32 → Int32 → Int32 → Int32 → Int32 → gq_M → Option (Int32 × gq_M)) (x9 : Int32) (x10 : Int32) (x11 : Int32) (x12 : Int32) (x13 : Int32) (x14 : Int32) (x15 : Int32) (x16 : Int32) (M : gq_M) : Option (Int32 × gq_M) :=
  gq_g (gq_in 4 56) (gq_l (M 119 (4 : Int32).toNatClampNeg) fun v8 => if v8 ≤ x16 then (f_L_costs_176 N  x14 M) else (if x9 ≤ x15 then (f_L_costs_176 N  x14 M) else (gq_b (f_L_isLeft N x16 x11 M) fun v11 M13 => if v11 = 0 then (f_L_costs_170 N kh45 x9 x10 x11 x12 x13 x14 x15 x16 M13) else (gq_g (gq_in x16 40) (gq_l (M13 110 x16.toNatClampNeg) fun v16 => if x10 = 0 then (f_L_costs_170 N kh45 x9 x10 x11 x12 x13 (x14 + ((v16 - v16 / 128 * 128) * x12)) (x15 + 1) x16 M13) else (gq_b (f_L_becomes N x16 3 M13) fun v18 M20 => gq_g (gq_in x16 40) (gq_l (gq_up M20 112 x16.toNatClampNeg ((x13 + 1) + (16 * x12))) fun M22 => gq_g (gq_in 0 56) (gq_l (M22 119 (0 : Int32).toNatClampNeg) fun v24 => gq_g (gq_in 1 56) (gq_l (M22 119 (1 : Int32).toNatClampNeg) fun v26 => gq_g (gq_in x16 40) (gq_l (gq_up M22 113 x16.toNatClampNeg (v24 + (131072 * v26))) fun M28 => gq_g (gq_in (40 + x13) 56) (gq_l (M28 119 ((40 + x13) : Int32).toNatClampNeg) fun v30 => gq_g (gq_in (40 + x13) 56) (gq_l (gq_up M28 119 ((40 + x13) : Int32).toNatClampNeg (v30 + ((v16 - v16 / 128 * 128) * x12))) fun M32 => gq_g (gq_in x16 40) (gq_l (M32 109 x16.toNatClampNeg) fun v34 => gq_g (gq_in (16 + (v34 - v34 / 8 * 8)) 24) (gq_l (M32 121 ((16 + (v34 - v34 / 8 * 8)) : Int32).toNatClampNeg) fun v36 => gq_g (gq_in (16 + (v34 - v34 / 8 * 8)) 24) (gq_l (gq_up M32 121 ((16 + (v34 - v34 / 8 * 8)) : Int32).toNatClampNeg (v36 + ((v16 - v16 / 128 * 128) * x12))) fun M38 => f_L_costs_170 N kh45 x9 x10 x11 x12 x13 (x14 + ((v16 - v16 / 128 * 128) * x12)) (x15 + 1) x16 M38)))))))))))))))
def f_L_costs_45 (N : Nat) : Nat → Int32 → Int32 → Int32 → Int32 → Int32 → Int32 → Int32 → Int32 → gq_M → Option (Int32 × gq_M)
  | 0 => fun _ _ _ _ _ _ _ _ _ => none
  | n9 + 1 => f_L_costs_45_b N  (f_L_costs_45 N  n9)
set_option maxHeartbeats 1000000 in
set_option maxRecDepth 20000 in
theorem t_L_costs_45_b {N : Nat} {kh45 : Int32 → Int32 → Int32 → Int32 → Int32 → Int32 → Int32 → Int32 → gq_M → Option (Int32 × gq_M)} {v9 : Int32} {M9 : gq_M} (hC : gq_C p s m args meth c D A cI cZ ad mtL RL cL_costs 18) (hr : meth.sig.returnType = (some .int))  (hk45 : ∀ (x9 : Int32) (x10 : Int32) (x11 : Int32) (x12 : Int32) (x13 : Int32) (x14 : Int32) (x15 : Int32) (x16 : Int32) (M : gq_M), kh45 x9 x10 x11 x12 x13 x14 x15 x16 M = some (v9, M9) → gq_W p l e (gq_rm 2) s m args below meth c D A cI cZ ad mtL 18 (MQ below (gq_Qi D cI cZ ad mtL v9 M9 A) args s 0 0 A) 45 [(0, .ref (ad 109)), (1, .ref (ad 110)), (2, .ref (ad 111)), (3, .ref (ad 112)), (4, .ref (ad 113)), (6, .ref (ad 119)), (7, .ref (ad 121)), (9, .int x9), (10, .int x10), (11, .int x11), (12, .int x12), (13, .int x13), (14, .int x14), (15, .int x15), (16, .int x16)] [] M 0 0) : ∀ (x9 : Int32) (x10 : Int32) (x11 : Int32) (x12 : Int32) (x13 : Int32) (x14 : Int32) (x15 : Int32) (x16 : Int32) (M : gq_M), f_L_costs_45_b N  kh45 x9 x10 x11 x12 x13 x14 x15 x16 M = some (v9, M9) → gq_W p l e (gq_rm 2) s m args below meth c D A cI cZ ad mtL 18 (MQ below (gq_Qi D cI cZ ad mtL v9 M9 A) args s 0 0 A) 45 [(0, .ref (ad 109)), (1, .ref (ad 110)), (2, .ref (ad 111)), (3, .ref (ad 112)), (4, .ref (ad 113)), (6, .ref (ad 119)), (7, .ref (ad 121)), (9, .int x9), (10, .int x10), (11, .int x11), (12, .int x12), (13, .int x13), (14, .int x14), (15, .int x15), (16, .int x16)] [] M 0 0 := by
  intro x9 x10 x11 x12 x13 x14 x15 x16 M h
  unfold f_L_costs_45_b at h
  refine g_iload hC 14 rfl dL_costs_45 ?_
  refine g_aload hC 5 rfl dL_costs_47 ?_
  refine g_iconst (v := 4) hC (by decide) dL_costs_49 ?_
  obtain ⟨g7, h⟩ := gq_g_i h
  refine g_iald hC arL_119 (gq_in_i g7) dL_costs_50 ?_
  refine g_topi (fun v8 hv8 => ?_)
  replace h := gq_l_i hv8 h
  refine g_icmp_ge (tgt := 176) hC (by decide) dL_costs_51 (fun c9 => ?_) (fun c9 => ?_)
  · replace h := gq_t c9 h
    exact g_weak [12] rfl (t_L_costs_176 hC hr  x14 M h)
  · replace h := gq_f c9 h
    refine g_iload hC 13 rfl dL_costs_54 ?_
    refine g_iload hC 7 rfl dL_costs_56 ?_
    refine g_icmp_ge (tgt := 176) hC (by decide) dL_costs_58 (fun c10 => ?_) (fun c10 => ?_)
    · replace h := gq_t c10 h
      exact g_weak [12] rfl (t_L_costs_176 hC hr  x14 M h)
    · replace h := gq_f c10 h
      refine g_aload_n hC 0 rfl rfl dL_costs_61 ?_
      refine g_aload_n hC 2 rfl rfl dL_costs_62 ?_
      refine g_iload hC 14 rfl dL_costs_63 ?_
      refine g_iload hC 9 rfl dL_costs_65 ?_
      obtain ⟨v11, M13, c12, h⟩ := gq_b_i h
      refine g_Si (as := [.ref (ad 109), .ref (ad 111), .int x16, .int x11]) hC (t_L_isLeft N _ _ _ _ _ c12) mS_L_isLeft wm_L_99 rfl rfl (Nat.le_of_ble_eq_true rfl) ⟨Nat.le_of_ble_eq_true rfl, Nat.le_of_ble_eq_true rfl⟩ ⟨Nat.zero_le _, Nat.zero_le _⟩ dL_costs_67 ?_
      refine g_if_eq (tgt := 170) hC (by decide) dL_costs_70 (fun c14 => ?_) (fun c14 => ?_)
      · replace h := gq_t c14 h
        exact g_weak [0, 1, 2, 3, 4, 5, 6, 7, 8, 9, 10, 11, 12, 13, 14] rfl (t_L_costs_170 hC hr hk45 x9 x10 x11 x12 x13 x14 x15 x16 M13 h)
      · replace h := gq_f c14 h
        refine g_aload_n hC 1 rfl rfl dL_costs_73 ?_
        refine g_iload hC 14 rfl dL_costs_74 ?_
        obtain ⟨g15, h⟩ := gq_g_i h
        refine g_iald hC arL_110 (gq_in_i g15) dL_costs_76 ?_
        refine g_topi (fun v16 hv16 => ?_)
        replace h := gq_l_i hv16 h
        refine g_sipush (v := 128) hC (by decide) dL_costs_77 ?_
        refine g_irem hC (by decide) dL_costs_80 ?_
        refine g_iload hC 10 rfl dL_costs_81 ?_
        refine g_imul hC dL_costs_83 ?_
        refine g_istore (L2 := [(17, .int ((v16 - v16 / 128 * 128) * x12)), (0, .ref (ad 109)), (1, .ref (ad 110)), (2, .ref (ad 111)), (3, .ref (ad 112)), (4, .ref (ad 113)), (6, .ref (ad 119)), (7, .ref (ad 121)), (9, .int x9), (10, .int x10), (11, .int x11), (12, .int x12), (13, .int x13), (14, .int x14), (15, .int x15), (16, .int x16)]) hC (by decide) rfl dL_costs_84 ?_
        refine g_iload hC 13 rfl dL_costs_86 ?_
        refine g_iload hC 0 rfl dL_costs_88 ?_
        refine g_iadd hC dL_costs_90 ?_
        refine g_istore (L2 := [(14, .int (x14 + ((v16 - v16 / 128 * 128) * x12))), (17, .int ((v16 - v16 / 128 * 128) * x12)), (0, .ref (ad 109)), (1, .ref (ad 110)), (2, .ref (ad 111)), (3, .ref (ad 112)), (4, .ref (ad 113)), (6, .ref (ad 119)), (7, .ref (ad 121)), (9, .int x9), (10, .int x10), (11, .int x11), (12, .int x12), (13, .int x13), (15, .int x15), (16, .int x16)]) hC (by decide) rfl dL_costs_91 ?_
        refine g_iinc (v := (x15 + 1)) (L2 := [(15, .int (x15 + 1)), (14, .int (x14 + ((v16 - v16 / 128 * 128) * x12))), (17, .int ((v16 - v16 / 128 * 128) * x12)), (0, .ref (ad 109)), (1, .ref (ad 110)), (2, .ref (ad 111)), (3, .ref (ad 112)), (4, .ref (ad 113)), (6, .ref (ad 119)), (7, .ref (ad 121)), (9, .int x9), (10, .int x10), (11, .int x11), (12, .int x12), (13, .int x13), (16, .int x16)]) hC 14 rfl (by first | rfl | decide) (by decide) rfl dL_costs_93 ?_
        refine g_iload hC 11 rfl dL_costs_96 ?_
        refine g_if_eq (tgt := 170) hC (by decide) dL_costs_98 (fun c17 => ?_) (fun c17 => ?_)
        · replace h := gq_t c17 h
          exact g_weak [3, 4, 5, 6, 7, 8, 9, 10, 11, 12, 13, 14, 1, 0, 15] rfl (t_L_costs_170 hC hr hk45 x9 x10 x11 x12 x13 (x14 + ((v16 - v16 / 128 * 128) * x12)) (x15 + 1) x16 M13 h)
        · replace h := gq_f c17 h
          refine g_aload_n hC 3 rfl rfl dL_costs_101 ?_
          refine g_iload hC 15 rfl dL_costs_102 ?_
          refine g_iconst (v := 3) hC (by decide) dL_costs_104 ?_
          obtain ⟨v18, M20, c19, h⟩ := gq_b_i h
          refine g_Sv (as := [.ref (ad 109), .int x16, .int 3]) hC (t_L_becomes N _ _ _ _ _ c19) mS_L_becomes wm_L_107 rfl rfl (Nat.le_of_ble_eq_true rfl) ⟨Nat.le_of_ble_eq_true rfl, Nat.le_of_ble_eq_true rfl⟩ ⟨Nat.zero_le _, Nat.zero_le _⟩ dL_costs_105 ?_
          refine g_aload_n hC 6 rfl rfl dL_costs_108 ?_
          refine g_iload hC 15 rfl dL_costs_109 ?_
          refine g_iload hC 14 rfl dL_costs_111 ?_
          refine g_iconst (v := 1) hC (by decide) dL_costs_113 ?_
          refine g_iadd hC dL_costs_114 ?_
          refine g_bipush (v := 16) hC (by decide) dL_costs_115 ?_
          refine g_iload hC 13 rfl dL_costs_117 ?_
          refine g_imul hC dL_costs_119 ?_
          refine g_iadd hC dL_costs_120 ?_
          obtain ⟨g21, h⟩ := gq_g_i h
          refine g_iast hC arL_112 (gq_in_i g21) dL_costs_121 ?_
          refine g_topM (fun M22 hM22 => ?_)
          replace h := gq_l_i hM22 h
          refine g_aload hC 7 rfl dL_costs_122 ?_
          refine g_iload hC 15 rfl dL_costs_124 ?_
          refine g_aload hC 8 rfl dL_costs_126 ?_
          refine g_iconst (v := 0) hC (by decide) dL_costs_128 ?_
          obtain ⟨g23, h⟩ := gq_g_i h
          refine g_iald hC arL_119 (gq_in_i g23) dL_costs_129 ?_
          refine g_topi (fun v24 hv24 => ?_)
          replace h := gq_l_i hv24 h
          refine g_ldc (v := 131072) hC wk_L_115 dL_costs_130 ?_
          refine g_aload hC 8 rfl dL_costs_132 ?_
          refine g_iconst (v := 1) hC (by decide) dL_costs_134 ?_
          obtain ⟨g25, h⟩ := gq_g_i h
          refine g_iald hC arL_119 (gq_in_i g25) dL_costs_135 ?_
          refine g_topi (fun v26 hv26 => ?_)
          replace h := gq_l_i hv26 h
          refine g_imul hC dL_costs_136 ?_
          refine g_iadd hC dL_costs_137 ?_
          obtain ⟨g27, h⟩ := gq_g_i h
          refine g_iast hC arL_113 (gq_in_i g27) dL_costs_138 ?_
          refine g_topM (fun M28 hM28 => ?_)
          replace h := gq_l_i hM28 h
          refine g_aload hC 8 rfl dL_costs_139 ?_
          refine g_bipush (v := 40) hC (by decide) dL_costs_141 ?_
          refine g_iload hC 14 rfl dL_costs_143 ?_
          refine g_iadd hC dL_costs_145 ?_
          refine g_dup2 hC rfl rfl dL_costs_146 ?_
          obtain ⟨g29, h⟩ := gq_g_i h
          refine g_iald hC arL_119 (gq_in_i g29) dL_costs_147 ?_
          refine g_topi (fun v30 hv30 => ?_)
          replace h := gq_l_i hv30 h
          refine g_iload hC 2 rfl dL_costs_148 ?_
          refine g_iadd hC dL_costs_150 ?_
          obtain ⟨g31, h⟩ := gq_g_i h
          refine g_iast hC arL_119 (gq_in_i g31) dL_costs_151 ?_
          refine g_topM (fun M32 hM32 => ?_)
          replace h := gq_l_i hM32 h
          refine g_aload hC 9 rfl dL_costs_152 ?_
          refine g_bipush (v := 16) hC (by decide) dL_costs_154 ?_
          refine g_aload_n hC 3 rfl rfl dL_costs_156 ?_
          refine g_iload hC 15 rfl dL_costs_157 ?_
          obtain ⟨g33, h⟩ := gq_g_i h
          refine g_iald hC arL_109 (gq_in_i g33) dL_costs_159 ?_
          refine g_topi (fun v34 hv34 => ?_)
          replace h := gq_l_i hv34 h
          refine g_bipush (v := 8) hC (by decide) dL_costs_160 ?_
          refine g_irem hC (by decide) dL_costs_162 ?_
          refine g_iadd hC dL_costs_163 ?_
          refine g_dup2 hC rfl rfl dL_costs_164 ?_
          obtain ⟨g35, h⟩ := gq_g_i h
          refine g_iald hC arL_121 (gq_in_i g35) dL_costs_165 ?_
          refine g_topi (fun v36 hv36 => ?_)
          replace h := gq_l_i hv36 h
          refine g_iload hC 2 rfl dL_costs_166 ?_
          refine g_iadd hC dL_costs_168 ?_
          obtain ⟨g37, h⟩ := gq_g_i h
          refine g_iast hC arL_121 (gq_in_i g37) dL_costs_169 ?_
          refine g_topM (fun M38 hM38 => ?_)
          replace h := gq_l_i hM38 h
          exact g_weak [3, 4, 5, 6, 7, 8, 9, 10, 11, 12, 13, 14, 1, 0, 15] rfl (t_L_costs_170 hC hr hk45 x9 x10 x11 x12 x13 (x14 + ((v16 - v16 / 128 * 128) * x12)) (x15 + 1) x16 M38 h)
theorem t_L_costs_45 {N : Nat} {v9 : Int32} {M9 : gq_M} (hC : gq_C p s m args meth c D A cI cZ ad mtL RL cL_costs 18) (hr : meth.sig.returnType = (some .int))  : ∀ (n9 : Nat) (x9 : Int32) (x10 : Int32) (x11 : Int32) (x12 : Int32) (x13 : Int32) (x14 : Int32) (x15 : Int32) (x16 : Int32) (M : gq_M), f_L_costs_45 N  n9 x9 x10 x11 x12 x13 x14 x15 x16 M = some (v9, M9) → gq_W p l e (gq_rm 2) s m args below meth c D A cI cZ ad mtL 18 (MQ below (gq_Qi D cI cZ ad mtL v9 M9 A) args s 0 0 A) 45 [(0, .ref (ad 109)), (1, .ref (ad 110)), (2, .ref (ad 111)), (3, .ref (ad 112)), (4, .ref (ad 113)), (6, .ref (ad 119)), (7, .ref (ad 121)), (9, .int x9), (10, .int x10), (11, .int x11), (12, .int x12), (13, .int x13), (14, .int x14), (15, .int x15), (16, .int x16)] [] M 0 0 := by
  intro n9
  induction n9 with
  | zero => intro x9 x10 x11 x12 x13 x14 x15 x16 M h; cases h
  | succ n9 ih => intro x9 x10 x11 x12 x13 x14 x15 x16 M h; exact t_L_costs_45_b hC hr  ih x9 x10 x11 x12 x13 x14 x15 x16 M h
def f_L_costs (N : Nat) (a8 : Int32) (a9 : Int32) (a10 : Int32) (M : gq_M) : Option (Int32 × gq_M) :=
  gq_g (gq_in ((8 * a8) + 1) 24) (gq_l (M 115 (((8 * a8) + 1) : Int32).toNatClampNeg) fun v2 => gq_g (gq_in ((8 * a8) + 2) 24) (gq_l (M 115 (((8 * a8) + 2) : Int32).toNatClampNeg) fun v4 => gq_g (gq_in ((8 * a8) + 4) 24) (gq_l (M 115 (((8 * a8) + 4) : Int32).toNatClampNeg) fun v6 => f_L_costs_45 N  N a9 a10 v2 v4 v6 0 0 0 M)))
set_option maxHeartbeats 1000000 in
set_option maxRecDepth 20000 in
theorem t_L_costs {l : Launch} {D : va_G} {cI cZ : ClassId} {ad : Nat → Nat} (N : Nat) (a8 : Int32) (a9 : Int32) (a10 : Int32) (M : gq_M) (v9 : Int32) (M9 : gq_M) (h : f_L_costs N a8 a9 a10 M = some (v9, M9)) : gq_Ci l D cI cZ ad mtL yL_costs cL_costs 18 (some .int) 2 [.ref (ad 109), .ref (ad 110), .ref (ad 111), .ref (ad 112), .ref (ad 113), .ref (ad 115), .ref (ad 119), .ref (ad 121), .int a8, .int a9, .int a10] M v9 M9 := by
  refine gq_introI (own := RL) (by decide) rfl (Nat.le_of_ble_eq_true rfl) ?_
  intro p e s m below meth c hC hr
  refine g_cast (L2 := [(0, .ref (ad 109)), (1, .ref (ad 110)), (2, .ref (ad 111)), (3, .ref (ad 112)), (4, .ref (ad 113)), (5, .ref (ad 115)), (6, .ref (ad 119)), (7, .ref (ad 121)), (8, .int a8), (9, .int a9), (10, .int a10)]) ?_ rfl rfl rfl rfl
  unfold f_L_costs at h
  refine g_aload hC 5 rfl dL_costs_0 ?_
  refine g_bipush (v := 8) hC (by decide) dL_costs_2 ?_
  refine g_iload hC 8 rfl dL_costs_4 ?_
  refine g_imul hC dL_costs_6 ?_
  refine g_iconst (v := 1) hC (by decide) dL_costs_7 ?_
  refine g_iadd hC dL_costs_8 ?_
  obtain ⟨g1, h⟩ := gq_g_i h
  refine g_iald hC arL_115 (gq_in_i g1) dL_costs_9 ?_
  refine g_topi (fun v2 hv2 => ?_)
  replace h := gq_l_i hv2 h
  refine g_istore (L2 := [(11, .int v2), (0, .ref (ad 109)), (1, .ref (ad 110)), (2, .ref (ad 111)), (3, .ref (ad 112)), (4, .ref (ad 113)), (5, .ref (ad 115)), (6, .ref (ad 119)), (7, .ref (ad 121)), (8, .int a8), (9, .int a9), (10, .int a10)]) hC (by decide) rfl dL_costs_10 ?_
  refine g_aload hC 6 rfl dL_costs_12 ?_
  refine g_bipush (v := 8) hC (by decide) dL_costs_14 ?_
  refine g_iload hC 9 rfl dL_costs_16 ?_
  refine g_imul hC dL_costs_18 ?_
  refine g_iconst (v := 2) hC (by decide) dL_costs_19 ?_
  refine g_iadd hC dL_costs_20 ?_
  obtain ⟨g3, h⟩ := gq_g_i h
  refine g_iald hC arL_115 (gq_in_i g3) dL_costs_21 ?_
  refine g_topi (fun v4 hv4 => ?_)
  replace h := gq_l_i hv4 h
  refine g_istore (L2 := [(12, .int v4), (11, .int v2), (0, .ref (ad 109)), (1, .ref (ad 110)), (2, .ref (ad 111)), (3, .ref (ad 112)), (4, .ref (ad 113)), (5, .ref (ad 115)), (6, .ref (ad 119)), (7, .ref (ad 121)), (8, .int a8), (9, .int a9), (10, .int a10)]) hC (by decide) rfl dL_costs_22 ?_
  refine g_aload hC 7 rfl dL_costs_24 ?_
  refine g_bipush (v := 8) hC (by decide) dL_costs_26 ?_
  refine g_iload hC 10 rfl dL_costs_28 ?_
  refine g_imul hC dL_costs_30 ?_
  refine g_iconst (v := 4) hC (by decide) dL_costs_31 ?_
  refine g_iadd hC dL_costs_32 ?_
  obtain ⟨g5, h⟩ := gq_g_i h
  refine g_iald hC arL_115 (gq_in_i g5) dL_costs_33 ?_
  refine g_topi (fun v6 hv6 => ?_)
  replace h := gq_l_i hv6 h
  refine g_istore (L2 := [(13, .int v6), (12, .int v4), (11, .int v2), (0, .ref (ad 109)), (1, .ref (ad 110)), (2, .ref (ad 111)), (3, .ref (ad 112)), (4, .ref (ad 113)), (5, .ref (ad 115)), (6, .ref (ad 119)), (7, .ref (ad 121)), (8, .int a8), (9, .int a9), (10, .int a10)]) hC (by decide) rfl dL_costs_34 ?_
  refine g_iconst (v := 0) hC (by decide) dL_costs_36 ?_
  refine g_istore (L2 := [(14, .int 0), (13, .int v6), (12, .int v4), (11, .int v2), (0, .ref (ad 109)), (1, .ref (ad 110)), (2, .ref (ad 111)), (3, .ref (ad 112)), (4, .ref (ad 113)), (5, .ref (ad 115)), (6, .ref (ad 119)), (7, .ref (ad 121)), (8, .int a8), (9, .int a9), (10, .int a10)]) hC (by decide) rfl dL_costs_37 ?_
  refine g_iconst (v := 0) hC (by decide) dL_costs_39 ?_
  refine g_istore (L2 := [(15, .int 0), (14, .int 0), (13, .int v6), (12, .int v4), (11, .int v2), (0, .ref (ad 109)), (1, .ref (ad 110)), (2, .ref (ad 111)), (3, .ref (ad 112)), (4, .ref (ad 113)), (5, .ref (ad 115)), (6, .ref (ad 119)), (7, .ref (ad 121)), (8, .int a8), (9, .int a9), (10, .int a10)]) hC (by decide) rfl dL_costs_40 ?_
  refine g_iconst (v := 0) hC (by decide) dL_costs_42 ?_
  refine g_istore (L2 := [(16, .int 0), (15, .int 0), (14, .int 0), (13, .int v6), (12, .int v4), (11, .int v2), (0, .ref (ad 109)), (1, .ref (ad 110)), (2, .ref (ad 111)), (3, .ref (ad 112)), (4, .ref (ad 113)), (5, .ref (ad 115)), (6, .ref (ad 119)), (7, .ref (ad 121)), (8, .int a8), (9, .int a9), (10, .int a10)]) hC (by decide) rfl dL_costs_43 ?_
  exact g_weak [6, 7, 8, 9, 10, 12, 13, 15, 16, 5, 4, 3, 2, 1, 0] rfl (t_L_costs_45 hC hr  N a9 a10 v2 v4 v6 0 0 0 M h)
def f_L_goesOn (N : Nat) (a6 : Int32) (M : gq_M) : Option (Int32 × gq_M) :=
  gq_g (gq_in ((8 * a6) + 1) 24) (gq_l (M 115 (((8 * a6) + 1) : Int32).toNatClampNeg) fun v2 => gq_b (f_L_left N v2 M) fun v3 M5 => if v3 = 0 then (gq_b (f_L_done N a6 M5) fun v14 M16 => some (0, M16)) else (gq_g (gq_in (8 * a6) 24) (gq_l (gq_up M5 115 ((8 * a6) : Int32).toNatClampNeg 1) fun M8 => gq_g (gq_in ((8 * a6) + 4) 24) (gq_l (gq_up M8 115 (((8 * a6) + 4) : Int32).toNatClampNeg (-1)) fun M10 => gq_b (f_L_begins N a6 M10) fun v11 M13 => some (0, M13)))))
set_option maxHeartbeats 1000000 in
set_option maxRecDepth 20000 in
theorem t_L_goesOn {l : Launch} {D : va_G} {cI cZ : ClassId} {ad : Nat → Nat} (N : Nat) (a6 : Int32) (M : gq_M) (v9 : Int32) (M9 : gq_M) (h : f_L_goesOn N a6 M = some (v9, M9)) : gq_Cv l D cI cZ ad mtL yL_goesOn cL_goesOn 7 3 [.ref (ad 109), .ref (ad 111), .ref (ad 114), .ref (ad 115), .ref (ad 116), .ref (ad 119), .int a6] M M9 := by
  refine gq_introV (own := RL) (by decide) rfl (Nat.le_of_ble_eq_true rfl) ?_
  intro p e s m below meth c hC hr
  refine g_cast (L2 := [(0, .ref (ad 109)), (1, .ref (ad 111)), (2, .ref (ad 114)), (3, .ref (ad 115)), (4, .ref (ad 116)), (5, .ref (ad 119)), (6, .int a6)]) ?_ rfl rfl rfl rfl
  unfold f_L_goesOn at h
  refine g_aload_n hC 0 rfl rfl dL_goesOn_0 ?_
  refine g_aload_n hC 1 rfl rfl dL_goesOn_1 ?_
  refine g_aload hC 5 rfl dL_goesOn_2 ?_
  refine g_aload_n hC 3 rfl rfl dL_goesOn_4 ?_
  refine g_bipush (v := 8) hC (by decide) dL_goesOn_5 ?_
  refine g_iload hC 6 rfl dL_goesOn_7 ?_
  refine g_imul hC dL_goesOn_9 ?_
  refine g_iconst (v := 1) hC (by decide) dL_goesOn_10 ?_
  refine g_iadd hC dL_goesOn_11 ?_
  obtain ⟨g1, h⟩ := gq_g_i h
  refine g_iald hC arL_115 (gq_in_i g1) dL_goesOn_12 ?_
  refine g_topi (fun v2 hv2 => ?_)
  replace h := gq_l_i hv2 h
  obtain ⟨v3, M5, c4, h⟩ := gq_b_i h
  refine g_Si (as := [.ref (ad 109), .ref (ad 111), .ref (ad 119), .int v2]) hC (t_L_left N _ _ _ _ c4) mS_L_left wm_L_116 rfl rfl (Nat.le_of_ble_eq_true rfl) ⟨Nat.le_of_ble_eq_true rfl, Nat.le_of_ble_eq_true rfl⟩ ⟨Nat.zero_le _, Nat.zero_le _⟩ dL_goesOn_13 ?_
  refine g_if_ne (tgt := 33) hC (by decide) dL_goesOn_16 (fun c6 => ?_) (fun c6 => ?_)
  · replace h := gq_f c6 h
    refine g_aload_n hC 3 rfl rfl dL_goesOn_33 ?_
    refine g_bipush (v := 8) hC (by decide) dL_goesOn_34 ?_
    refine g_iload hC 6 rfl dL_goesOn_36 ?_
    refine g_imul hC dL_goesOn_38 ?_
    refine g_iconst (v := 1) hC (by decide) dL_goesOn_39 ?_
    obtain ⟨g7, h⟩ := gq_g_i h
    refine g_iast hC arL_115 (gq_in_i g7) dL_goesOn_40 ?_
    refine g_topM (fun M8 hM8 => ?_)
    replace h := gq_l_i hM8 h
    refine g_aload_n hC 3 rfl rfl dL_goesOn_41 ?_
    refine g_bipush (v := 8) hC (by decide) dL_goesOn_42 ?_
    refine g_iload hC 6 rfl dL_goesOn_44 ?_
    refine g_imul hC dL_goesOn_46 ?_
    refine g_iconst (v := 4) hC (by decide) dL_goesOn_47 ?_
    refine g_iadd hC dL_goesOn_48 ?_
    refine g_iconst (v := (-1)) hC (by decide) dL_goesOn_49 ?_
    obtain ⟨g9, h⟩ := gq_g_i h
    refine g_iast hC arL_115 (gq_in_i g9) dL_goesOn_50 ?_
    refine g_topM (fun M10 hM10 => ?_)
    replace h := gq_l_i hM10 h
    refine g_aload hC 4 rfl dL_goesOn_51 ?_
    refine g_iload hC 6 rfl dL_goesOn_53 ?_
    obtain ⟨v11, M13, c12, h⟩ := gq_b_i h
    refine g_Sv (as := [.ref (ad 116), .int a6]) hC (t_L_begins N _ _ _ _ c12) mS_L_begins wm_L_103 rfl rfl (Nat.le_of_ble_eq_true rfl) ⟨Nat.le_of_ble_eq_true rfl, Nat.le_of_ble_eq_true rfl⟩ ⟨Nat.zero_le _, Nat.zero_le _⟩ dL_goesOn_55 ?_
    exact g_vrets hC hr h dL_goesOn_58
  · replace h := gq_t c6 h
    refine g_aload_n hC 2 rfl rfl dL_goesOn_19 ?_
    refine g_aload_n hC 3 rfl rfl dL_goesOn_20 ?_
    refine g_aload hC 4 rfl dL_goesOn_21 ?_
    refine g_aload hC 5 rfl dL_goesOn_23 ?_
    refine g_iload hC 6 rfl dL_goesOn_25 ?_
    obtain ⟨v14, M16, c15, h⟩ := gq_b_i h
    refine g_Sv (as := [.ref (ad 114), .ref (ad 115), .ref (ad 116), .ref (ad 119), .int a6]) hC (t_L_done N _ _ _ _ c15) mS_L_done wm_L_120 rfl rfl (Nat.le_of_ble_eq_true rfl) ⟨Nat.le_of_ble_eq_true rfl, Nat.le_of_ble_eq_true rfl⟩ ⟨Nat.zero_le _, Nat.zero_le _⟩ dL_goesOn_27 ?_
    refine g_goto (tgt := 58) hC (by decide) dL_goesOn_30 ?_
    exact g_vrets hC hr h dL_goesOn_58
def f_L_hears_89 (N : Nat) (kh10 : Int32 → Int32 → Int32 → gq_M → Option (Int32 × gq_M)) (x4 : Int32) (x6 : Int32) (s0 : Int32) (M : gq_M) : Option (Int32 × gq_M) :=
  kh10 x4 s0 (x6 + 1) M
set_option maxHeartbeats 1000000 in
set_option maxRecDepth 20000 in
theorem t_L_hears_89 {N : Nat} {kh10 : Int32 → Int32 → Int32 → gq_M → Option (Int32 × gq_M)} {v9 : Int32} {M9 : gq_M} (hC : gq_C p s m args meth c D A cI cZ ad mtL RL cL_hears 8) (hr : meth.sig.returnType = (some .boolean)) (hk10 : ∀ (x4 : Int32) (x5 : Int32) (x6 : Int32) (M : gq_M), kh10 x4 x5 x6 M = some (v9, M9) → gq_W p l e (gq_rm 0) s m args below meth c D A cI cZ ad mtL 8 (MQ below (gq_Qi D cI cZ ad mtL v9 M9 A) args s 0 0 A) 10 [(0, .ref (ad 116)), (1, .ref (ad 117)), (2, .ref (ad 118)), (3, .ref (ad 119)), (4, .int x4), (5, .int x5), (6, .int x6)] [] M 0 0)  : ∀ (x4 : Int32) (x6 : Int32) (s0 : Int32) (M : gq_M), f_L_hears_89 N kh10 x4 x6 s0 M = some (v9, M9) → gq_W p l e (gq_rm 0) s m args below meth c D A cI cZ ad mtL 8 (MQ below (gq_Qi D cI cZ ad mtL v9 M9 A) args s 0 0 A) 89 [(0, .ref (ad 116)), (1, .ref (ad 117)), (2, .ref (ad 118)), (3, .ref (ad 119)), (4, .int x4), (6, .int x6)] [.int s0] M 0 0 := by
  intro x4 x6 s0 M h
  unfold f_L_hears_89 at h
  refine g_istore (L2 := [(5, .int s0), (0, .ref (ad 116)), (1, .ref (ad 117)), (2, .ref (ad 118)), (3, .ref (ad 119)), (4, .int x4), (6, .int x6)]) hC (by decide) rfl dL_hears_89 ?_
  refine g_iinc (v := (x6 + 1)) (L2 := [(6, .int (x6 + 1)), (5, .int s0), (0, .ref (ad 116)), (1, .ref (ad 117)), (2, .ref (ad 118)), (3, .ref (ad 119)), (4, .int x4)]) hC 6 rfl (by first | rfl | decide) (by decide) rfl dL_hears_91 ?_
  refine g_goto (tgt := 10) hC (by decide) dL_hears_94 ?_
  exact g_weak [2, 3, 4, 5, 6, 1, 0] rfl (hk10 x4 s0 (x6 + 1) M h)
def f_L_hears_84 (N : Nat) (kh10 : Int32 → Int32 → Int32 → gq_M → Option (Int32 × gq_M)) (x4 : Int32) (x6 : Int32) (M : gq_M) : Option (Int32 × gq_M) :=
  f_L_hears_89 N kh10 x4 x6 1 M
set_option maxHeartbeats 1000000 in
set_option maxRecDepth 20000 in
theorem t_L_hears_84 {N : Nat} {kh10 : Int32 → Int32 → Int32 → gq_M → Option (Int32 × gq_M)} {v9 : Int32} {M9 : gq_M} (hC : gq_C p s m args meth c D A cI cZ ad mtL RL cL_hears 8) (hr : meth.sig.returnType = (some .boolean)) (hk10 : ∀ (x4 : Int32) (x5 : Int32) (x6 : Int32) (M : gq_M), kh10 x4 x5 x6 M = some (v9, M9) → gq_W p l e (gq_rm 0) s m args below meth c D A cI cZ ad mtL 8 (MQ below (gq_Qi D cI cZ ad mtL v9 M9 A) args s 0 0 A) 10 [(0, .ref (ad 116)), (1, .ref (ad 117)), (2, .ref (ad 118)), (3, .ref (ad 119)), (4, .int x4), (5, .int x5), (6, .int x6)] [] M 0 0)  : ∀ (x4 : Int32) (x6 : Int32) (M : gq_M), f_L_hears_84 N kh10 x4 x6 M = some (v9, M9) → gq_W p l e (gq_rm 0) s m args below meth c D A cI cZ ad mtL 8 (MQ below (gq_Qi D cI cZ ad mtL v9 M9 A) args s 0 0 A) 84 [(0, .ref (ad 116)), (1, .ref (ad 117)), (2, .ref (ad 118)), (3, .ref (ad 119)), (4, .int x4), (6, .int x6)] [] M 0 0 := by
  intro x4 x6 M h
  unfold f_L_hears_84 at h
  refine g_iconst (v := 1) hC (by decide) dL_hears_84 ?_
  refine g_goto (tgt := 89) hC (by decide) dL_hears_85 ?_
  exact g_weak [0, 1, 2, 3, 4, 5] rfl (t_L_hears_89 hC hr hk10 x4 x6 1 M h)
def f_L_hears_72 (N : Nat) (kh10 : Int32 → Int32 → Int32 → gq_M → Option (Int32 × gq_M)) (x4 : Int32) (x5 : Int32) (x6 : Int32) (x7 : Int32) (s1 : Int32) (s2 : Int32) (s3 : Int32) (M : gq_M) : Option (Int32 × gq_M) :=
  gq_g (gq_in s1 24) (gq_l (gq_up M 118 s1.toNatClampNeg (s2 + s3)) fun M18 => if x5 = 0 then (if x7 = 0 then (f_L_hears_89 N kh10 x4 x6 0 M18) else (f_L_hears_84 N kh10 x4 x6 M18)) else (f_L_hears_84 N kh10 x4 x6 M18))
set_option maxHeartbeats 1000000 in
set_option maxRecDepth 20000 in
theorem t_L_hears_72 {N : Nat} {kh10 : Int32 → Int32 → Int32 → gq_M → Option (Int32 × gq_M)} {v9 : Int32} {M9 : gq_M} (hC : gq_C p s m args meth c D A cI cZ ad mtL RL cL_hears 8) (hr : meth.sig.returnType = (some .boolean)) (hk10 : ∀ (x4 : Int32) (x5 : Int32) (x6 : Int32) (M : gq_M), kh10 x4 x5 x6 M = some (v9, M9) → gq_W p l e (gq_rm 0) s m args below meth c D A cI cZ ad mtL 8 (MQ below (gq_Qi D cI cZ ad mtL v9 M9 A) args s 0 0 A) 10 [(0, .ref (ad 116)), (1, .ref (ad 117)), (2, .ref (ad 118)), (3, .ref (ad 119)), (4, .int x4), (5, .int x5), (6, .int x6)] [] M 0 0)  : ∀ (x4 : Int32) (x5 : Int32) (x6 : Int32) (x7 : Int32) (s1 : Int32) (s2 : Int32) (s3 : Int32) (M : gq_M), f_L_hears_72 N kh10 x4 x5 x6 x7 s1 s2 s3 M = some (v9, M9) → gq_W p l e (gq_rm 0) s m args below meth c D A cI cZ ad mtL 8 (MQ below (gq_Qi D cI cZ ad mtL v9 M9 A) args s 0 0 A) 72 [(0, .ref (ad 116)), (1, .ref (ad 117)), (2, .ref (ad 118)), (3, .ref (ad 119)), (4, .int x4), (5, .int x5), (6, .int x6), (7, .int x7)] [.int s3, .int s2, .int s1, .ref (ad 118)] M 0 0 := by
  intro x4 x5 x6 x7 s1 s2 s3 M h
  unfold f_L_hears_72 at h
  refine g_iadd hC dL_hears_72 ?_
  obtain ⟨g17, h⟩ := gq_g_i h
  refine g_iast hC arL_118 (gq_in_i g17) dL_hears_73 ?_
  refine g_topM (fun M18 hM18 => ?_)
  replace h := gq_l_i hM18 h
  refine g_iload hC 5 rfl dL_hears_74 ?_
  refine g_if_ne (tgt := 84) hC (by decide) dL_hears_76 (fun c19 => ?_) (fun c19 => ?_)
  · replace h := gq_f c19 h
    exact g_weak [0, 1, 2, 3, 4, 6] rfl (t_L_hears_84 hC hr hk10 x4 x6 M18 h)
  · replace h := gq_t c19 h
    refine g_iload hC 7 rfl dL_hears_79 ?_
    refine g_if_eq (tgt := 88) hC (by decide) dL_hears_81 (fun c20 => ?_) (fun c20 => ?_)
    · replace h := gq_t c20 h
      refine g_iconst (v := 0) hC (by decide) dL_hears_88 ?_
      exact g_weak [0, 1, 2, 3, 4, 6] rfl (t_L_hears_89 hC hr hk10 x4 x6 0 M18 h)
    · replace h := gq_f c20 h
      exact g_weak [0, 1, 2, 3, 4, 6] rfl (t_L_hears_84 hC hr hk10 x4 x6 M18 h)
def f_L_hears_54 (N : Nat) (kh10 : Int32 → Int32 → Int32 → gq_M → Option (Int32 × gq_M)) (x4 : Int32) (x5 : Int32) (x6 : Int32) (s0 : Int32) (M : gq_M) : Option (Int32 × gq_M) :=
  gq_g (gq_in x6 24) (gq_l (M 118 x6.toNatClampNeg) fun v15 => if s0 = 0 then (f_L_hears_72 N kh10 x4 x5 x6 s0 x6 v15 0 M) else (f_L_hears_72 N kh10 x4 x5 x6 s0 x6 v15 65536 M))
set_option maxHeartbeats 1000000 in
set_option maxRecDepth 20000 in
theorem t_L_hears_54 {N : Nat} {kh10 : Int32 → Int32 → Int32 → gq_M → Option (Int32 × gq_M)} {v9 : Int32} {M9 : gq_M} (hC : gq_C p s m args meth c D A cI cZ ad mtL RL cL_hears 8) (hr : meth.sig.returnType = (some .boolean)) (hk10 : ∀ (x4 : Int32) (x5 : Int32) (x6 : Int32) (M : gq_M), kh10 x4 x5 x6 M = some (v9, M9) → gq_W p l e (gq_rm 0) s m args below meth c D A cI cZ ad mtL 8 (MQ below (gq_Qi D cI cZ ad mtL v9 M9 A) args s 0 0 A) 10 [(0, .ref (ad 116)), (1, .ref (ad 117)), (2, .ref (ad 118)), (3, .ref (ad 119)), (4, .int x4), (5, .int x5), (6, .int x6)] [] M 0 0)  : ∀ (x4 : Int32) (x5 : Int32) (x6 : Int32) (s0 : Int32) (M : gq_M), f_L_hears_54 N kh10 x4 x5 x6 s0 M = some (v9, M9) → gq_W p l e (gq_rm 0) s m args below meth c D A cI cZ ad mtL 8 (MQ below (gq_Qi D cI cZ ad mtL v9 M9 A) args s 0 0 A) 54 [(0, .ref (ad 116)), (1, .ref (ad 117)), (2, .ref (ad 118)), (3, .ref (ad 119)), (4, .int x4), (5, .int x5), (6, .int x6)] [.int s0] M 0 0 := by
  intro x4 x5 x6 s0 M h
  unfold f_L_hears_54 at h
  refine g_istore (L2 := [(7, .int s0), (0, .ref (ad 116)), (1, .ref (ad 117)), (2, .ref (ad 118)), (3, .ref (ad 119)), (4, .int x4), (5, .int x5), (6, .int x6)]) hC (by decide) rfl dL_hears_54 ?_
  refine g_aload_n hC 3 rfl rfl dL_hears_56 ?_
  refine g_iload hC 7 rfl dL_hears_57 ?_
  refine g_dup2 hC rfl rfl dL_hears_59 ?_
  obtain ⟨g14, h⟩ := gq_g_i h
  refine g_iald hC arL_118 (gq_in_i g14) dL_hears_60 ?_
  refine g_topi (fun v15 hv15 => ?_)
  replace h := gq_l_i hv15 h
  refine g_iload hC 0 rfl dL_hears_61 ?_
  refine g_if_eq (tgt := 71) hC (by decide) dL_hears_63 (fun c16 => ?_) (fun c16 => ?_)
  · replace h := gq_t c16 h
    refine g_iconst (v := 0) hC (by decide) dL_hears_71 ?_
    exact g_weak [1, 2, 3, 4, 5, 6, 7, 0] rfl (t_L_hears_72 hC hr hk10 x4 x5 x6 s0 x6 v15 0 M h)
  · replace h := gq_f c16 h
    refine g_ldc (v := 65536) hC wk_L_123 dL_hears_66 ?_
    refine g_goto (tgt := 72) hC (by decide) dL_hears_68 ?_
    exact g_weak [1, 2, 3, 4, 5, 6, 7, 0] rfl (t_L_hears_72 hC hr hk10 x4 x5 x6 s0 x6 v15 65536 M h)
def f_L_hears_53 (N : Nat) (kh10 : Int32 → Int32 → Int32 → gq_M → Option (Int32 × gq_M)) (x4 : Int32) (x5 : Int32) (x6 : Int32) (M : gq_M) : Option (Int32 × gq_M) :=
  f_L_hears_54 N kh10 x4 x5 x6 0 M
set_option maxHeartbeats 1000000 in
set_option maxRecDepth 20000 in
theorem t_L_hears_53 {N : Nat} {kh10 : Int32 → Int32 → Int32 → gq_M → Option (Int32 × gq_M)} {v9 : Int32} {M9 : gq_M} (hC : gq_C p s m args meth c D A cI cZ ad mtL RL cL_hears 8) (hr : meth.sig.returnType = (some .boolean)) (hk10 : ∀ (x4 : Int32) (x5 : Int32) (x6 : Int32) (M : gq_M), kh10 x4 x5 x6 M = some (v9, M9) → gq_W p l e (gq_rm 0) s m args below meth c D A cI cZ ad mtL 8 (MQ below (gq_Qi D cI cZ ad mtL v9 M9 A) args s 0 0 A) 10 [(0, .ref (ad 116)), (1, .ref (ad 117)), (2, .ref (ad 118)), (3, .ref (ad 119)), (4, .int x4), (5, .int x5), (6, .int x6)] [] M 0 0)  : ∀ (x4 : Int32) (x5 : Int32) (x6 : Int32) (M : gq_M), f_L_hears_53 N kh10 x4 x5 x6 M = some (v9, M9) → gq_W p l e (gq_rm 0) s m args below meth c D A cI cZ ad mtL 8 (MQ below (gq_Qi D cI cZ ad mtL v9 M9 A) args s 0 0 A) 53 [(0, .ref (ad 116)), (1, .ref (ad 117)), (2, .ref (ad 118)), (3, .ref (ad 119)), (4, .int x4), (5, .int x5), (6, .int x6)] [] M 0 0 := by
  intro x4 x5 x6 M h
  unfold f_L_hears_53 at h
  refine g_iconst (v := 0) hC (by decide) dL_hears_53 ?_
  exact g_weak [0, 1, 2, 3, 4, 5, 6] rfl (t_L_hears_54 hC hr hk10 x4 x5 x6 0 M h)
def f_L_hears_10_b (N : Nat) (kh10 : Int32 → Int32 → Int32 → gq_M → Option (Int32 × gq_M)) (x4 : Int32) (x5 : Int32) (x6 : Int32) (M : gq_M) : Option (Int32 × gq_M) :=
  if ((8 * x4) + 8) ≤ x6 then (gq_g (gq_bb x5) (some (x5, M))) else (gq_g (gq_in x6 24) (gq_l (M 116 x6.toNatClampNeg) fun v4 => if v4 < 0 then (f_L_hears_53 N kh10 x4 x5 x6 M) else (gq_g (gq_in x6 24) (gq_l (M 118 x6.toNatClampNeg) fun v7 => if 65536 ≤ v7 then (f_L_hears_53 N kh10 x4 x5 x6 M) else (gq_g (gq_in x6 24) (gq_l (M 117 x6.toNatClampNeg) fun v10 => gq_g (gq_in 0 56) (gq_l (M 119 (0 : Int32).toNatClampNeg) fun v12 => if v12 < v10 then (f_L_hears_53 N kh10 x4 x5 x6 M) else (f_L_hears_54 N kh10 x4 x5 x6 1 M))))))))
def f_L_hears_10 (N : Nat) : Nat → Int32 → Int32 → Int32 → gq_M → Option (Int32 × gq_M)
  | 0 => fun _ _ _ _ => none
  | n9 + 1 => f_L_hears_10_b N  (f_L_hears_10 N  n9)
set_option maxHeartbeats 1000000 in
set_option maxRecDepth 20000 in
theorem t_L_hears_10_b {N : Nat} {kh10 : Int32 → Int32 → Int32 → gq_M → Option (Int32 × gq_M)} {v9 : Int32} {M9 : gq_M} (hC : gq_C p s m args meth c D A cI cZ ad mtL RL cL_hears 8) (hr : meth.sig.returnType = (some .boolean))  (hk10 : ∀ (x4 : Int32) (x5 : Int32) (x6 : Int32) (M : gq_M), kh10 x4 x5 x6 M = some (v9, M9) → gq_W p l e (gq_rm 0) s m args below meth c D A cI cZ ad mtL 8 (MQ below (gq_Qi D cI cZ ad mtL v9 M9 A) args s 0 0 A) 10 [(0, .ref (ad 116)), (1, .ref (ad 117)), (2, .ref (ad 118)), (3, .ref (ad 119)), (4, .int x4), (5, .int x5), (6, .int x6)] [] M 0 0) : ∀ (x4 : Int32) (x5 : Int32) (x6 : Int32) (M : gq_M), f_L_hears_10_b N  kh10 x4 x5 x6 M = some (v9, M9) → gq_W p l e (gq_rm 0) s m args below meth c D A cI cZ ad mtL 8 (MQ below (gq_Qi D cI cZ ad mtL v9 M9 A) args s 0 0 A) 10 [(0, .ref (ad 116)), (1, .ref (ad 117)), (2, .ref (ad 118)), (3, .ref (ad 119)), (4, .int x4), (5, .int x5), (6, .int x6)] [] M 0 0 := by
  intro x4 x5 x6 M h
  unfold f_L_hears_10_b at h
  refine g_iload hC 6 rfl dL_hears_10 ?_
  refine g_bipush (v := 8) hC (by decide) dL_hears_12 ?_
  refine g_iload hC 4 rfl dL_hears_14 ?_
  refine g_imul hC dL_hears_16 ?_
  refine g_bipush (v := 8) hC (by decide) dL_hears_17 ?_
  refine g_iadd hC dL_hears_19 ?_
  refine g_icmp_ge (tgt := 97) hC (by decide) dL_hears_20 (fun c1 => ?_) (fun c1 => ?_)
  · replace h := gq_t c1 h
    refine g_iload hC 5 rfl dL_hears_97 ?_
    obtain ⟨g2, h⟩ := gq_g_i h
    exact g_zrets hC hr (gq_bb_i g2) h dL_hears_99
  · replace h := gq_f c1 h
    refine g_aload_n hC 0 rfl rfl dL_hears_23 ?_
    refine g_iload hC 6 rfl dL_hears_24 ?_
    obtain ⟨g3, h⟩ := gq_g_i h
    refine g_iald hC arL_116 (gq_in_i g3) dL_hears_26 ?_
    refine g_topi (fun v4 hv4 => ?_)
    replace h := gq_l_i hv4 h
    refine g_if_lt (tgt := 53) hC (by decide) dL_hears_27 (fun c5 => ?_) (fun c5 => ?_)
    · replace h := gq_t c5 h
      exact g_weak [0, 1, 2, 3, 4, 5, 6] rfl (t_L_hears_53 hC hr hk10 x4 x5 x6 M h)
    · replace h := gq_f c5 h
      refine g_aload_n hC 2 rfl rfl dL_hears_30 ?_
      refine g_iload hC 6 rfl dL_hears_31 ?_
      obtain ⟨g6, h⟩ := gq_g_i h
      refine g_iald hC arL_118 (gq_in_i g6) dL_hears_33 ?_
      refine g_topi (fun v7 hv7 => ?_)
      replace h := gq_l_i hv7 h
      refine g_ldc (v := 65536) hC wk_L_123 dL_hears_34 ?_
      refine g_icmp_ge (tgt := 53) hC (by decide) dL_hears_36 (fun c8 => ?_) (fun c8 => ?_)
      · replace h := gq_t c8 h
        exact g_weak [0, 1, 2, 3, 4, 5, 6] rfl (t_L_hears_53 hC hr hk10 x4 x5 x6 M h)
      · replace h := gq_f c8 h
        refine g_aload_n hC 1 rfl rfl dL_hears_39 ?_
        refine g_iload hC 6 rfl dL_hears_40 ?_
        obtain ⟨g9, h⟩ := gq_g_i h
        refine g_iald hC arL_117 (gq_in_i g9) dL_hears_42 ?_
        refine g_topi (fun v10 hv10 => ?_)
        replace h := gq_l_i hv10 h
        refine g_aload_n hC 3 rfl rfl dL_hears_43 ?_
        refine g_iconst (v := 0) hC (by decide) dL_hears_44 ?_
        obtain ⟨g11, h⟩ := gq_g_i h
        refine g_iald hC arL_119 (gq_in_i g11) dL_hears_45 ?_
        refine g_topi (fun v12 hv12 => ?_)
        replace h := gq_l_i hv12 h
        refine g_icmp_gt (tgt := 53) hC (by decide) dL_hears_46 (fun c13 => ?_) (fun c13 => ?_)
        · replace h := gq_t c13 h
          exact g_weak [0, 1, 2, 3, 4, 5, 6] rfl (t_L_hears_53 hC hr hk10 x4 x5 x6 M h)
        · replace h := gq_f c13 h
          refine g_iconst (v := 1) hC (by decide) dL_hears_49 ?_
          refine g_goto (tgt := 54) hC (by decide) dL_hears_50 ?_
          exact g_weak [0, 1, 2, 3, 4, 5, 6] rfl (t_L_hears_54 hC hr hk10 x4 x5 x6 1 M h)
theorem t_L_hears_10 {N : Nat} {v9 : Int32} {M9 : gq_M} (hC : gq_C p s m args meth c D A cI cZ ad mtL RL cL_hears 8) (hr : meth.sig.returnType = (some .boolean))  : ∀ (n9 : Nat) (x4 : Int32) (x5 : Int32) (x6 : Int32) (M : gq_M), f_L_hears_10 N  n9 x4 x5 x6 M = some (v9, M9) → gq_W p l e (gq_rm 0) s m args below meth c D A cI cZ ad mtL 8 (MQ below (gq_Qi D cI cZ ad mtL v9 M9 A) args s 0 0 A) 10 [(0, .ref (ad 116)), (1, .ref (ad 117)), (2, .ref (ad 118)), (3, .ref (ad 119)), (4, .int x4), (5, .int x5), (6, .int x6)] [] M 0 0 := by
  intro n9
  induction n9 with
  | zero => intro x4 x5 x6 M h; cases h
  | succ n9 ih => intro x4 x5 x6 M h; exact t_L_hears_10_b hC hr  ih x4 x5 x6 M h
def f_L_hears (N : Nat) (a4 : Int32) (M : gq_M) : Option (Int32 × gq_M) :=
  f_L_hears_10 N  N a4 0 (8 * a4) M
set_option maxHeartbeats 1000000 in
set_option maxRecDepth 20000 in
theorem t_L_hears {l : Launch} {D : va_G} {cI cZ : ClassId} {ad : Nat → Nat} (N : Nat) (a4 : Int32) (M : gq_M) (v9 : Int32) (M9 : gq_M) (h : f_L_hears N a4 M = some (v9, M9)) : gq_Ci l D cI cZ ad mtL yL_hears cL_hears 8 (some .boolean) 0 [.ref (ad 116), .ref (ad 117), .ref (ad 118), .ref (ad 119), .int a4] M v9 M9 := by
  refine gq_introI (own := RL) (by decide) rfl (Nat.le_of_ble_eq_true rfl) ?_
  intro p e s m below meth c hC hr
  refine g_cast (L2 := [(0, .ref (ad 116)), (1, .ref (ad 117)), (2, .ref (ad 118)), (3, .ref (ad 119)), (4, .int a4)]) ?_ rfl rfl rfl rfl
  unfold f_L_hears at h
  refine g_iconst (v := 0) hC (by decide) dL_hears_0 ?_
  refine g_istore (L2 := [(5, .int 0), (0, .ref (ad 116)), (1, .ref (ad 117)), (2, .ref (ad 118)), (3, .ref (ad 119)), (4, .int a4)]) hC (by decide) rfl dL_hears_1 ?_
  refine g_bipush (v := 8) hC (by decide) dL_hears_3 ?_
  refine g_iload hC 5 rfl dL_hears_5 ?_
  refine g_imul hC dL_hears_7 ?_
  refine g_istore (L2 := [(6, .int (8 * a4)), (5, .int 0), (0, .ref (ad 116)), (1, .ref (ad 117)), (2, .ref (ad 118)), (3, .ref (ad 119)), (4, .int a4)]) hC (by decide) rfl dL_hears_8 ?_
  exact g_weak [2, 3, 4, 5, 6, 1, 0] rfl (t_L_hears_10 hC hr  N a4 0 (8 * a4) M h)
def f_L_ticks_593 (N : Nat) (x12 : Int32) (M : gq_M) : Option (Int32 × gq_M) :=
  gq_b (f_L_goesOn N x12 M) fun v134 M136 => some (0, M136)
set_option maxHeartbeats 1000000 in
set_option maxRecDepth 20000 in
theorem t_L_ticks_593 {N : Nat} {v9 : Int32} {M9 : gq_M} (hC : gq_C p s m args meth c D A cI cZ ad mtL RL cL_ticks 20) (hr : meth.sig.returnType = none)   : ∀ (x12 : Int32) (M : gq_M), f_L_ticks_593 N  x12 M = some (v9, M9) → gq_W p l e (gq_rm 4) s m args below meth c D A cI cZ ad mtL 20 (MQ below (gq_Qv D cI cZ ad mtL M9 A) args s 0 0 A) 593 [(0, .ref (ad 109)), (2, .ref (ad 111)), (5, .ref (ad 114)), (6, .ref (ad 115)), (7, .ref (ad 116)), (10, .ref (ad 119)), (12, .int x12)] [] M 0 0 := by
  intro x12 M h
  unfold f_L_ticks_593 at h
  refine g_aload_n hC 0 rfl rfl dL_ticks_593 ?_
  refine g_aload_n hC 1 rfl rfl dL_ticks_594 ?_
  refine g_aload hC 2 rfl dL_ticks_595 ?_
  refine g_aload hC 3 rfl dL_ticks_597 ?_
  refine g_aload hC 4 rfl dL_ticks_599 ?_
  refine g_aload hC 5 rfl dL_ticks_601 ?_
  refine g_iload hC 6 rfl dL_ticks_603 ?_
  obtain ⟨v134, M136, c135, h⟩ := gq_b_i h
  refine g_Sv (as := [.ref (ad 109), .ref (ad 111), .ref (ad 114), .ref (ad 115), .ref (ad 116), .ref (ad 119), .int x12]) hC (t_L_goesOn N _ _ _ _ c135) mS_L_goesOn wm_L_140 rfl rfl (Nat.le_of_ble_eq_true rfl) ⟨Nat.le_of_ble_eq_true rfl, Nat.le_of_ble_eq_true rfl⟩ ⟨Nat.zero_le _, Nat.zero_le _⟩ dL_ticks_605 ?_
  exact g_vrets hC hr h dL_ticks_608
def f_L_ticks_465 (N : Nat) (x12 : Int32) (x13 : Int32) (x15 : Int32) (s1 : Int32) (s2 : Int32) (M : gq_M) : Option (Int32 × gq_M) :=
  gq_g (gq_in s1 24) (gq_l (gq_up M 115 s1.toNatClampNeg s2) fun M124 => gq_g (gq_in 0 56) (gq_l (M124 119 (0 : Int32).toNatClampNeg) fun v126 => gq_g (gq_in (x13 + 3) 24) (gq_l (gq_up M124 115 ((x13 + 3) : Int32).toNatClampNeg (v126 + 3)) fun M128 => gq_g (gq_in (x13 + 4) 24) (gq_l (gq_up M128 115 ((x13 + 4) : Int32).toNatClampNeg x15) fun M130 => gq_b (f_L_begins N x12 M130) fun v131 M133 => some (0, M133)))))
set_option maxHeartbeats 1000000 in
set_option maxRecDepth 20000 in
theorem t_L_ticks_465 {N : Nat} {v9 : Int32} {M9 : gq_M} (hC : gq_C p s m args meth c D A cI cZ ad mtL RL cL_ticks 20) (hr : meth.sig.returnType = none)   : ∀ (x12 : Int32) (x13 : Int32) (x15 : Int32) (s1 : Int32) (s2 : Int32) (M : gq_M), f_L_ticks_465 N  x12 x13 x15 s1 s2 M = some (v9, M9) → gq_W p l e (gq_rm 4) s m args below meth c D A cI cZ ad mtL 20 (MQ below (gq_Qv D cI cZ ad mtL M9 A) args s 0 0 A) 465 [(6, .ref (ad 115)), (7, .ref (ad 116)), (10, .ref (ad 119)), (12, .int x12), (13, .int x13), (15, .int x15)] [.int s2, .int s1, .ref (ad 115)] M 0 0 := by
  intro x12 x13 x15 s1 s2 M h
  unfold f_L_ticks_465 at h
  obtain ⟨g123, h⟩ := gq_g_i h
  refine g_iast hC arL_115 (gq_in_i g123) dL_ticks_465 ?_
  refine g_topM (fun M124 hM124 => ?_)
  replace h := gq_l_i hM124 h
  refine g_aload hC 0 rfl dL_ticks_466 ?_
  refine g_iload hC 4 rfl dL_ticks_468 ?_
  refine g_iconst (v := 3) hC (by decide) dL_ticks_470 ?_
  refine g_iadd hC dL_ticks_471 ?_
  refine g_aload hC 2 rfl dL_ticks_472 ?_
  refine g_iconst (v := 0) hC (by decide) dL_ticks_474 ?_
  obtain ⟨g125, h⟩ := gq_g_i h
  refine g_iald hC arL_119 (gq_in_i g125) dL_ticks_475 ?_
  refine g_topi (fun v126 hv126 => ?_)
  replace h := gq_l_i hv126 h
  refine g_iconst (v := 3) hC (by decide) dL_ticks_476 ?_
  refine g_iadd hC dL_ticks_477 ?_
  obtain ⟨g127, h⟩ := gq_g_i h
  refine g_iast hC arL_115 (gq_in_i g127) dL_ticks_478 ?_
  refine g_topM (fun M128 hM128 => ?_)
  replace h := gq_l_i hM128 h
  refine g_aload hC 0 rfl dL_ticks_479 ?_
  refine g_iload hC 4 rfl dL_ticks_481 ?_
  refine g_iconst (v := 4) hC (by decide) dL_ticks_483 ?_
  refine g_iadd hC dL_ticks_484 ?_
  refine g_iload hC 5 rfl dL_ticks_485 ?_
  obtain ⟨g129, h⟩ := gq_g_i h
  refine g_iast hC arL_115 (gq_in_i g129) dL_ticks_487 ?_
  refine g_topM (fun M130 hM130 => ?_)
  replace h := gq_l_i hM130 h
  refine g_aload hC 1 rfl dL_ticks_488 ?_
  refine g_iload hC 3 rfl dL_ticks_490 ?_
  obtain ⟨v131, M133, c132, h⟩ := gq_b_i h
  refine g_Sv (as := [.ref (ad 116), .int x12]) hC (t_L_begins N _ _ _ _ c132) mS_L_begins wm_L_103 rfl rfl (Nat.le_of_ble_eq_true rfl) ⟨Nat.le_of_ble_eq_true rfl, Nat.le_of_ble_eq_true rfl⟩ ⟨Nat.zero_le _, Nat.zero_le _⟩ dL_ticks_492 ?_
  refine g_goto (tgt := 608) hC (by decide) dL_ticks_495 ?_
  exact g_vrets hC hr h dL_ticks_608
def f_L_ticks_432 (N : Nat) (x12 : Int32) (x13 : Int32) (x15 : Int32) (s1 : Int32) (s2 : Int32) (M : gq_M) : Option (Int32 × gq_M) :=
  gq_g (gq_in s1 24) (gq_l (gq_up M 115 s1.toNatClampNeg s2) fun M117 => if 0 ≤ x15 then (gq_g (gq_in (x13 + x15) 24) (gq_l (M117 118 ((x13 + x15) : Int32).toNatClampNeg) fun v120 => f_L_ticks_465 N  x12 x13 x15 (x13 + 2) (v120 - v120 / 65536 * 65536) M117)) else (gq_g (gq_in (x13 + 2) 24) (gq_l (M117 115 ((x13 + 2) : Int32).toNatClampNeg) fun v122 => f_L_ticks_465 N  x12 x13 x15 (x13 + 2) v122 M117)))
set_option maxHeartbeats 1000000 in
set_option maxRecDepth 20000 in
theorem t_L_ticks_432 {N : Nat} {v9 : Int32} {M9 : gq_M} (hC : gq_C p s m args meth c D A cI cZ ad mtL RL cL_ticks 20) (hr : meth.sig.returnType = none)   : ∀ (x12 : Int32) (x13 : Int32) (x15 : Int32) (s1 : Int32) (s2 : Int32) (M : gq_M), f_L_ticks_432 N  x12 x13 x15 s1 s2 M = some (v9, M9) → gq_W p l e (gq_rm 4) s m args below meth c D A cI cZ ad mtL 20 (MQ below (gq_Qv D cI cZ ad mtL M9 A) args s 0 0 A) 432 [(6, .ref (ad 115)), (7, .ref (ad 116)), (9, .ref (ad 118)), (10, .ref (ad 119)), (12, .int x12), (13, .int x13), (15, .int x15)] [.int s2, .int s1, .ref (ad 115)] M 0 0 := by
  intro x12 x13 x15 s1 s2 M h
  unfold f_L_ticks_432 at h
  obtain ⟨g116, h⟩ := gq_g_i h
  refine g_iast hC arL_115 (gq_in_i g116) dL_ticks_432 ?_
  refine g_topM (fun M117 hM117 => ?_)
  replace h := gq_l_i hM117 h
  refine g_aload hC 0 rfl dL_ticks_433 ?_
  refine g_iload hC 5 rfl dL_ticks_435 ?_
  refine g_iconst (v := 2) hC (by decide) dL_ticks_437 ?_
  refine g_iadd hC dL_ticks_438 ?_
  refine g_iload hC 6 rfl dL_ticks_439 ?_
  refine g_if_ge (tgt := 454) hC (by decide) dL_ticks_441 (fun c118 => ?_) (fun c118 => ?_)
  · replace h := gq_t c118 h
    refine g_aload hC 2 rfl dL_ticks_454 ?_
    refine g_iload hC 5 rfl dL_ticks_456 ?_
    refine g_iload hC 6 rfl dL_ticks_458 ?_
    refine g_iadd hC dL_ticks_460 ?_
    obtain ⟨g119, h⟩ := gq_g_i h
    refine g_iald hC arL_118 (gq_in_i g119) dL_ticks_461 ?_
    refine g_topi (fun v120 hv120 => ?_)
    replace h := gq_l_i hv120 h
    refine g_ldc (v := 65536) hC wk_L_123 dL_ticks_462 ?_
    refine g_irem hC (by decide) dL_ticks_464 ?_
    exact g_weak [0, 1, 3, 4, 5, 6] rfl (t_L_ticks_465 hC hr  x12 x13 x15 (x13 + 2) (v120 - v120 / 65536 * 65536) M117 h)
  · replace h := gq_f c118 h
    refine g_aload hC 0 rfl dL_ticks_444 ?_
    refine g_iload hC 5 rfl dL_ticks_446 ?_
    refine g_iconst (v := 2) hC (by decide) dL_ticks_448 ?_
    refine g_iadd hC dL_ticks_449 ?_
    obtain ⟨g121, h⟩ := gq_g_i h
    refine g_iald hC arL_115 (gq_in_i g121) dL_ticks_450 ?_
    refine g_topi (fun v122 hv122 => ?_)
    replace h := gq_l_i hv122 h
    refine g_goto (tgt := 465) hC (by decide) dL_ticks_451 ?_
    exact g_weak [0, 1, 3, 4, 5, 6] rfl (t_L_ticks_465 hC hr  x12 x13 x15 (x13 + 2) v122 M117 h)
def f_L_ticks_410 (N : Nat) (kh265 : Int32 → Int32 → Int32 → Int32 → Int32 → gq_M → Option (Int32 × gq_M)) (x12 : Int32) (x13 : Int32) (x14 : Int32) (x16 : Int32) (s0 : Int32) (M : gq_M) : Option (Int32 × gq_M) :=
  kh265 x12 x13 x14 s0 (x16 + (-1)) M
set_option maxHeartbeats 1000000 in
set_option maxRecDepth 20000 in
theorem t_L_ticks_410 {N : Nat} {kh265 : Int32 → Int32 → Int32 → Int32 → Int32 → gq_M → Option (Int32 × gq_M)} {v9 : Int32} {M9 : gq_M} (hC : gq_C p s m args meth c D A cI cZ ad mtL RL cL_ticks 20) (hr : meth.sig.returnType = none) (hk265 : ∀ (x12 : Int32) (x13 : Int32) (x14 : Int32) (x15 : Int32) (x16 : Int32) (M : gq_M), kh265 x12 x13 x14 x15 x16 M = some (v9, M9) → gq_W p l e (gq_rm 4) s m args below meth c D A cI cZ ad mtL 20 (MQ below (gq_Qv D cI cZ ad mtL M9 A) args s 0 0 A) 265 [(6, .ref (ad 115)), (7, .ref (ad 116)), (9, .ref (ad 118)), (10, .ref (ad 119)), (12, .int x12), (13, .int x13), (14, .int x14), (15, .int x15), (16, .int x16)] [] M 0 0)  : ∀ (x12 : Int32) (x13 : Int32) (x14 : Int32) (x16 : Int32) (s0 : Int32) (M : gq_M), f_L_ticks_410 N kh265 x12 x13 x14 x16 s0 M = some (v9, M9) → gq_W p l e (gq_rm 4) s m args below meth c D A cI cZ ad mtL 20 (MQ below (gq_Qv D cI cZ ad mtL M9 A) args s 0 0 A) 410 [(6, .ref (ad 115)), (7, .ref (ad 116)), (9, .ref (ad 118)), (10, .ref (ad 119)), (12, .int x12), (13, .int x13), (14, .int x14), (16, .int x16)] [.int s0] M 0 0 := by
  intro x12 x13 x14 x16 s0 M h
  unfold f_L_ticks_410 at h
  refine g_istore (L2 := [(15, .int s0), (6, .ref (ad 115)), (7, .ref (ad 116)), (9, .ref (ad 118)), (10, .ref (ad 119)), (12, .int x12), (13, .int x13), (14, .int x14), (16, .int x16)]) hC (by decide) rfl dL_ticks_410 ?_
  refine g_iinc (v := (x16 + (-1))) (L2 := [(16, .int (x16 + (-1))), (15, .int s0), (6, .ref (ad 115)), (7, .ref (ad 116)), (9, .ref (ad 118)), (10, .ref (ad 119)), (12, .int x12), (13, .int x13), (14, .int x14)]) hC 8 rfl (by first | rfl | decide) (by decide) rfl dL_ticks_412 ?_
  refine g_goto (tgt := 265) hC (by decide) dL_ticks_415 ?_
  exact g_weak [2, 3, 4, 5, 6, 7, 8, 1, 0] rfl (hk265 x12 x13 x14 s0 (x16 + (-1)) M h)
def f_L_ticks_396 (N : Nat) (kh265 : Int32 → Int32 → Int32 → Int32 → Int32 → gq_M → Option (Int32 × gq_M)) (x12 : Int32) (x13 : Int32) (x14 : Int32) (x15 : Int32) (x16 : Int32) (s0 : Int32) (M : gq_M) : Option (Int32 × gq_M) :=
  if s0 = 0 then (f_L_ticks_410 N kh265 x12 x13 x14 x16 x15 M) else (f_L_ticks_410 N kh265 x12 x13 x14 x16 x16 M)
set_option maxHeartbeats 1000000 in
set_option maxRecDepth 20000 in
theorem t_L_ticks_396 {N : Nat} {kh265 : Int32 → Int32 → Int32 → Int32 → Int32 → gq_M → Option (Int32 × gq_M)} {v9 : Int32} {M9 : gq_M} (hC : gq_C p s m args meth c D A cI cZ ad mtL RL cL_ticks 20) (hr : meth.sig.returnType = none) (hk265 : ∀ (x12 : Int32) (x13 : Int32) (x14 : Int32) (x15 : Int32) (x16 : Int32) (M : gq_M), kh265 x12 x13 x14 x15 x16 M = some (v9, M9) → gq_W p l e (gq_rm 4) s m args below meth c D A cI cZ ad mtL 20 (MQ below (gq_Qv D cI cZ ad mtL M9 A) args s 0 0 A) 265 [(6, .ref (ad 115)), (7, .ref (ad 116)), (9, .ref (ad 118)), (10, .ref (ad 119)), (12, .int x12), (13, .int x13), (14, .int x14), (15, .int x15), (16, .int x16)] [] M 0 0)  : ∀ (x12 : Int32) (x13 : Int32) (x14 : Int32) (x15 : Int32) (x16 : Int32) (s0 : Int32) (M : gq_M), f_L_ticks_396 N kh265 x12 x13 x14 x15 x16 s0 M = some (v9, M9) → gq_W p l e (gq_rm 4) s m args below meth c D A cI cZ ad mtL 20 (MQ below (gq_Qv D cI cZ ad mtL M9 A) args s 0 0 A) 396 [(6, .ref (ad 115)), (7, .ref (ad 116)), (9, .ref (ad 118)), (10, .ref (ad 119)), (12, .int x12), (13, .int x13), (14, .int x14), (15, .int x15), (16, .int x16)] [.int s0] M 0 0 := by
  intro x12 x13 x14 x15 x16 s0 M h
  unfold f_L_ticks_396 at h
  refine g_istore (L2 := [(19, .int s0), (6, .ref (ad 115)), (7, .ref (ad 116)), (9, .ref (ad 118)), (10, .ref (ad 119)), (12, .int x12), (13, .int x13), (14, .int x14), (15, .int x15), (16, .int x16)]) hC (by decide) rfl dL_ticks_396 ?_
  refine g_iload hC 0 rfl dL_ticks_398 ?_
  refine g_if_eq (tgt := 408) hC (by decide) dL_ticks_400 (fun c115 => ?_) (fun c115 => ?_)
  · replace h := gq_t c115 h
    refine g_iload hC 8 rfl dL_ticks_408 ?_
    exact g_weak [1, 2, 3, 4, 5, 6, 7, 9] rfl (t_L_ticks_410 hC hr hk265 x12 x13 x14 x16 x15 M h)
  · replace h := gq_f c115 h
    refine g_iload hC 9 rfl dL_ticks_403 ?_
    refine g_goto (tgt := 410) hC (by decide) dL_ticks_405 ?_
    exact g_weak [1, 2, 3, 4, 5, 6, 7, 9] rfl (t_L_ticks_410 hC hr hk265 x12 x13 x14 x16 x16 M h)
def f_L_ticks_395 (N : Nat) (kh265 : Int32 → Int32 → Int32 → Int32 → Int32 → gq_M → Option (Int32 × gq_M)) (x12 : Int32) (x13 : Int32) (x14 : Int32) (x15 : Int32) (x16 : Int32) (M : gq_M) : Option (Int32 × gq_M) :=
  f_L_ticks_396 N kh265 x12 x13 x14 x15 x16 0 M
set_option maxHeartbeats 1000000 in
set_option maxRecDepth 20000 in
theorem t_L_ticks_395 {N : Nat} {kh265 : Int32 → Int32 → Int32 → Int32 → Int32 → gq_M → Option (Int32 × gq_M)} {v9 : Int32} {M9 : gq_M} (hC : gq_C p s m args meth c D A cI cZ ad mtL RL cL_ticks 20) (hr : meth.sig.returnType = none) (hk265 : ∀ (x12 : Int32) (x13 : Int32) (x14 : Int32) (x15 : Int32) (x16 : Int32) (M : gq_M), kh265 x12 x13 x14 x15 x16 M = some (v9, M9) → gq_W p l e (gq_rm 4) s m args below meth c D A cI cZ ad mtL 20 (MQ below (gq_Qv D cI cZ ad mtL M9 A) args s 0 0 A) 265 [(6, .ref (ad 115)), (7, .ref (ad 116)), (9, .ref (ad 118)), (10, .ref (ad 119)), (12, .int x12), (13, .int x13), (14, .int x14), (15, .int x15), (16, .int x16)] [] M 0 0)  : ∀ (x12 : Int32) (x13 : Int32) (x14 : Int32) (x15 : Int32) (x16 : Int32) (M : gq_M), f_L_ticks_395 N kh265 x12 x13 x14 x15 x16 M = some (v9, M9) → gq_W p l e (gq_rm 4) s m args below meth c D A cI cZ ad mtL 20 (MQ below (gq_Qv D cI cZ ad mtL M9 A) args s 0 0 A) 395 [(6, .ref (ad 115)), (7, .ref (ad 116)), (9, .ref (ad 118)), (10, .ref (ad 119)), (12, .int x12), (13, .int x13), (14, .int x14), (15, .int x15), (16, .int x16)] [] M 0 0 := by
  intro x12 x13 x14 x15 x16 M h
  unfold f_L_ticks_395 at h
  refine g_iconst (v := 0) hC (by decide) dL_ticks_395 ?_
  exact g_weak [0, 1, 2, 3, 4, 5, 6, 7, 8] rfl (t_L_ticks_396 hC hr hk265 x12 x13 x14 x15 x16 0 M h)
def f_L_ticks_391 (N : Nat) (kh265 : Int32 → Int32 → Int32 → Int32 → Int32 → gq_M → Option (Int32 × gq_M)) (x12 : Int32) (x13 : Int32) (x14 : Int32) (x15 : Int32) (x16 : Int32) (M : gq_M) : Option (Int32 × gq_M) :=
  f_L_ticks_396 N kh265 x12 x13 x14 x15 x16 1 M
set_option maxHeartbeats 1000000 in
set_option maxRecDepth 20000 in
theorem t_L_ticks_391 {N : Nat} {kh265 : Int32 → Int32 → Int32 → Int32 → Int32 → gq_M → Option (Int32 × gq_M)} {v9 : Int32} {M9 : gq_M} (hC : gq_C p s m args meth c D A cI cZ ad mtL RL cL_ticks 20) (hr : meth.sig.returnType = none) (hk265 : ∀ (x12 : Int32) (x13 : Int32) (x14 : Int32) (x15 : Int32) (x16 : Int32) (M : gq_M), kh265 x12 x13 x14 x15 x16 M = some (v9, M9) → gq_W p l e (gq_rm 4) s m args below meth c D A cI cZ ad mtL 20 (MQ below (gq_Qv D cI cZ ad mtL M9 A) args s 0 0 A) 265 [(6, .ref (ad 115)), (7, .ref (ad 116)), (9, .ref (ad 118)), (10, .ref (ad 119)), (12, .int x12), (13, .int x13), (14, .int x14), (15, .int x15), (16, .int x16)] [] M 0 0)  : ∀ (x12 : Int32) (x13 : Int32) (x14 : Int32) (x15 : Int32) (x16 : Int32) (M : gq_M), f_L_ticks_391 N kh265 x12 x13 x14 x15 x16 M = some (v9, M9) → gq_W p l e (gq_rm 4) s m args below meth c D A cI cZ ad mtL 20 (MQ below (gq_Qv D cI cZ ad mtL M9 A) args s 0 0 A) 391 [(6, .ref (ad 115)), (7, .ref (ad 116)), (9, .ref (ad 118)), (10, .ref (ad 119)), (12, .int x12), (13, .int x13), (14, .int x14), (15, .int x15), (16, .int x16)] [] M 0 0 := by
  intro x12 x13 x14 x15 x16 M h
  unfold f_L_ticks_391 at h
  refine g_iconst (v := 1) hC (by decide) dL_ticks_391 ?_
  refine g_goto (tgt := 396) hC (by decide) dL_ticks_392 ?_
  exact g_weak [0, 1, 2, 3, 4, 5, 6, 7, 8] rfl (t_L_ticks_396 hC hr hk265 x12 x13 x14 x15 x16 1 M h)
def f_L_ticks_331 (N : Nat) (kh265 : Int32 → Int32 → Int32 → Int32 → Int32 → gq_M → Option (Int32 × gq_M)) (x12 : Int32) (x13 : Int32) (x14 : Int32) (x15 : Int32) (x16 : Int32) (x17 : Int32) (s0 : Int32) (M : gq_M) : Option (Int32 × gq_M) :=
  if s0 = 0 then (f_L_ticks_395 N kh265 x12 x13 x14 x15 x16 M) else (if x15 < 0 then (f_L_ticks_391 N kh265 x12 x13 x14 x15 x16 M) else (gq_g (gq_in x17 24) (gq_l (M 118 x17.toNatClampNeg) fun v101 => gq_g (gq_in (x13 + x15) 24) (gq_l (M 118 ((x13 + x15) : Int32).toNatClampNeg) fun v103 => if v103 < v101 then (f_L_ticks_391 N kh265 x12 x13 x14 x15 x16 M) else (gq_g (gq_in x17 24) (gq_l (M 118 x17.toNatClampNeg) fun v106 => gq_g (gq_in (x13 + x15) 24) (gq_l (M 118 ((x13 + x15) : Int32).toNatClampNeg) fun v108 => if v106 = v108 then (gq_g (gq_in x17 24) (gq_l (M 116 x17.toNatClampNeg) fun v111 => gq_g (gq_in (x13 + x15) 24) (gq_l (M 116 ((x13 + x15) : Int32).toNatClampNeg) fun v113 => if v113 < v111 then (f_L_ticks_395 N kh265 x12 x13 x14 x15 x16 M) else (f_L_ticks_391 N kh265 x12 x13 x14 x15 x16 M)))) else (f_L_ticks_395 N kh265 x12 x13 x14 x15 x16 M))))))))
set_option maxHeartbeats 1000000 in
set_option maxRecDepth 20000 in
theorem t_L_ticks_331 {N : Nat} {kh265 : Int32 → Int32 → Int32 → Int32 → Int32 → gq_M → Option (Int32 × gq_M)} {v9 : Int32} {M9 : gq_M} (hC : gq_C p s m args meth c D A cI cZ ad mtL RL cL_ticks 20) (hr : meth.sig.returnType = none) (hk265 : ∀ (x12 : Int32) (x13 : Int32) (x14 : Int32) (x15 : Int32) (x16 : Int32) (M : gq_M), kh265 x12 x13 x14 x15 x16 M = some (v9, M9) → gq_W p l e (gq_rm 4) s m args below meth c D A cI cZ ad mtL 20 (MQ below (gq_Qv D cI cZ ad mtL M9 A) args s 0 0 A) 265 [(6, .ref (ad 115)), (7, .ref (ad 116)), (9, .ref (ad 118)), (10, .ref (ad 119)), (12, .int x12), (13, .int x13), (14, .int x14), (15, .int x15), (16, .int x16)] [] M 0 0)  : ∀ (x12 : Int32) (x13 : Int32) (x14 : Int32) (x15 : Int32) (x16 : Int32) (x17 : Int32) (s0 : Int32) (M : gq_M), f_L_ticks_331 N kh265 x12 x13 x14 x15 x16 x17 s0 M = some (v9, M9) → gq_W p l e (gq_rm 4) s m args below meth c D A cI cZ ad mtL 20 (MQ below (gq_Qv D cI cZ ad mtL M9 A) args s 0 0 A) 331 [(6, .ref (ad 115)), (7, .ref (ad 116)), (9, .ref (ad 118)), (10, .ref (ad 119)), (12, .int x12), (13, .int x13), (14, .int x14), (15, .int x15), (16, .int x16), (17, .int x17)] [.int s0] M 0 0 := by
  intro x12 x13 x14 x15 x16 x17 s0 M h
  unfold f_L_ticks_331 at h
  refine g_istore (L2 := [(18, .int s0), (6, .ref (ad 115)), (7, .ref (ad 116)), (9, .ref (ad 118)), (10, .ref (ad 119)), (12, .int x12), (13, .int x13), (14, .int x14), (15, .int x15), (16, .int x16), (17, .int x17)]) hC (by decide) rfl dL_ticks_331 ?_
  refine g_iload hC 0 rfl dL_ticks_333 ?_
  refine g_if_eq (tgt := 395) hC (by decide) dL_ticks_335 (fun c98 => ?_) (fun c98 => ?_)
  · replace h := gq_t c98 h
    exact g_weak [1, 2, 3, 4, 5, 6, 7, 8, 9] rfl (t_L_ticks_395 hC hr hk265 x12 x13 x14 x15 x16 M h)
  · replace h := gq_f c98 h
    refine g_iload hC 8 rfl dL_ticks_338 ?_
    refine g_if_lt (tgt := 391) hC (by decide) dL_ticks_340 (fun c99 => ?_) (fun c99 => ?_)
    · replace h := gq_t c99 h
      exact g_weak [1, 2, 3, 4, 5, 6, 7, 8, 9] rfl (t_L_ticks_391 hC hr hk265 x12 x13 x14 x15 x16 M h)
    · replace h := gq_f c99 h
      refine g_aload hC 3 rfl dL_ticks_343 ?_
      refine g_iload hC 10 rfl dL_ticks_345 ?_
      obtain ⟨g100, h⟩ := gq_g_i h
      refine g_iald hC arL_118 (gq_in_i g100) dL_ticks_347 ?_
      refine g_topi (fun v101 hv101 => ?_)
      replace h := gq_l_i hv101 h
      refine g_aload hC 3 rfl dL_ticks_348 ?_
      refine g_iload hC 6 rfl dL_ticks_350 ?_
      refine g_iload hC 8 rfl dL_ticks_352 ?_
      refine g_iadd hC dL_ticks_354 ?_
      obtain ⟨g102, h⟩ := gq_g_i h
      refine g_iald hC arL_118 (gq_in_i g102) dL_ticks_355 ?_
      refine g_topi (fun v103 hv103 => ?_)
      replace h := gq_l_i hv103 h
      refine g_icmp_gt (tgt := 391) hC (by decide) dL_ticks_356 (fun c104 => ?_) (fun c104 => ?_)
      · replace h := gq_t c104 h
        exact g_weak [1, 2, 3, 4, 5, 6, 7, 8, 9] rfl (t_L_ticks_391 hC hr hk265 x12 x13 x14 x15 x16 M h)
      · replace h := gq_f c104 h
        refine g_aload hC 3 rfl dL_ticks_359 ?_
        refine g_iload hC 10 rfl dL_ticks_361 ?_
        obtain ⟨g105, h⟩ := gq_g_i h
        refine g_iald hC arL_118 (gq_in_i g105) dL_ticks_363 ?_
        refine g_topi (fun v106 hv106 => ?_)
        replace h := gq_l_i hv106 h
        refine g_aload hC 3 rfl dL_ticks_364 ?_
        refine g_iload hC 6 rfl dL_ticks_366 ?_
        refine g_iload hC 8 rfl dL_ticks_368 ?_
        refine g_iadd hC dL_ticks_370 ?_
        obtain ⟨g107, h⟩ := gq_g_i h
        refine g_iald hC arL_118 (gq_in_i g107) dL_ticks_371 ?_
        refine g_topi (fun v108 hv108 => ?_)
        replace h := gq_l_i hv108 h
        refine g_icmp_ne (tgt := 395) hC (by decide) dL_ticks_372 (fun c109 => ?_) (fun c109 => ?_)
        · replace h := gq_f c109 h
          exact g_weak [1, 2, 3, 4, 5, 6, 7, 8, 9] rfl (t_L_ticks_395 hC hr hk265 x12 x13 x14 x15 x16 M h)
        · replace h := gq_t c109 h
          refine g_aload hC 2 rfl dL_ticks_375 ?_
          refine g_iload hC 10 rfl dL_ticks_377 ?_
          obtain ⟨g110, h⟩ := gq_g_i h
          refine g_iald hC arL_116 (gq_in_i g110) dL_ticks_379 ?_
          refine g_topi (fun v111 hv111 => ?_)
          replace h := gq_l_i hv111 h
          refine g_aload hC 2 rfl dL_ticks_380 ?_
          refine g_iload hC 6 rfl dL_ticks_382 ?_
          refine g_iload hC 8 rfl dL_ticks_384 ?_
          refine g_iadd hC dL_ticks_386 ?_
          obtain ⟨g112, h⟩ := gq_g_i h
          refine g_iald hC arL_116 (gq_in_i g112) dL_ticks_387 ?_
          refine g_topi (fun v113 hv113 => ?_)
          replace h := gq_l_i hv113 h
          refine g_icmp_gt (tgt := 395) hC (by decide) dL_ticks_388 (fun c114 => ?_) (fun c114 => ?_)
          · replace h := gq_t c114 h
            exact g_weak [1, 2, 3, 4, 5, 6, 7, 8, 9] rfl (t_L_ticks_395 hC hr hk265 x12 x13 x14 x15 x16 M h)
          · replace h := gq_f c114 h
            exact g_weak [1, 2, 3, 4, 5, 6, 7, 8, 9] rfl (t_L_ticks_391 hC hr hk265 x12 x13 x14 x15 x16 M h)
def f_L_ticks_330 (N : Nat) (kh265 : Int32 → Int32 → Int32 → Int32 → Int32 → gq_M → Option (Int32 × gq_M)) (x12 : Int32) (x13 : Int32) (x14 : Int32) (x15 : Int32) (x16 : Int32) (x17 : Int32) (M : gq_M) : Option (Int32 × gq_M) :=
  f_L_ticks_331 N kh265 x12 x13 x14 x15 x16 x17 0 M
set_option maxHeartbeats 1000000 in
set_option maxRecDepth 20000 in
theorem t_L_ticks_330 {N : Nat} {kh265 : Int32 → Int32 → Int32 → Int32 → Int32 → gq_M → Option (Int32 × gq_M)} {v9 : Int32} {M9 : gq_M} (hC : gq_C p s m args meth c D A cI cZ ad mtL RL cL_ticks 20) (hr : meth.sig.returnType = none) (hk265 : ∀ (x12 : Int32) (x13 : Int32) (x14 : Int32) (x15 : Int32) (x16 : Int32) (M : gq_M), kh265 x12 x13 x14 x15 x16 M = some (v9, M9) → gq_W p l e (gq_rm 4) s m args below meth c D A cI cZ ad mtL 20 (MQ below (gq_Qv D cI cZ ad mtL M9 A) args s 0 0 A) 265 [(6, .ref (ad 115)), (7, .ref (ad 116)), (9, .ref (ad 118)), (10, .ref (ad 119)), (12, .int x12), (13, .int x13), (14, .int x14), (15, .int x15), (16, .int x16)] [] M 0 0)  : ∀ (x12 : Int32) (x13 : Int32) (x14 : Int32) (x15 : Int32) (x16 : Int32) (x17 : Int32) (M : gq_M), f_L_ticks_330 N kh265 x12 x13 x14 x15 x16 x17 M = some (v9, M9) → gq_W p l e (gq_rm 4) s m args below meth c D A cI cZ ad mtL 20 (MQ below (gq_Qv D cI cZ ad mtL M9 A) args s 0 0 A) 330 [(6, .ref (ad 115)), (7, .ref (ad 116)), (9, .ref (ad 118)), (10, .ref (ad 119)), (12, .int x12), (13, .int x13), (14, .int x14), (15, .int x15), (16, .int x16), (17, .int x17)] [] M 0 0 := by
  intro x12 x13 x14 x15 x16 x17 M h
  unfold f_L_ticks_330 at h
  refine g_iconst (v := 0) hC (by decide) dL_ticks_330 ?_
  exact g_weak [0, 1, 2, 3, 4, 5, 6, 7, 8, 9] rfl (t_L_ticks_331 hC hr hk265 x12 x13 x14 x15 x16 x17 0 M h)
def f_L_ticks_265_b (N : Nat) (kh265 : Int32 → Int32 → Int32 → Int32 → Int32 → gq_M → Option (Int32 × gq_M)) (x12 : Int32) (x13 : Int32) (x14 : Int32) (x15 : Int32) (x16 : Int32) (M : gq_M) : Option (Int32 × gq_M) :=
  if x16 < 0 then (if 0 ≤ x15 then (f_L_ticks_432 N  x12 x13 x15 x13 3 M) else (f_L_ticks_432 N  x12 x13 x15 x13 1 M)) else (gq_g (gq_in (x13 + x16) 24) (gq_l (M 116 ((x13 + x16) : Int32).toNatClampNeg) fun v86 => if v86 < 0 then (f_L_ticks_330 N kh265 x12 x13 x14 x15 x16 (x13 + x16) M) else (gq_g (gq_in (x13 + x16) 24) (gq_l (M 118 ((x13 + x16) : Int32).toNatClampNeg) fun v89 => if v89 ≤ 65535 then (f_L_ticks_330 N kh265 x12 x13 x14 x15 x16 (x13 + x16) M) else (gq_g (gq_in (24 + x16) 56) (gq_l (M 119 ((24 + x16) : Int32).toNatClampNeg) fun v92 => gq_g (gq_in (40 + x16) 56) (gq_l (M 119 ((40 + x16) : Int32).toNatClampNeg) fun v94 => gq_g (gq_in (x13 + x16) 24) (gq_l (M 118 ((x13 + x16) : Int32).toNatClampNeg) fun v96 => if (v92 - v94) < (x14 * (v96 - v96 / 65536 * 65536)) then (f_L_ticks_330 N kh265 x12 x13 x14 x15 x16 (x13 + x16) M) else (f_L_ticks_331 N kh265 x12 x13 x14 x15 x16 (x13 + x16) 1 M)))))))))
def f_L_ticks_265 (N : Nat) : Nat → Int32 → Int32 → Int32 → Int32 → Int32 → gq_M → Option (Int32 × gq_M)
  | 0 => fun _ _ _ _ _ _ => none
  | n9 + 1 => f_L_ticks_265_b N  (f_L_ticks_265 N  n9)
set_option maxHeartbeats 1000000 in
set_option maxRecDepth 20000 in
theorem t_L_ticks_265_b {N : Nat} {kh265 : Int32 → Int32 → Int32 → Int32 → Int32 → gq_M → Option (Int32 × gq_M)} {v9 : Int32} {M9 : gq_M} (hC : gq_C p s m args meth c D A cI cZ ad mtL RL cL_ticks 20) (hr : meth.sig.returnType = none)  (hk265 : ∀ (x12 : Int32) (x13 : Int32) (x14 : Int32) (x15 : Int32) (x16 : Int32) (M : gq_M), kh265 x12 x13 x14 x15 x16 M = some (v9, M9) → gq_W p l e (gq_rm 4) s m args below meth c D A cI cZ ad mtL 20 (MQ below (gq_Qv D cI cZ ad mtL M9 A) args s 0 0 A) 265 [(6, .ref (ad 115)), (7, .ref (ad 116)), (9, .ref (ad 118)), (10, .ref (ad 119)), (12, .int x12), (13, .int x13), (14, .int x14), (15, .int x15), (16, .int x16)] [] M 0 0) : ∀ (x12 : Int32) (x13 : Int32) (x14 : Int32) (x15 : Int32) (x16 : Int32) (M : gq_M), f_L_ticks_265_b N  kh265 x12 x13 x14 x15 x16 M = some (v9, M9) → gq_W p l e (gq_rm 4) s m args below meth c D A cI cZ ad mtL 20 (MQ below (gq_Qv D cI cZ ad mtL M9 A) args s 0 0 A) 265 [(6, .ref (ad 115)), (7, .ref (ad 116)), (9, .ref (ad 118)), (10, .ref (ad 119)), (12, .int x12), (13, .int x13), (14, .int x14), (15, .int x15), (16, .int x16)] [] M 0 0 := by
  intro x12 x13 x14 x15 x16 M h
  unfold f_L_ticks_265_b at h
  refine g_iload hC 8 rfl dL_ticks_265 ?_
  refine g_if_lt (tgt := 418) hC (by decide) dL_ticks_267 (fun c83 => ?_) (fun c83 => ?_)
  · replace h := gq_t c83 h
    refine g_aload hC 0 rfl dL_ticks_418 ?_
    refine g_iload hC 5 rfl dL_ticks_420 ?_
    refine g_iload hC 7 rfl dL_ticks_422 ?_
    refine g_if_ge (tgt := 431) hC (by decide) dL_ticks_424 (fun c84 => ?_) (fun c84 => ?_)
    · replace h := gq_t c84 h
      refine g_iconst (v := 3) hC (by decide) dL_ticks_431 ?_
      exact g_weak [0, 1, 2, 3, 4, 5, 7] rfl (t_L_ticks_432 hC hr  x12 x13 x15 x13 3 M h)
    · replace h := gq_f c84 h
      refine g_iconst (v := 1) hC (by decide) dL_ticks_427 ?_
      refine g_goto (tgt := 432) hC (by decide) dL_ticks_428 ?_
      exact g_weak [0, 1, 2, 3, 4, 5, 7] rfl (t_L_ticks_432 hC hr  x12 x13 x15 x13 1 M h)
  · replace h := gq_f c83 h
    refine g_iload hC 5 rfl dL_ticks_270 ?_
    refine g_iload hC 8 rfl dL_ticks_272 ?_
    refine g_iadd hC dL_ticks_274 ?_
    refine g_istore (L2 := [(17, .int (x13 + x16)), (6, .ref (ad 115)), (7, .ref (ad 116)), (9, .ref (ad 118)), (10, .ref (ad 119)), (12, .int x12), (13, .int x13), (14, .int x14), (15, .int x15), (16, .int x16)]) hC (by decide) rfl dL_ticks_275 ?_
    refine g_aload hC 2 rfl dL_ticks_277 ?_
    refine g_iload hC 0 rfl dL_ticks_279 ?_
    obtain ⟨g85, h⟩ := gq_g_i h
    refine g_iald hC arL_116 (gq_in_i g85) dL_ticks_281 ?_
    refine g_topi (fun v86 hv86 => ?_)
    replace h := gq_l_i hv86 h
    refine g_if_lt (tgt := 330) hC (by decide) dL_ticks_282 (fun c87 => ?_) (fun c87 => ?_)
    · replace h := gq_t c87 h
      exact g_weak [1, 2, 3, 4, 5, 6, 7, 8, 9, 0] rfl (t_L_ticks_330 hC hr hk265 x12 x13 x14 x15 x16 (x13 + x16) M h)
    · replace h := gq_f c87 h
      refine g_aload hC 3 rfl dL_ticks_285 ?_
      refine g_iload hC 0 rfl dL_ticks_287 ?_
      obtain ⟨g88, h⟩ := gq_g_i h
      refine g_iald hC arL_118 (gq_in_i g88) dL_ticks_289 ?_
      refine g_topi (fun v89 hv89 => ?_)
      replace h := gq_l_i hv89 h
      refine g_ldc (v := 65535) hC wk_L_135 dL_ticks_290 ?_
      refine g_icmp_le (tgt := 330) hC (by decide) dL_ticks_292 (fun c90 => ?_) (fun c90 => ?_)
      · replace h := gq_t c90 h
        exact g_weak [1, 2, 3, 4, 5, 6, 7, 8, 9, 0] rfl (t_L_ticks_330 hC hr hk265 x12 x13 x14 x15 x16 (x13 + x16) M h)
      · replace h := gq_f c90 h
        refine g_aload hC 4 rfl dL_ticks_295 ?_
        refine g_bipush (v := 24) hC (by decide) dL_ticks_297 ?_
        refine g_iload hC 9 rfl dL_ticks_299 ?_
        refine g_iadd hC dL_ticks_301 ?_
        obtain ⟨g91, h⟩ := gq_g_i h
        refine g_iald hC arL_119 (gq_in_i g91) dL_ticks_302 ?_
        refine g_topi (fun v92 hv92 => ?_)
        replace h := gq_l_i hv92 h
        refine g_aload hC 4 rfl dL_ticks_303 ?_
        refine g_bipush (v := 40) hC (by decide) dL_ticks_305 ?_
        refine g_iload hC 9 rfl dL_ticks_307 ?_
        refine g_iadd hC dL_ticks_309 ?_
        obtain ⟨g93, h⟩ := gq_g_i h
        refine g_iald hC arL_119 (gq_in_i g93) dL_ticks_310 ?_
        refine g_topi (fun v94 hv94 => ?_)
        replace h := gq_l_i hv94 h
        refine g_isub hC dL_ticks_311 ?_
        refine g_iload hC 7 rfl dL_ticks_312 ?_
        refine g_aload hC 3 rfl dL_ticks_314 ?_
        refine g_iload hC 0 rfl dL_ticks_316 ?_
        obtain ⟨g95, h⟩ := gq_g_i h
        refine g_iald hC arL_118 (gq_in_i g95) dL_ticks_318 ?_
        refine g_topi (fun v96 hv96 => ?_)
        replace h := gq_l_i hv96 h
        refine g_ldc (v := 65536) hC wk_L_123 dL_ticks_319 ?_
        refine g_irem hC (by decide) dL_ticks_321 ?_
        refine g_imul hC dL_ticks_322 ?_
        refine g_icmp_lt (tgt := 330) hC (by decide) dL_ticks_323 (fun c97 => ?_) (fun c97 => ?_)
        · replace h := gq_t c97 h
          exact g_weak [1, 2, 3, 4, 5, 6, 7, 8, 9, 0] rfl (t_L_ticks_330 hC hr hk265 x12 x13 x14 x15 x16 (x13 + x16) M h)
        · replace h := gq_f c97 h
          refine g_iconst (v := 1) hC (by decide) dL_ticks_326 ?_
          refine g_goto (tgt := 331) hC (by decide) dL_ticks_327 ?_
          exact g_weak [1, 2, 3, 4, 5, 6, 7, 8, 9, 0] rfl (t_L_ticks_331 hC hr hk265 x12 x13 x14 x15 x16 (x13 + x16) 1 M h)
theorem t_L_ticks_265 {N : Nat} {v9 : Int32} {M9 : gq_M} (hC : gq_C p s m args meth c D A cI cZ ad mtL RL cL_ticks 20) (hr : meth.sig.returnType = none)  : ∀ (n9 : Nat) (x12 : Int32) (x13 : Int32) (x14 : Int32) (x15 : Int32) (x16 : Int32) (M : gq_M), f_L_ticks_265 N  n9 x12 x13 x14 x15 x16 M = some (v9, M9) → gq_W p l e (gq_rm 4) s m args below meth c D A cI cZ ad mtL 20 (MQ below (gq_Qv D cI cZ ad mtL M9 A) args s 0 0 A) 265 [(6, .ref (ad 115)), (7, .ref (ad 116)), (9, .ref (ad 118)), (10, .ref (ad 119)), (12, .int x12), (13, .int x13), (14, .int x14), (15, .int x15), (16, .int x16)] [] M 0 0 := by
  intro n9
  induction n9 with
  | zero => intro x12 x13 x14 x15 x16 M h; cases h
  | succ n9 ih => intro x12 x13 x14 x15 x16 M h; exact t_L_ticks_265_b hC hr  ih x12 x13 x14 x15 x16 M h
def f_L_ticks_195 (N : Nat) (M : gq_M) : Option (Int32 × gq_M) :=
  some (0, M)
set_option maxHeartbeats 1000000 in
set_option maxRecDepth 20000 in
theorem t_L_ticks_195 {N : Nat} {v9 : Int32} {M9 : gq_M} (hC : gq_C p s m args meth c D A cI cZ ad mtL RL cL_ticks 20) (hr : meth.sig.returnType = none)   : ∀ (M : gq_M), f_L_ticks_195 N   M = some (v9, M9) → gq_W p l e (gq_rm 4) s m args below meth c D A cI cZ ad mtL 20 (MQ below (gq_Qv D cI cZ ad mtL M9 A) args s 0 0 A) 195 [] [] M 0 0 := by
  intro  M h
  unfold f_L_ticks_195 at h
  refine g_goto (tgt := 608) hC (by decide) dL_ticks_195 ?_
  exact g_vrets hC hr h dL_ticks_608
def f_L_ticks_71 (N : Nat) (kh38 : Int32 → Int32 → Int32 → gq_M → Option (Int32 × gq_M)) (x13 : Int32) (x15 : Int32) (s0 : Int32) (M : gq_M) : Option (Int32 × gq_M) :=
  kh38 x13 s0 (x15 + 1) M
set_option maxHeartbeats 1000000 in
set_option maxRecDepth 20000 in
theorem t_L_ticks_71 {N : Nat} {kh38 : Int32 → Int32 → Int32 → gq_M → Option (Int32 × gq_M)} {v9 : Int32} {M9 : gq_M} (hC : gq_C p s m args meth c D A cI cZ ad mtL RL cL_ticks 20) (hr : meth.sig.returnType = none) (hk38 : ∀ (x13 : Int32) (x14 : Int32) (x15 : Int32) (M : gq_M), kh38 x13 x14 x15 M = some (v9, M9) → gq_W p l e (gq_rm 4) s m args below meth c D A cI cZ ad mtL 20 (MQ below (gq_Qv D cI cZ ad mtL M9 A) args s 0 0 A) 38 [(6, .ref (ad 115)), (10, .ref (ad 119)), (13, .int x13), (14, .int x14), (15, .int x15)] [] M 0 0)  : ∀ (x13 : Int32) (x15 : Int32) (s0 : Int32) (M : gq_M), f_L_ticks_71 N kh38 x13 x15 s0 M = some (v9, M9) → gq_W p l e (gq_rm 4) s m args below meth c D A cI cZ ad mtL 20 (MQ below (gq_Qv D cI cZ ad mtL M9 A) args s 0 0 A) 71 [(6, .ref (ad 115)), (10, .ref (ad 119)), (13, .int x13), (15, .int x15)] [.int s0] M 0 0 := by
  intro x13 x15 s0 M h
  unfold f_L_ticks_71 at h
  refine g_istore (L2 := [(14, .int s0), (6, .ref (ad 115)), (10, .ref (ad 119)), (13, .int x13), (15, .int x15)]) hC (by decide) rfl dL_ticks_71 ?_
  refine g_iinc (v := (x15 + 1)) (L2 := [(15, .int (x15 + 1)), (14, .int s0), (6, .ref (ad 115)), (10, .ref (ad 119)), (13, .int x13)]) hC 4 rfl (by first | rfl | decide) (by decide) rfl dL_ticks_73 ?_
  refine g_goto (tgt := 38) hC (by decide) dL_ticks_76 ?_
  exact g_weak [2, 3, 4, 1, 0] rfl (hk38 x13 s0 (x15 + 1) M h)
def f_L_ticks_38_b (N : Nat) (kh38 : Int32 → Int32 → Int32 → gq_M → Option (Int32 × gq_M)) (x13 : Int32) (x14 : Int32) (x15 : Int32) (M : gq_M) : Option (Int32 × gq_M) :=
  if 8 ≤ x15 then (gq_g (gq_in x13 24) (gq_l (gq_up M 115 x13.toNatClampNeg 2) fun M73 => gq_g (gq_in 0 56) (gq_l (M73 119 (0 : Int32).toNatClampNeg) fun v75 => gq_g (gq_in (x13 + 3) 24) (gq_l (gq_up M73 115 ((x13 + 3) : Int32).toNatClampNeg (v75 + x14)) fun M77 => some (0, M77))))) else (gq_g (gq_in (32 + x15) 56) (gq_l (M 119 ((32 + x15) : Int32).toNatClampNeg) fun v79 => if v79 ≤ x14 then (f_L_ticks_71 N kh38 x13 x15 x14 M) else (gq_g (gq_in (32 + x15) 56) (gq_l (M 119 ((32 + x15) : Int32).toNatClampNeg) fun v82 => f_L_ticks_71 N kh38 x13 x15 v82 M))))
def f_L_ticks_38 (N : Nat) : Nat → Int32 → Int32 → Int32 → gq_M → Option (Int32 × gq_M)
  | 0 => fun _ _ _ _ => none
  | n9 + 1 => f_L_ticks_38_b N  (f_L_ticks_38 N  n9)
set_option maxHeartbeats 1000000 in
set_option maxRecDepth 20000 in
theorem t_L_ticks_38_b {N : Nat} {kh38 : Int32 → Int32 → Int32 → gq_M → Option (Int32 × gq_M)} {v9 : Int32} {M9 : gq_M} (hC : gq_C p s m args meth c D A cI cZ ad mtL RL cL_ticks 20) (hr : meth.sig.returnType = none)  (hk38 : ∀ (x13 : Int32) (x14 : Int32) (x15 : Int32) (M : gq_M), kh38 x13 x14 x15 M = some (v9, M9) → gq_W p l e (gq_rm 4) s m args below meth c D A cI cZ ad mtL 20 (MQ below (gq_Qv D cI cZ ad mtL M9 A) args s 0 0 A) 38 [(6, .ref (ad 115)), (10, .ref (ad 119)), (13, .int x13), (14, .int x14), (15, .int x15)] [] M 0 0) : ∀ (x13 : Int32) (x14 : Int32) (x15 : Int32) (M : gq_M), f_L_ticks_38_b N  kh38 x13 x14 x15 M = some (v9, M9) → gq_W p l e (gq_rm 4) s m args below meth c D A cI cZ ad mtL 20 (MQ below (gq_Qv D cI cZ ad mtL M9 A) args s 0 0 A) 38 [(6, .ref (ad 115)), (10, .ref (ad 119)), (13, .int x13), (14, .int x14), (15, .int x15)] [] M 0 0 := by
  intro x13 x14 x15 M h
  unfold f_L_ticks_38_b at h
  refine g_iload hC 4 rfl dL_ticks_38 ?_
  refine g_bipush (v := 8) hC (by decide) dL_ticks_40 ?_
  refine g_icmp_ge (tgt := 79) hC (by decide) dL_ticks_42 (fun c71 => ?_) (fun c71 => ?_)
  · replace h := gq_t c71 h
    refine g_aload hC 0 rfl dL_ticks_79 ?_
    refine g_iload hC 2 rfl dL_ticks_81 ?_
    refine g_iconst (v := 2) hC (by decide) dL_ticks_83 ?_
    obtain ⟨g72, h⟩ := gq_g_i h
    refine g_iast hC arL_115 (gq_in_i g72) dL_ticks_84 ?_
    refine g_topM (fun M73 hM73 => ?_)
    replace h := gq_l_i hM73 h
    refine g_aload hC 0 rfl dL_ticks_85 ?_
    refine g_iload hC 2 rfl dL_ticks_87 ?_
    refine g_iconst (v := 3) hC (by decide) dL_ticks_89 ?_
    refine g_iadd hC dL_ticks_90 ?_
    refine g_aload hC 1 rfl dL_ticks_91 ?_
    refine g_iconst (v := 0) hC (by decide) dL_ticks_93 ?_
    obtain ⟨g74, h⟩ := gq_g_i h
    refine g_iald hC arL_119 (gq_in_i g74) dL_ticks_94 ?_
    refine g_topi (fun v75 hv75 => ?_)
    replace h := gq_l_i hv75 h
    refine g_iload hC 3 rfl dL_ticks_95 ?_
    refine g_iadd hC dL_ticks_97 ?_
    obtain ⟨g76, h⟩ := gq_g_i h
    refine g_iast hC arL_115 (gq_in_i g76) dL_ticks_98 ?_
    refine g_topM (fun M77 hM77 => ?_)
    replace h := gq_l_i hM77 h
    exact g_vrets hC hr h dL_ticks_99
  · replace h := gq_f c71 h
    refine g_aload hC 1 rfl dL_ticks_45 ?_
    refine g_bipush (v := 32) hC (by decide) dL_ticks_47 ?_
    refine g_iload hC 4 rfl dL_ticks_49 ?_
    refine g_iadd hC dL_ticks_51 ?_
    obtain ⟨g78, h⟩ := gq_g_i h
    refine g_iald hC arL_119 (gq_in_i g78) dL_ticks_52 ?_
    refine g_topi (fun v79 hv79 => ?_)
    replace h := gq_l_i hv79 h
    refine g_iload hC 3 rfl dL_ticks_53 ?_
    refine g_icmp_le (tgt := 69) hC (by decide) dL_ticks_55 (fun c80 => ?_) (fun c80 => ?_)
    · replace h := gq_t c80 h
      refine g_iload hC 3 rfl dL_ticks_69 ?_
      exact g_weak [0, 1, 2, 4] rfl (t_L_ticks_71 hC hr hk38 x13 x15 x14 M h)
    · replace h := gq_f c80 h
      refine g_aload hC 1 rfl dL_ticks_58 ?_
      refine g_bipush (v := 32) hC (by decide) dL_ticks_60 ?_
      refine g_iload hC 4 rfl dL_ticks_62 ?_
      refine g_iadd hC dL_ticks_64 ?_
      obtain ⟨g81, h⟩ := gq_g_i h
      refine g_iald hC arL_119 (gq_in_i g81) dL_ticks_65 ?_
      refine g_topi (fun v82 hv82 => ?_)
      replace h := gq_l_i hv82 h
      refine g_goto (tgt := 71) hC (by decide) dL_ticks_66 ?_
      exact g_weak [0, 1, 2, 4] rfl (t_L_ticks_71 hC hr hk38 x13 x15 v82 M h)
theorem t_L_ticks_38 {N : Nat} {v9 : Int32} {M9 : gq_M} (hC : gq_C p s m args meth c D A cI cZ ad mtL RL cL_ticks 20) (hr : meth.sig.returnType = none)  : ∀ (n9 : Nat) (x13 : Int32) (x14 : Int32) (x15 : Int32) (M : gq_M), f_L_ticks_38 N  n9 x13 x14 x15 M = some (v9, M9) → gq_W p l e (gq_rm 4) s m args below meth c D A cI cZ ad mtL 20 (MQ below (gq_Qv D cI cZ ad mtL M9 A) args s 0 0 A) 38 [(6, .ref (ad 115)), (10, .ref (ad 119)), (13, .int x13), (14, .int x14), (15, .int x15)] [] M 0 0 := by
  intro n9
  induction n9 with
  | zero => intro x13 x14 x15 M h; cases h
  | succ n9 ih => intro x13 x14 x15 M h; exact t_L_ticks_38_b hC hr  ih x13 x14 x15 M h
def f_L_ticks (N : Nat) (a12 : Int32) (M : gq_M) : Option (Int32 × gq_M) :=
  gq_g (gq_in (8 * a12) 24) (gq_l (M 115 ((8 * a12) : Int32).toNatClampNeg) fun v2 => if v2 = 1 then (gq_b (f_L_hears N a12 M) fun v43 M45 => if v43 = 0 then (gq_g (gq_in ((8 * a12) + 1) 24) (gq_l (M45 115 (((8 * a12) + 1) : Int32).toNatClampNeg) fun v48 => gq_g (gq_in ((8 * a12) + 2) 24) (gq_l (M45 115 (((8 * a12) + 2) : Int32).toNatClampNeg) fun v50 => gq_g (gq_in ((8 * a12) + 5) 24) (gq_l (M45 115 (((8 * a12) + 5) : Int32).toNatClampNeg) fun v52 => gq_g (gq_in ((8 * a12) + 2) 24) (gq_l (gq_up M45 115 (((8 * a12) + 2) : Int32).toNatClampNeg (v50 - v52)) fun M54 => gq_g (gq_in ((8 * a12) + 2) 24) (gq_l (M54 115 (((8 * a12) + 2) : Int32).toNatClampNeg) fun v56 => gq_g (gq_in v48 40) (gq_l (M54 114 v48.toNatClampNeg) fun v58 => gq_g (gq_in (12 + ((v58 / 8) - (v58 / 8) / 4 * 4)) 56) (gq_l (M54 119 ((12 + ((v58 / 8) - (v58 / 8) / 4 * 4)) : Int32).toNatClampNeg) fun v60 => gq_g (gq_in v48 40) (gq_l (M54 114 v48.toNatClampNeg) fun v62 => gq_l (v60 * (10 + ((v62 / 32) - (v62 / 32) / 4 * 4))) fun v63 => if (v63 / 10) ≤ v56 then (f_L_ticks_195 N   M54) else (gq_b (f_L_withdraws N v48 M54) fun v65 M67 => gq_b (f_L_done N a12 M67) fun v68 M70 => f_L_ticks_195 N   M70)))))))))) else (f_L_ticks_38 N  N (8 * a12) 0 0 M45)) else (gq_g (gq_in (8 * a12) 24) (gq_l (M 115 ((8 * a12) : Int32).toNatClampNeg) fun v5 => if v5 = 2 then (gq_b (f_L_hears N a12 M) fun v28 M30 => gq_g (gq_in 0 56) (gq_l (M30 119 (0 : Int32).toNatClampNeg) fun v32 => gq_g (gq_in ((8 * a12) + 3) 24) (gq_l (M30 115 (((8 * a12) + 3) : Int32).toNatClampNeg) fun v34 => if v34 ≤ v32 then (gq_g (gq_in ((8 * a12) + 1) 24) (gq_l (M30 115 (((8 * a12) + 1) : Int32).toNatClampNeg) fun v37 => gq_b (f_L_first N v37 M30) fun v38 M40 => gq_g (gq_in v38 40) (gq_l (M40 110 v38.toNatClampNeg) fun v42 => f_L_ticks_265 N  N a12 (8 * a12) (v42 - v42 / 128 * 128) (-1) 7 M40))) else (some (0, M30))))) else (gq_g (gq_in (8 * a12) 24) (gq_l (M 115 ((8 * a12) : Int32).toNatClampNeg) fun v8 => if v8 = 3 then (gq_g (gq_in 0 56) (gq_l (M 119 (0 : Int32).toNatClampNeg) fun v11 => gq_g (gq_in ((8 * a12) + 3) 24) (gq_l (M 115 (((8 * a12) + 3) : Int32).toNatClampNeg) fun v13 => if v11 < v13 then (some (0, M)) else (gq_g (gq_in ((8 * a12) + 4) 24) (gq_l (M 115 (((8 * a12) + 4) : Int32).toNatClampNeg) fun v16 => gq_b (f_L_costs N a12 1 0 M) fun v17 M19 => gq_g (gq_in (24 + v16) 56) (gq_l (M19 119 ((24 + v16) : Int32).toNatClampNeg) fun v21 => gq_g (gq_in (40 + v16) 56) (gq_l (M19 119 ((40 + v16) : Int32).toNatClampNeg) fun v23 => if (v21 - v23) < v17 then (f_L_ticks_593 N  a12 M19) else (gq_b (f_L_costs N a12 1 1 M19) fun v25 M27 => f_L_ticks_593 N  a12 M27)))))))) else (some (0, M)))))))
set_option maxHeartbeats 1000000 in
set_option maxRecDepth 20000 in
theorem t_L_ticks {l : Launch} {D : va_G} {cI cZ : ClassId} {ad : Nat → Nat} (N : Nat) (a12 : Int32) (M : gq_M) (v9 : Int32) (M9 : gq_M) (h : f_L_ticks N a12 M = some (v9, M9)) : gq_Cv l D cI cZ ad mtL yL_ticks cL_ticks 20 4 [.ref (ad 109), .ref (ad 110), .ref (ad 111), .ref (ad 112), .ref (ad 113), .ref (ad 114), .ref (ad 115), .ref (ad 116), .ref (ad 117), .ref (ad 118), .ref (ad 119), .ref (ad 121), .int a12] M M9 := by
  refine gq_introV (own := RL) (by decide) rfl (Nat.le_of_ble_eq_true rfl) ?_
  intro p e s m below meth c hC hr
  refine g_cast (L2 := [(0, .ref (ad 109)), (1, .ref (ad 110)), (2, .ref (ad 111)), (3, .ref (ad 112)), (4, .ref (ad 113)), (5, .ref (ad 114)), (6, .ref (ad 115)), (7, .ref (ad 116)), (8, .ref (ad 117)), (9, .ref (ad 118)), (10, .ref (ad 119)), (11, .ref (ad 121)), (12, .int a12)]) ?_ rfl rfl rfl rfl
  unfold f_L_ticks at h
  refine g_bipush (v := 8) hC (by decide) dL_ticks_0 ?_
  refine g_iload hC 12 rfl dL_ticks_2 ?_
  refine g_imul hC dL_ticks_4 ?_
  refine g_istore (L2 := [(13, .int (8 * a12)), (0, .ref (ad 109)), (1, .ref (ad 110)), (2, .ref (ad 111)), (3, .ref (ad 112)), (4, .ref (ad 113)), (5, .ref (ad 114)), (6, .ref (ad 115)), (7, .ref (ad 116)), (8, .ref (ad 117)), (9, .ref (ad 118)), (10, .ref (ad 119)), (11, .ref (ad 121)), (12, .int a12)]) hC (by decide) rfl dL_ticks_5 ?_
  refine g_aload hC 7 rfl dL_ticks_7 ?_
  refine g_iload hC 0 rfl dL_ticks_9 ?_
  obtain ⟨g1, h⟩ := gq_g_i h
  refine g_iald hC arL_115 (gq_in_i g1) dL_ticks_11 ?_
  refine g_topi (fun v2 hv2 => ?_)
  replace h := gq_l_i hv2 h
  refine g_iconst (v := 1) hC (by decide) dL_ticks_12 ?_
  refine g_icmp_ne (tgt := 198) hC (by decide) dL_ticks_13 (fun c3 => ?_) (fun c3 => ?_)
  · replace h := gq_f c3 h
    refine g_aload hC 7 rfl dL_ticks_198 ?_
    refine g_iload hC 0 rfl dL_ticks_200 ?_
    obtain ⟨g4, h⟩ := gq_g_i h
    refine g_iald hC arL_115 (gq_in_i g4) dL_ticks_202 ?_
    refine g_topi (fun v5 hv5 => ?_)
    replace h := gq_l_i hv5 h
    refine g_iconst (v := 2) hC (by decide) dL_ticks_203 ?_
    refine g_icmp_ne (tgt := 498) hC (by decide) dL_ticks_204 (fun c6 => ?_) (fun c6 => ?_)
    · replace h := gq_f c6 h
      refine g_aload hC 7 rfl dL_ticks_498 ?_
      refine g_iload hC 0 rfl dL_ticks_500 ?_
      obtain ⟨g7, h⟩ := gq_g_i h
      refine g_iald hC arL_115 (gq_in_i g7) dL_ticks_502 ?_
      refine g_topi (fun v8 hv8 => ?_)
      replace h := gq_l_i hv8 h
      refine g_iconst (v := 3) hC (by decide) dL_ticks_503 ?_
      refine g_icmp_ne (tgt := 608) hC (by decide) dL_ticks_504 (fun c9 => ?_) (fun c9 => ?_)
      · replace h := gq_f c9 h
        exact g_vrets hC hr h dL_ticks_608
      · replace h := gq_t c9 h
        refine g_aload hC 11 rfl dL_ticks_507 ?_
        refine g_iconst (v := 0) hC (by decide) dL_ticks_509 ?_
        obtain ⟨g10, h⟩ := gq_g_i h
        refine g_iald hC arL_119 (gq_in_i g10) dL_ticks_510 ?_
        refine g_topi (fun v11 hv11 => ?_)
        replace h := gq_l_i hv11 h
        refine g_aload hC 7 rfl dL_ticks_511 ?_
        refine g_iload hC 0 rfl dL_ticks_513 ?_
        refine g_iconst (v := 3) hC (by decide) dL_ticks_515 ?_
        refine g_iadd hC dL_ticks_516 ?_
        obtain ⟨g12, h⟩ := gq_g_i h
        refine g_iald hC arL_115 (gq_in_i g12) dL_ticks_517 ?_
        refine g_topi (fun v13 hv13 => ?_)
        replace h := gq_l_i hv13 h
        refine g_icmp_lt (tgt := 608) hC (by decide) dL_ticks_518 (fun c14 => ?_) (fun c14 => ?_)
        · replace h := gq_t c14 h
          exact g_vrets hC hr h dL_ticks_608
        · replace h := gq_f c14 h
          refine g_aload hC 7 rfl dL_ticks_521 ?_
          refine g_iload hC 0 rfl dL_ticks_523 ?_
          refine g_iconst (v := 4) hC (by decide) dL_ticks_525 ?_
          refine g_iadd hC dL_ticks_526 ?_
          obtain ⟨g15, h⟩ := gq_g_i h
          refine g_iald hC arL_115 (gq_in_i g15) dL_ticks_527 ?_
          refine g_topi (fun v16 hv16 => ?_)
          replace h := gq_l_i hv16 h
          refine g_istore (L2 := [(14, .int v16), (13, .int (8 * a12)), (0, .ref (ad 109)), (1, .ref (ad 110)), (2, .ref (ad 111)), (3, .ref (ad 112)), (4, .ref (ad 113)), (5, .ref (ad 114)), (6, .ref (ad 115)), (7, .ref (ad 116)), (8, .ref (ad 117)), (9, .ref (ad 118)), (10, .ref (ad 119)), (11, .ref (ad 121)), (12, .int a12)]) hC (by decide) rfl dL_ticks_528 ?_
          refine g_aload_n hC 2 rfl rfl dL_ticks_530 ?_
          refine g_aload_n hC 3 rfl rfl dL_ticks_531 ?_
          refine g_aload_n hC 4 rfl rfl dL_ticks_532 ?_
          refine g_aload_n hC 5 rfl rfl dL_ticks_533 ?_
          refine g_aload hC 6 rfl dL_ticks_534 ?_
          refine g_aload hC 8 rfl dL_ticks_536 ?_
          refine g_aload hC 12 rfl dL_ticks_538 ?_
          refine g_aload hC 13 rfl dL_ticks_540 ?_
          refine g_iload hC 14 rfl dL_ticks_542 ?_
          refine g_iconst (v := 1) hC (by decide) dL_ticks_544 ?_
          refine g_iconst (v := 0) hC (by decide) dL_ticks_545 ?_
          obtain ⟨v17, M19, c18, h⟩ := gq_b_i h
          refine g_Si (as := [.ref (ad 109), .ref (ad 110), .ref (ad 111), .ref (ad 112), .ref (ad 113), .ref (ad 115), .ref (ad 119), .ref (ad 121), .int a12, .int 1, .int 0]) hC (t_L_costs N _ _ _ _ _ _ c18) mS_L_costs wm_L_136 rfl rfl (Nat.le_of_ble_eq_true rfl) ⟨Nat.le_of_ble_eq_true rfl, Nat.le_of_ble_eq_true rfl⟩ ⟨Nat.zero_le _, Nat.zero_le _⟩ dL_ticks_546 ?_
          refine g_istore (L2 := [(15, .int v17), (14, .int v16), (13, .int (8 * a12)), (0, .ref (ad 109)), (1, .ref (ad 110)), (2, .ref (ad 111)), (3, .ref (ad 112)), (4, .ref (ad 113)), (5, .ref (ad 114)), (6, .ref (ad 115)), (7, .ref (ad 116)), (8, .ref (ad 117)), (9, .ref (ad 118)), (10, .ref (ad 119)), (11, .ref (ad 121)), (12, .int a12)]) hC (by decide) rfl dL_ticks_549 ?_
          refine g_aload hC 13 rfl dL_ticks_551 ?_
          refine g_bipush (v := 24) hC (by decide) dL_ticks_553 ?_
          refine g_iload hC 1 rfl dL_ticks_555 ?_
          refine g_iadd hC dL_ticks_557 ?_
          obtain ⟨g20, h⟩ := gq_g_i h
          refine g_iald hC arL_119 (gq_in_i g20) dL_ticks_558 ?_
          refine g_topi (fun v21 hv21 => ?_)
          replace h := gq_l_i hv21 h
          refine g_aload hC 13 rfl dL_ticks_559 ?_
          refine g_bipush (v := 40) hC (by decide) dL_ticks_561 ?_
          refine g_iload hC 1 rfl dL_ticks_563 ?_
          refine g_iadd hC dL_ticks_565 ?_
          obtain ⟨g22, h⟩ := gq_g_i h
          refine g_iald hC arL_119 (gq_in_i g22) dL_ticks_566 ?_
          refine g_topi (fun v23 hv23 => ?_)
          replace h := gq_l_i hv23 h
          refine g_isub hC dL_ticks_567 ?_
          refine g_iload hC 0 rfl dL_ticks_568 ?_
          refine g_icmp_lt (tgt := 593) hC (by decide) dL_ticks_570 (fun c24 => ?_) (fun c24 => ?_)
          · replace h := gq_t c24 h
            exact g_weak [3, 5, 8, 9, 10, 13, 15] rfl (t_L_ticks_593 hC hr  a12 M19 h)
          · replace h := gq_f c24 h
            refine g_aload_n hC 3 rfl rfl dL_ticks_573 ?_
            refine g_aload_n hC 4 rfl rfl dL_ticks_574 ?_
            refine g_aload_n hC 5 rfl rfl dL_ticks_575 ?_
            refine g_aload_n hC 6 rfl rfl dL_ticks_576 ?_
            refine g_aload hC 7 rfl dL_ticks_577 ?_
            refine g_aload hC 9 rfl dL_ticks_579 ?_
            refine g_aload hC 13 rfl dL_ticks_581 ?_
            refine g_aload hC 14 rfl dL_ticks_583 ?_
            refine g_iload hC 15 rfl dL_ticks_585 ?_
            refine g_iconst (v := 1) hC (by decide) dL_ticks_587 ?_
            refine g_iconst (v := 1) hC (by decide) dL_ticks_588 ?_
            obtain ⟨v25, M27, c26, h⟩ := gq_b_i h
            refine g_Si (as := [.ref (ad 109), .ref (ad 110), .ref (ad 111), .ref (ad 112), .ref (ad 113), .ref (ad 115), .ref (ad 119), .ref (ad 121), .int a12, .int 1, .int 1]) hC (t_L_costs N _ _ _ _ _ _ c26) mS_L_costs wm_L_136 rfl rfl (Nat.le_of_ble_eq_true rfl) ⟨Nat.le_of_ble_eq_true rfl, Nat.le_of_ble_eq_true rfl⟩ ⟨Nat.zero_le _, Nat.zero_le _⟩ dL_ticks_589 ?_
            refine g_pop hC rfl dL_ticks_592 ?_
            exact g_weak [3, 5, 8, 9, 10, 13, 15] rfl (t_L_ticks_593 hC hr  a12 M27 h)
    · replace h := gq_t c6 h
      refine g_aload hC 8 rfl dL_ticks_207 ?_
      refine g_aload hC 9 rfl dL_ticks_209 ?_
      refine g_aload hC 10 rfl dL_ticks_211 ?_
      refine g_aload hC 11 rfl dL_ticks_213 ?_
      refine g_iload hC 13 rfl dL_ticks_215 ?_
      obtain ⟨v28, M30, c29, h⟩ := gq_b_i h
      refine g_Si (as := [.ref (ad 116), .ref (ad 117), .ref (ad 118), .ref (ad 119), .int a12]) hC (t_L_hears N _ _ _ _ c29) mS_L_hears wm_L_124 rfl rfl (Nat.le_of_ble_eq_true rfl) ⟨Nat.le_of_ble_eq_true rfl, Nat.le_of_ble_eq_true rfl⟩ ⟨Nat.zero_le _, Nat.zero_le _⟩ dL_ticks_217 ?_
      refine g_pop hC rfl dL_ticks_220 ?_
      refine g_aload hC 11 rfl dL_ticks_221 ?_
      refine g_iconst (v := 0) hC (by decide) dL_ticks_223 ?_
      obtain ⟨g31, h⟩ := gq_g_i h
      refine g_iald hC arL_119 (gq_in_i g31) dL_ticks_224 ?_
      refine g_topi (fun v32 hv32 => ?_)
      replace h := gq_l_i hv32 h
      refine g_aload hC 7 rfl dL_ticks_225 ?_
      refine g_iload hC 0 rfl dL_ticks_227 ?_
      refine g_iconst (v := 3) hC (by decide) dL_ticks_229 ?_
      refine g_iadd hC dL_ticks_230 ?_
      obtain ⟨g33, h⟩ := gq_g_i h
      refine g_iald hC arL_115 (gq_in_i g33) dL_ticks_231 ?_
      refine g_topi (fun v34 hv34 => ?_)
      replace h := gq_l_i hv34 h
      refine g_icmp_ge (tgt := 236) hC (by decide) dL_ticks_232 (fun c35 => ?_) (fun c35 => ?_)
      · replace h := gq_t c35 h
        refine g_aload_n hC 2 rfl rfl dL_ticks_236 ?_
        refine g_aload_n hC 1 rfl rfl dL_ticks_237 ?_
        refine g_aload_n hC 3 rfl rfl dL_ticks_238 ?_
        refine g_aload hC 11 rfl dL_ticks_239 ?_
        refine g_aload hC 7 rfl dL_ticks_241 ?_
        refine g_iload hC 0 rfl dL_ticks_243 ?_
        refine g_iconst (v := 1) hC (by decide) dL_ticks_245 ?_
        refine g_iadd hC dL_ticks_246 ?_
        obtain ⟨g36, h⟩ := gq_g_i h
        refine g_iald hC arL_115 (gq_in_i g36) dL_ticks_247 ?_
        refine g_topi (fun v37 hv37 => ?_)
        replace h := gq_l_i hv37 h
        obtain ⟨v38, M40, c39, h⟩ := gq_b_i h
        refine g_Si (as := [.ref (ad 109), .ref (ad 111), .ref (ad 119), .int v37]) hC (t_L_first N _ _ _ _ c39) mS_L_first wm_L_132 rfl rfl (Nat.le_of_ble_eq_true rfl) ⟨Nat.le_of_ble_eq_true rfl, Nat.le_of_ble_eq_true rfl⟩ ⟨Nat.zero_le _, Nat.zero_le _⟩ dL_ticks_248 ?_
        obtain ⟨g41, h⟩ := gq_g_i h
        refine g_iald hC arL_110 (gq_in_i g41) dL_ticks_251 ?_
        refine g_topi (fun v42 hv42 => ?_)
        replace h := gq_l_i hv42 h
        refine g_sipush (v := 128) hC (by decide) dL_ticks_252 ?_
        refine g_irem hC (by decide) dL_ticks_255 ?_
        refine g_istore (L2 := [(14, .int (v42 - v42 / 128 * 128)), (13, .int (8 * a12)), (0, .ref (ad 109)), (1, .ref (ad 110)), (2, .ref (ad 111)), (3, .ref (ad 112)), (4, .ref (ad 113)), (5, .ref (ad 114)), (6, .ref (ad 115)), (7, .ref (ad 116)), (8, .ref (ad 117)), (9, .ref (ad 118)), (10, .ref (ad 119)), (11, .ref (ad 121)), (12, .int a12)]) hC (by decide) rfl dL_ticks_256 ?_
        refine g_iconst (v := (-1)) hC (by decide) dL_ticks_258 ?_
        refine g_istore (L2 := [(15, .int (-1)), (14, .int (v42 - v42 / 128 * 128)), (13, .int (8 * a12)), (0, .ref (ad 109)), (1, .ref (ad 110)), (2, .ref (ad 111)), (3, .ref (ad 112)), (4, .ref (ad 113)), (5, .ref (ad 114)), (6, .ref (ad 115)), (7, .ref (ad 116)), (8, .ref (ad 117)), (9, .ref (ad 118)), (10, .ref (ad 119)), (11, .ref (ad 121)), (12, .int a12)]) hC (by decide) rfl dL_ticks_259 ?_
        refine g_bipush (v := 7) hC (by decide) dL_ticks_261 ?_
        refine g_istore (L2 := [(16, .int 7), (15, .int (-1)), (14, .int (v42 - v42 / 128 * 128)), (13, .int (8 * a12)), (0, .ref (ad 109)), (1, .ref (ad 110)), (2, .ref (ad 111)), (3, .ref (ad 112)), (4, .ref (ad 113)), (5, .ref (ad 114)), (6, .ref (ad 115)), (7, .ref (ad 116)), (8, .ref (ad 117)), (9, .ref (ad 118)), (10, .ref (ad 119)), (11, .ref (ad 121)), (12, .int a12)]) hC (by decide) rfl dL_ticks_263 ?_
        exact g_weak [10, 11, 13, 14, 16, 3, 2, 1, 0] rfl (t_L_ticks_265 hC hr  N a12 (8 * a12) (v42 - v42 / 128 * 128) (-1) 7 M40 h)
      · replace h := gq_f c35 h
        exact g_vrets hC hr h dL_ticks_235
  · replace h := gq_t c3 h
    refine g_aload hC 8 rfl dL_ticks_16 ?_
    refine g_aload hC 9 rfl dL_ticks_18 ?_
    refine g_aload hC 10 rfl dL_ticks_20 ?_
    refine g_aload hC 11 rfl dL_ticks_22 ?_
    refine g_iload hC 13 rfl dL_ticks_24 ?_
    obtain ⟨v43, M45, c44, h⟩ := gq_b_i h
    refine g_Si (as := [.ref (ad 116), .ref (ad 117), .ref (ad 118), .ref (ad 119), .int a12]) hC (t_L_hears N _ _ _ _ c44) mS_L_hears wm_L_124 rfl rfl (Nat.le_of_ble_eq_true rfl) ⟨Nat.le_of_ble_eq_true rfl, Nat.le_of_ble_eq_true rfl⟩ ⟨Nat.zero_le _, Nat.zero_le _⟩ dL_ticks_26 ?_
    refine g_if_eq (tgt := 100) hC (by decide) dL_ticks_29 (fun c46 => ?_) (fun c46 => ?_)
    · replace h := gq_t c46 h
      refine g_aload hC 7 rfl dL_ticks_100 ?_
      refine g_iload hC 0 rfl dL_ticks_102 ?_
      refine g_iconst (v := 1) hC (by decide) dL_ticks_104 ?_
      refine g_iadd hC dL_ticks_105 ?_
      obtain ⟨g47, h⟩ := gq_g_i h
      refine g_iald hC arL_115 (gq_in_i g47) dL_ticks_106 ?_
      refine g_topi (fun v48 hv48 => ?_)
      replace h := gq_l_i hv48 h
      refine g_istore (L2 := [(14, .int v48), (13, .int (8 * a12)), (0, .ref (ad 109)), (1, .ref (ad 110)), (2, .ref (ad 111)), (3, .ref (ad 112)), (4, .ref (ad 113)), (5, .ref (ad 114)), (6, .ref (ad 115)), (7, .ref (ad 116)), (8, .ref (ad 117)), (9, .ref (ad 118)), (10, .ref (ad 119)), (11, .ref (ad 121)), (12, .int a12)]) hC (by decide) rfl dL_ticks_107 ?_
      refine g_aload hC 8 rfl dL_ticks_109 ?_
      refine g_iload hC 1 rfl dL_ticks_111 ?_
      refine g_iconst (v := 2) hC (by decide) dL_ticks_113 ?_
      refine g_iadd hC dL_ticks_114 ?_
      refine g_dup2 hC rfl rfl dL_ticks_115 ?_
      obtain ⟨g49, h⟩ := gq_g_i h
      refine g_iald hC arL_115 (gq_in_i g49) dL_ticks_116 ?_
      refine g_topi (fun v50 hv50 => ?_)
      replace h := gq_l_i hv50 h
      refine g_aload hC 8 rfl dL_ticks_117 ?_
      refine g_iload hC 1 rfl dL_ticks_119 ?_
      refine g_iconst (v := 5) hC (by decide) dL_ticks_121 ?_
      refine g_iadd hC dL_ticks_122 ?_
      obtain ⟨g51, h⟩ := gq_g_i h
      refine g_iald hC arL_115 (gq_in_i g51) dL_ticks_123 ?_
      refine g_topi (fun v52 hv52 => ?_)
      replace h := gq_l_i hv52 h
      refine g_isub hC dL_ticks_124 ?_
      obtain ⟨g53, h⟩ := gq_g_i h
      refine g_iast hC arL_115 (gq_in_i g53) dL_ticks_125 ?_
      refine g_topM (fun M54 hM54 => ?_)
      replace h := gq_l_i hM54 h
      refine g_aload hC 8 rfl dL_ticks_126 ?_
      refine g_iload hC 1 rfl dL_ticks_128 ?_
      refine g_iconst (v := 2) hC (by decide) dL_ticks_130 ?_
      refine g_iadd hC dL_ticks_131 ?_
      obtain ⟨g55, h⟩ := gq_g_i h
      refine g_iald hC arL_115 (gq_in_i g55) dL_ticks_132 ?_
      refine g_topi (fun v56 hv56 => ?_)
      replace h := gq_l_i hv56 h
      refine g_aload hC 12 rfl dL_ticks_133 ?_
      refine g_bipush (v := 12) hC (by decide) dL_ticks_135 ?_
      refine g_aload hC 7 rfl dL_ticks_137 ?_
      refine g_iload hC 0 rfl dL_ticks_139 ?_
      obtain ⟨g57, h⟩ := gq_g_i h
      refine g_iald hC arL_114 (gq_in_i g57) dL_ticks_141 ?_
      refine g_topi (fun v58 hv58 => ?_)
      replace h := gq_l_i hv58 h
      refine g_bipush (v := 8) hC (by decide) dL_ticks_142 ?_
      refine g_idiv hC (by decide) dL_ticks_144 ?_
      refine g_iconst (v := 4) hC (by decide) dL_ticks_145 ?_
      refine g_irem hC (by decide) dL_ticks_146 ?_
      refine g_iadd hC dL_ticks_147 ?_
      obtain ⟨g59, h⟩ := gq_g_i h
      refine g_iald hC arL_119 (gq_in_i g59) dL_ticks_148 ?_
      refine g_topi (fun v60 hv60 => ?_)
      replace h := gq_l_i hv60 h
      refine g_bipush (v := 10) hC (by decide) dL_ticks_149 ?_
      refine g_aload hC 7 rfl dL_ticks_151 ?_
      refine g_iload hC 0 rfl dL_ticks_153 ?_
      obtain ⟨g61, h⟩ := gq_g_i h
      refine g_iald hC arL_114 (gq_in_i g61) dL_ticks_155 ?_
      refine g_topi (fun v62 hv62 => ?_)
      replace h := gq_l_i hv62 h
      refine g_bipush (v := 32) hC (by decide) dL_ticks_156 ?_
      refine g_idiv hC (by decide) dL_ticks_158 ?_
      refine g_iconst (v := 4) hC (by decide) dL_ticks_159 ?_
      refine g_irem hC (by decide) dL_ticks_160 ?_
      refine g_iadd hC dL_ticks_161 ?_
      refine g_imul hC dL_ticks_162 ?_
      refine g_topi (fun v63 hv63 => ?_)
      replace h := gq_l_i hv63 h
      refine g_bipush (v := 10) hC (by decide) dL_ticks_163 ?_
      refine g_idiv hC (by decide) dL_ticks_165 ?_
      refine g_icmp_ge (tgt := 195) hC (by decide) dL_ticks_166 (fun c64 => ?_) (fun c64 => ?_)
      · replace h := gq_t c64 h
        exact g_weak [] rfl (t_L_ticks_195 hC hr   M54 h)
      · replace h := gq_f c64 h
        refine g_aload_n hC 2 rfl rfl dL_ticks_169 ?_
        refine g_aload_n hC 3 rfl rfl dL_ticks_170 ?_
        refine g_aload_n hC 4 rfl rfl dL_ticks_171 ?_
        refine g_aload hC 12 rfl dL_ticks_172 ?_
        refine g_aload hC 13 rfl dL_ticks_174 ?_
        refine g_iload hC 0 rfl dL_ticks_176 ?_
        obtain ⟨v65, M67, c66, h⟩ := gq_b_i h
        refine g_Si (as := [.ref (ad 109), .ref (ad 110), .ref (ad 111), .ref (ad 119), .ref (ad 121), .int v48]) hC (t_L_withdraws N _ _ _ _ c66) mS_L_withdraws wm_L_128 rfl rfl (Nat.le_of_ble_eq_true rfl) ⟨Nat.le_of_ble_eq_true rfl, Nat.le_of_ble_eq_true rfl⟩ ⟨Nat.zero_le _, Nat.zero_le _⟩ dL_ticks_178 ?_
        refine g_pop hC rfl dL_ticks_181 ?_
        refine g_aload hC 7 rfl dL_ticks_182 ?_
        refine g_aload hC 8 rfl dL_ticks_184 ?_
        refine g_aload hC 9 rfl dL_ticks_186 ?_
        refine g_aload hC 12 rfl dL_ticks_188 ?_
        refine g_iload hC 14 rfl dL_ticks_190 ?_
        obtain ⟨v68, M70, c69, h⟩ := gq_b_i h
        refine g_Sv (as := [.ref (ad 114), .ref (ad 115), .ref (ad 116), .ref (ad 119), .int a12]) hC (t_L_done N _ _ _ _ c69) mS_L_done wm_L_120 rfl rfl (Nat.le_of_ble_eq_true rfl) ⟨Nat.le_of_ble_eq_true rfl, Nat.le_of_ble_eq_true rfl⟩ ⟨Nat.zero_le _, Nat.zero_le _⟩ dL_ticks_192 ?_
        exact g_weak [] rfl (t_L_ticks_195 hC hr   M70 h)
    · replace h := gq_f c46 h
      refine g_iconst (v := 0) hC (by decide) dL_ticks_32 ?_
      refine g_istore (L2 := [(14, .int 0), (13, .int (8 * a12)), (0, .ref (ad 109)), (1, .ref (ad 110)), (2, .ref (ad 111)), (3, .ref (ad 112)), (4, .ref (ad 113)), (5, .ref (ad 114)), (6, .ref (ad 115)), (7, .ref (ad 116)), (8, .ref (ad 117)), (9, .ref (ad 118)), (10, .ref (ad 119)), (11, .ref (ad 121)), (12, .int a12)]) hC (by decide) rfl dL_ticks_33 ?_
      refine g_iconst (v := 0) hC (by decide) dL_ticks_35 ?_
      refine g_istore (L2 := [(15, .int 0), (14, .int 0), (13, .int (8 * a12)), (0, .ref (ad 109)), (1, .ref (ad 110)), (2, .ref (ad 111)), (3, .ref (ad 112)), (4, .ref (ad 113)), (5, .ref (ad 114)), (6, .ref (ad 115)), (7, .ref (ad 116)), (8, .ref (ad 117)), (9, .ref (ad 118)), (10, .ref (ad 119)), (11, .ref (ad 121)), (12, .int a12)]) hC (by decide) rfl dL_ticks_36 ?_
      exact g_weak [9, 13, 2, 1, 0] rfl (t_L_ticks_38 hC hr  N (8 * a12) 0 0 M45 h)
def f_L_passes_210 (N : Nat) (kh66 : Int32 → gq_M → Option (Int32 × gq_M)) (x13 : Int32) (M : gq_M) : Option (Int32 × gq_M) :=
  kh66 (x13 + 1) M
set_option maxHeartbeats 1000000 in
set_option maxRecDepth 20000 in
theorem t_L_passes_210 {N : Nat} {kh66 : Int32 → gq_M → Option (Int32 × gq_M)} {v9 : Int32} {M9 : gq_M} (hC : gq_C p s m args meth c D A cI cZ ad mtL RL cL_passes 17) (hr : meth.sig.returnType = none) (hk66 : ∀ (x13 : Int32) (M : gq_M), kh66 x13 M = some (v9, M9) → gq_W p l e (gq_rm 5) s m args below meth c D A cI cZ ad mtL 17 (MQ below (gq_Qv D cI cZ ad mtL M9 A) args s 0 0 A) 66 [(0, .ref (ad 109)), (3, .ref (ad 112)), (10, .ref (ad 119)), (12, .ref (ad 122)), (13, .int x13)] [] M 0 0)  : ∀ (x13 : Int32) (M : gq_M), f_L_passes_210 N kh66 x13 M = some (v9, M9) → gq_W p l e (gq_rm 5) s m args below meth c D A cI cZ ad mtL 17 (MQ below (gq_Qv D cI cZ ad mtL M9 A) args s 0 0 A) 210 [(0, .ref (ad 109)), (3, .ref (ad 112)), (10, .ref (ad 119)), (12, .ref (ad 122)), (13, .int x13)] [] M 0 0 := by
  intro x13 M h
  unfold f_L_passes_210 at h
  refine g_iinc (v := (x13 + 1)) (L2 := [(13, .int (x13 + 1)), (0, .ref (ad 109)), (3, .ref (ad 112)), (10, .ref (ad 119)), (12, .ref (ad 122))]) hC 4 rfl (by first | rfl | decide) (by decide) rfl dL_passes_210 ?_
  refine g_goto (tgt := 66) hC (by decide) dL_passes_213 ?_
  exact g_weak [1, 2, 3, 4, 0] rfl (hk66 (x13 + 1) M h)
def f_L_passes_190 (N : Nat) (kh66 : Int32 → gq_M → Option (Int32 × gq_M)) (kh98 : Int32 → Int32 → Int32 → gq_M → Option (Int32 × gq_M)) (x13 : Int32) (x15 : Int32) (s0 : Int32) (s1 : Int32) (M : gq_M) : Option (Int32 × gq_M) :=
  kh98 x13 (s0 + s1) (x15 + 1) M
set_option maxHeartbeats 1000000 in
set_option maxRecDepth 20000 in
theorem t_L_passes_190 {N : Nat} {kh66 : Int32 → gq_M → Option (Int32 × gq_M)} {kh98 : Int32 → Int32 → Int32 → gq_M → Option (Int32 × gq_M)} {v9 : Int32} {M9 : gq_M} (hC : gq_C p s m args meth c D A cI cZ ad mtL RL cL_passes 17) (hr : meth.sig.returnType = none) (hk66 : ∀ (x13 : Int32) (M : gq_M), kh66 x13 M = some (v9, M9) → gq_W p l e (gq_rm 5) s m args below meth c D A cI cZ ad mtL 17 (MQ below (gq_Qv D cI cZ ad mtL M9 A) args s 0 0 A) 66 [(0, .ref (ad 109)), (3, .ref (ad 112)), (10, .ref (ad 119)), (12, .ref (ad 122)), (13, .int x13)] [] M 0 0) (hk98 : ∀ (x13 : Int32) (x14 : Int32) (x15 : Int32) (M : gq_M), kh98 x13 x14 x15 M = some (v9, M9) → gq_W p l e (gq_rm 5) s m args below meth c D A cI cZ ad mtL 17 (MQ below (gq_Qv D cI cZ ad mtL M9 A) args s 0 0 A) 98 [(0, .ref (ad 109)), (3, .ref (ad 112)), (10, .ref (ad 119)), (12, .ref (ad 122)), (13, .int x13), (14, .int x14), (15, .int x15)] [] M 0 0)  : ∀ (x13 : Int32) (x15 : Int32) (s0 : Int32) (s1 : Int32) (M : gq_M), f_L_passes_190 N kh66 kh98 x13 x15 s0 s1 M = some (v9, M9) → gq_W p l e (gq_rm 5) s m args below meth c D A cI cZ ad mtL 17 (MQ below (gq_Qv D cI cZ ad mtL M9 A) args s 0 0 A) 190 [(0, .ref (ad 109)), (3, .ref (ad 112)), (10, .ref (ad 119)), (12, .ref (ad 122)), (13, .int x13), (15, .int x15)] [.int s1, .int s0] M 0 0 := by
  intro x13 x15 s0 s1 M h
  unfold f_L_passes_190 at h
  refine g_iadd hC dL_passes_190 ?_
  refine g_istore (L2 := [(14, .int (s0 + s1)), (0, .ref (ad 109)), (3, .ref (ad 112)), (10, .ref (ad 119)), (12, .ref (ad 122)), (13, .int x13), (15, .int x15)]) hC (by decide) rfl dL_passes_191 ?_
  refine g_iinc (v := (x15 + 1)) (L2 := [(15, .int (x15 + 1)), (14, .int (s0 + s1)), (0, .ref (ad 109)), (3, .ref (ad 112)), (10, .ref (ad 119)), (12, .ref (ad 122)), (13, .int x13)]) hC 6 rfl (by first | rfl | decide) (by decide) rfl dL_passes_193 ?_
  refine g_goto (tgt := 98) hC (by decide) dL_passes_196 ?_
  exact g_weak [2, 3, 4, 5, 6, 1, 0] rfl (hk98 x13 (s0 + s1) (x15 + 1) M h)
def f_L_passes_175 (N : Nat) (kh66 : Int32 → gq_M → Option (Int32 × gq_M)) (kh98 : Int32 → Int32 → Int32 → gq_M → Option (Int32 × gq_M)) (x13 : Int32) (x14 : Int32) (x15 : Int32) (x16 : Int32) (s1 : Int32) (s2 : Int32) (M : gq_M) : Option (Int32 × gq_M) :=
  gq_b (f_L_becomes N s1 s2 M) fun v41 M43 => if x16 = 0 then (f_L_passes_190 N kh66 kh98 x13 x15 x14 0 M43) else (f_L_passes_190 N kh66 kh98 x13 x15 x14 1 M43)
set_option maxHeartbeats 1000000 in
set_option maxRecDepth 20000 in
theorem t_L_passes_175 {N : Nat} {kh66 : Int32 → gq_M → Option (Int32 × gq_M)} {kh98 : Int32 → Int32 → Int32 → gq_M → Option (Int32 × gq_M)} {v9 : Int32} {M9 : gq_M} (hC : gq_C p s m args meth c D A cI cZ ad mtL RL cL_passes 17) (hr : meth.sig.returnType = none) (hk66 : ∀ (x13 : Int32) (M : gq_M), kh66 x13 M = some (v9, M9) → gq_W p l e (gq_rm 5) s m args below meth c D A cI cZ ad mtL 17 (MQ below (gq_Qv D cI cZ ad mtL M9 A) args s 0 0 A) 66 [(0, .ref (ad 109)), (3, .ref (ad 112)), (10, .ref (ad 119)), (12, .ref (ad 122)), (13, .int x13)] [] M 0 0) (hk98 : ∀ (x13 : Int32) (x14 : Int32) (x15 : Int32) (M : gq_M), kh98 x13 x14 x15 M = some (v9, M9) → gq_W p l e (gq_rm 5) s m args below meth c D A cI cZ ad mtL 17 (MQ below (gq_Qv D cI cZ ad mtL M9 A) args s 0 0 A) 98 [(0, .ref (ad 109)), (3, .ref (ad 112)), (10, .ref (ad 119)), (12, .ref (ad 122)), (13, .int x13), (14, .int x14), (15, .int x15)] [] M 0 0)  : ∀ (x13 : Int32) (x14 : Int32) (x15 : Int32) (x16 : Int32) (s1 : Int32) (s2 : Int32) (M : gq_M), f_L_passes_175 N kh66 kh98 x13 x14 x15 x16 s1 s2 M = some (v9, M9) → gq_W p l e (gq_rm 5) s m args below meth c D A cI cZ ad mtL 17 (MQ below (gq_Qv D cI cZ ad mtL M9 A) args s 0 0 A) 175 [(0, .ref (ad 109)), (3, .ref (ad 112)), (10, .ref (ad 119)), (12, .ref (ad 122)), (13, .int x13), (14, .int x14), (15, .int x15), (16, .int x16)] [.int s2, .int s1, .ref (ad 109)] M 0 0 := by
  intro x13 x14 x15 x16 s1 s2 M h
  unfold f_L_passes_175 at h
  obtain ⟨v41, M43, c42, h⟩ := gq_b_i h
  refine g_Sv (as := [.ref (ad 109), .int s1, .int s2]) hC (t_L_becomes N _ _ _ _ _ c42) mS_L_becomes wm_L_107 rfl rfl (Nat.le_of_ble_eq_true rfl) ⟨Nat.le_of_ble_eq_true rfl, Nat.le_of_ble_eq_true rfl⟩ ⟨Nat.zero_le _, Nat.zero_le _⟩ dL_passes_175 ?_
  refine g_iload hC 5 rfl dL_passes_178 ?_
  refine g_iload hC 7 rfl dL_passes_180 ?_
  refine g_if_eq (tgt := 189) hC (by decide) dL_passes_182 (fun c44 => ?_) (fun c44 => ?_)
  · replace h := gq_t c44 h
    refine g_iconst (v := 0) hC (by decide) dL_passes_189 ?_
    exact g_weak [0, 1, 2, 3, 4, 6] rfl (t_L_passes_190 hC hr hk66 hk98 x13 x15 x14 0 M43 h)
  · replace h := gq_f c44 h
    refine g_iconst (v := 1) hC (by decide) dL_passes_185 ?_
    refine g_goto (tgt := 190) hC (by decide) dL_passes_186 ?_
    exact g_weak [0, 1, 2, 3, 4, 6] rfl (t_L_passes_190 hC hr hk66 hk98 x13 x15 x14 1 M43 h)
def f_L_passes_155 (N : Nat) (kh66 : Int32 → gq_M → Option (Int32 × gq_M)) (kh98 : Int32 → Int32 → Int32 → gq_M → Option (Int32 × gq_M)) (x13 : Int32) (x14 : Int32) (x15 : Int32) (s0 : Int32) (M : gq_M) : Option (Int32 × gq_M) :=
  if s0 = 0 then (gq_b (f_L_how N x15 M) fun v38 M40 => f_L_passes_175 N kh66 kh98 x13 x14 x15 s0 x15 v38 M40) else (f_L_passes_175 N kh66 kh98 x13 x14 x15 s0 x15 4 M)
set_option maxHeartbeats 1000000 in
set_option maxRecDepth 20000 in
theorem t_L_passes_155 {N : Nat} {kh66 : Int32 → gq_M → Option (Int32 × gq_M)} {kh98 : Int32 → Int32 → Int32 → gq_M → Option (Int32 × gq_M)} {v9 : Int32} {M9 : gq_M} (hC : gq_C p s m args meth c D A cI cZ ad mtL RL cL_passes 17) (hr : meth.sig.returnType = none) (hk66 : ∀ (x13 : Int32) (M : gq_M), kh66 x13 M = some (v9, M9) → gq_W p l e (gq_rm 5) s m args below meth c D A cI cZ ad mtL 17 (MQ below (gq_Qv D cI cZ ad mtL M9 A) args s 0 0 A) 66 [(0, .ref (ad 109)), (3, .ref (ad 112)), (10, .ref (ad 119)), (12, .ref (ad 122)), (13, .int x13)] [] M 0 0) (hk98 : ∀ (x13 : Int32) (x14 : Int32) (x15 : Int32) (M : gq_M), kh98 x13 x14 x15 M = some (v9, M9) → gq_W p l e (gq_rm 5) s m args below meth c D A cI cZ ad mtL 17 (MQ below (gq_Qv D cI cZ ad mtL M9 A) args s 0 0 A) 98 [(0, .ref (ad 109)), (3, .ref (ad 112)), (10, .ref (ad 119)), (12, .ref (ad 122)), (13, .int x13), (14, .int x14), (15, .int x15)] [] M 0 0)  : ∀ (x13 : Int32) (x14 : Int32) (x15 : Int32) (s0 : Int32) (M : gq_M), f_L_passes_155 N kh66 kh98 x13 x14 x15 s0 M = some (v9, M9) → gq_W p l e (gq_rm 5) s m args below meth c D A cI cZ ad mtL 17 (MQ below (gq_Qv D cI cZ ad mtL M9 A) args s 0 0 A) 155 [(0, .ref (ad 109)), (3, .ref (ad 112)), (10, .ref (ad 119)), (12, .ref (ad 122)), (13, .int x13), (14, .int x14), (15, .int x15)] [.int s0] M 0 0 := by
  intro x13 x14 x15 s0 M h
  unfold f_L_passes_155 at h
  refine g_istore (L2 := [(16, .int s0), (0, .ref (ad 109)), (3, .ref (ad 112)), (10, .ref (ad 119)), (12, .ref (ad 122)), (13, .int x13), (14, .int x14), (15, .int x15)]) hC (by decide) rfl dL_passes_155 ?_
  refine g_aload_n hC 1 rfl rfl dL_passes_157 ?_
  refine g_iload hC 7 rfl dL_passes_158 ?_
  refine g_iload hC 0 rfl dL_passes_160 ?_
  refine g_if_eq (tgt := 169) hC (by decide) dL_passes_162 (fun c37 => ?_) (fun c37 => ?_)
  · replace h := gq_t c37 h
    refine g_aload_n hC 1 rfl rfl dL_passes_169 ?_
    refine g_iload hC 7 rfl dL_passes_170 ?_
    obtain ⟨v38, M40, c39, h⟩ := gq_b_i h
    refine g_Si (as := [.ref (ad 109), .int x15]) hC (t_L_how N _ _ _ _ c39) mS_L_how wm_L_95 rfl rfl (Nat.le_of_ble_eq_true rfl) ⟨Nat.le_of_ble_eq_true rfl, Nat.le_of_ble_eq_true rfl⟩ ⟨Nat.zero_le _, Nat.zero_le _⟩ dL_passes_172 ?_
    exact g_weak [1, 2, 3, 4, 5, 6, 7, 0] rfl (t_L_passes_175 hC hr hk66 hk98 x13 x14 x15 s0 x15 v38 M40 h)
  · replace h := gq_f c37 h
    refine g_iconst (v := 4) hC (by decide) dL_passes_165 ?_
    refine g_goto (tgt := 175) hC (by decide) dL_passes_166 ?_
    exact g_weak [1, 2, 3, 4, 5, 6, 7, 0] rfl (t_L_passes_175 hC hr hk66 hk98 x13 x14 x15 s0 x15 4 M h)
def f_L_passes_154 (N : Nat) (kh66 : Int32 → gq_M → Option (Int32 × gq_M)) (kh98 : Int32 → Int32 → Int32 → gq_M → Option (Int32 × gq_M)) (x13 : Int32) (x14 : Int32) (x15 : Int32) (M : gq_M) : Option (Int32 × gq_M) :=
  f_L_passes_155 N kh66 kh98 x13 x14 x15 0 M
set_option maxHeartbeats 1000000 in
set_option maxRecDepth 20000 in
theorem t_L_passes_154 {N : Nat} {kh66 : Int32 → gq_M → Option (Int32 × gq_M)} {kh98 : Int32 → Int32 → Int32 → gq_M → Option (Int32 × gq_M)} {v9 : Int32} {M9 : gq_M} (hC : gq_C p s m args meth c D A cI cZ ad mtL RL cL_passes 17) (hr : meth.sig.returnType = none) (hk66 : ∀ (x13 : Int32) (M : gq_M), kh66 x13 M = some (v9, M9) → gq_W p l e (gq_rm 5) s m args below meth c D A cI cZ ad mtL 17 (MQ below (gq_Qv D cI cZ ad mtL M9 A) args s 0 0 A) 66 [(0, .ref (ad 109)), (3, .ref (ad 112)), (10, .ref (ad 119)), (12, .ref (ad 122)), (13, .int x13)] [] M 0 0) (hk98 : ∀ (x13 : Int32) (x14 : Int32) (x15 : Int32) (M : gq_M), kh98 x13 x14 x15 M = some (v9, M9) → gq_W p l e (gq_rm 5) s m args below meth c D A cI cZ ad mtL 17 (MQ below (gq_Qv D cI cZ ad mtL M9 A) args s 0 0 A) 98 [(0, .ref (ad 109)), (3, .ref (ad 112)), (10, .ref (ad 119)), (12, .ref (ad 122)), (13, .int x13), (14, .int x14), (15, .int x15)] [] M 0 0)  : ∀ (x13 : Int32) (x14 : Int32) (x15 : Int32) (M : gq_M), f_L_passes_154 N kh66 kh98 x13 x14 x15 M = some (v9, M9) → gq_W p l e (gq_rm 5) s m args below meth c D A cI cZ ad mtL 17 (MQ below (gq_Qv D cI cZ ad mtL M9 A) args s 0 0 A) 154 [(0, .ref (ad 109)), (3, .ref (ad 112)), (10, .ref (ad 119)), (12, .ref (ad 122)), (13, .int x13), (14, .int x14), (15, .int x15)] [] M 0 0 := by
  intro x13 x14 x15 M h
  unfold f_L_passes_154 at h
  refine g_iconst (v := 0) hC (by decide) dL_passes_154 ?_
  exact g_weak [0, 1, 2, 3, 4, 5, 6] rfl (t_L_passes_155 hC hr hk66 hk98 x13 x14 x15 0 M h)
def f_L_passes_98_b (N : Nat) (kh66 : Int32 → gq_M → Option (Int32 × gq_M)) (kh98 : Int32 → Int32 → Int32 → gq_M → Option (Int32 × gq_M)) (x13 : Int32) (x14 : Int32) (x15 : Int32) (M : gq_M) : Option (Int32 × gq_M) :=
  gq_g (gq_in 4 56) (gq_l (M 119 (4 : Int32).toNatClampNeg) fun v21 => if v21 ≤ x15 then (gq_g (gq_in ((4 * x13) + 3) 40) (gq_l (gq_up M 122 (((4 * x13) + 3) : Int32).toNatClampNeg x14) fun M24 => f_L_passes_210 N kh66 x13 M24)) else (gq_b (f_L_how N x15 M) fun v25 M27 => if v25 = 3 then (gq_g (gq_in x15 40) (gq_l (M27 112 x15.toNatClampNeg) fun v30 => gq_g (gq_in (4 * x13) 40) (gq_l (M27 122 ((4 * x13) : Int32).toNatClampNeg) fun v32 => if ((v30 - v30 / 16 * 16) - 1) = v32 then (gq_g (gq_in ((4 * x13) + 2) 40) (gq_l (M27 122 (((4 * x13) + 2) : Int32).toNatClampNeg) fun v35 => if v35 ≤ x14 then (f_L_passes_154 N kh66 kh98 x13 x14 x15 M27) else (f_L_passes_155 N kh66 kh98 x13 x14 x15 1 M27))) else (f_L_passes_154 N kh66 kh98 x13 x14 x15 M27)))) else (f_L_passes_154 N kh66 kh98 x13 x14 x15 M27)))
def f_L_passes_98 (N : Nat) (kh66 : Int32 → gq_M → Option (Int32 × gq_M)) : Nat → Int32 → Int32 → Int32 → gq_M → Option (Int32 × gq_M)
  | 0 => fun _ _ _ _ => none
  | n9 + 1 => f_L_passes_98_b N kh66 (f_L_passes_98 N kh66 n9)
set_option maxHeartbeats 1000000 in
set_option maxRecDepth 20000 in
theorem t_L_passes_98_b {N : Nat} {kh66 : Int32 → gq_M → Option (Int32 × gq_M)} {kh98 : Int32 → Int32 → Int32 → gq_M → Option (Int32 × gq_M)} {v9 : Int32} {M9 : gq_M} (hC : gq_C p s m args meth c D A cI cZ ad mtL RL cL_passes 17) (hr : meth.sig.returnType = none) (hk66 : ∀ (x13 : Int32) (M : gq_M), kh66 x13 M = some (v9, M9) → gq_W p l e (gq_rm 5) s m args below meth c D A cI cZ ad mtL 17 (MQ below (gq_Qv D cI cZ ad mtL M9 A) args s 0 0 A) 66 [(0, .ref (ad 109)), (3, .ref (ad 112)), (10, .ref (ad 119)), (12, .ref (ad 122)), (13, .int x13)] [] M 0 0) (hk98 : ∀ (x13 : Int32) (x14 : Int32) (x15 : Int32) (M : gq_M), kh98 x13 x14 x15 M = some (v9, M9) → gq_W p l e (gq_rm 5) s m args below meth c D A cI cZ ad mtL 17 (MQ below (gq_Qv D cI cZ ad mtL M9 A) args s 0 0 A) 98 [(0, .ref (ad 109)), (3, .ref (ad 112)), (10, .ref (ad 119)), (12, .ref (ad 122)), (13, .int x13), (14, .int x14), (15, .int x15)] [] M 0 0) : ∀ (x13 : Int32) (x14 : Int32) (x15 : Int32) (M : gq_M), f_L_passes_98_b N kh66 kh98 x13 x14 x15 M = some (v9, M9) → gq_W p l e (gq_rm 5) s m args below meth c D A cI cZ ad mtL 17 (MQ below (gq_Qv D cI cZ ad mtL M9 A) args s 0 0 A) 98 [(0, .ref (ad 109)), (3, .ref (ad 112)), (10, .ref (ad 119)), (12, .ref (ad 122)), (13, .int x13), (14, .int x14), (15, .int x15)] [] M 0 0 := by
  intro x13 x14 x15 M h
  unfold f_L_passes_98_b at h
  refine g_iload hC 6 rfl dL_passes_98 ?_
  refine g_aload hC 2 rfl dL_passes_100 ?_
  refine g_iconst (v := 4) hC (by decide) dL_passes_102 ?_
  obtain ⟨g20, h⟩ := gq_g_i h
  refine g_iald hC arL_119 (gq_in_i g20) dL_passes_103 ?_
  refine g_topi (fun v21 hv21 => ?_)
  replace h := gq_l_i hv21 h
  refine g_icmp_ge (tgt := 199) hC (by decide) dL_passes_104 (fun c22 => ?_) (fun c22 => ?_)
  · replace h := gq_t c22 h
    refine g_aload hC 3 rfl dL_passes_199 ?_
    refine g_iconst (v := 4) hC (by decide) dL_passes_201 ?_
    refine g_iload hC 4 rfl dL_passes_202 ?_
    refine g_imul hC dL_passes_204 ?_
    refine g_iconst (v := 3) hC (by decide) dL_passes_205 ?_
    refine g_iadd hC dL_passes_206 ?_
    refine g_iload hC 5 rfl dL_passes_207 ?_
    obtain ⟨g23, h⟩ := gq_g_i h
    refine g_iast hC arL_122 (gq_in_i g23) dL_passes_209 ?_
    refine g_topM (fun M24 hM24 => ?_)
    replace h := gq_l_i hM24 h
    exact g_weak [0, 1, 2, 3, 4] rfl (t_L_passes_210 hC hr hk66 x13 M24 h)
  · replace h := gq_f c22 h
    refine g_aload_n hC 0 rfl rfl dL_passes_107 ?_
    refine g_iload hC 6 rfl dL_passes_108 ?_
    obtain ⟨v25, M27, c26, h⟩ := gq_b_i h
    refine g_Si (as := [.ref (ad 109), .int x15]) hC (t_L_how N _ _ _ _ c26) mS_L_how wm_L_95 rfl rfl (Nat.le_of_ble_eq_true rfl) ⟨Nat.le_of_ble_eq_true rfl, Nat.le_of_ble_eq_true rfl⟩ ⟨Nat.zero_le _, Nat.zero_le _⟩ dL_passes_110 ?_
    refine g_iconst (v := 3) hC (by decide) dL_passes_113 ?_
    refine g_icmp_ne (tgt := 154) hC (by decide) dL_passes_114 (fun c28 => ?_) (fun c28 => ?_)
    · replace h := gq_f c28 h
      exact g_weak [0, 1, 2, 3, 4, 5, 6] rfl (t_L_passes_154 hC hr hk66 hk98 x13 x14 x15 M27 h)
    · replace h := gq_t c28 h
      refine g_aload_n hC 1 rfl rfl dL_passes_117 ?_
      refine g_iload hC 6 rfl dL_passes_118 ?_
      obtain ⟨g29, h⟩ := gq_g_i h
      refine g_iald hC arL_112 (gq_in_i g29) dL_passes_120 ?_
      refine g_topi (fun v30 hv30 => ?_)
      replace h := gq_l_i hv30 h
      refine g_bipush (v := 16) hC (by decide) dL_passes_121 ?_
      refine g_irem hC (by decide) dL_passes_123 ?_
      refine g_iconst (v := 1) hC (by decide) dL_passes_124 ?_
      refine g_isub hC dL_passes_125 ?_
      refine g_aload hC 3 rfl dL_passes_126 ?_
      refine g_iconst (v := 4) hC (by decide) dL_passes_128 ?_
      refine g_iload hC 4 rfl dL_passes_129 ?_
      refine g_imul hC dL_passes_131 ?_
      obtain ⟨g31, h⟩ := gq_g_i h
      refine g_iald hC arL_122 (gq_in_i g31) dL_passes_132 ?_
      refine g_topi (fun v32 hv32 => ?_)
      replace h := gq_l_i hv32 h
      refine g_icmp_ne (tgt := 154) hC (by decide) dL_passes_133 (fun c33 => ?_) (fun c33 => ?_)
      · replace h := gq_f c33 h
        exact g_weak [0, 1, 2, 3, 4, 5, 6] rfl (t_L_passes_154 hC hr hk66 hk98 x13 x14 x15 M27 h)
      · replace h := gq_t c33 h
        refine g_iload hC 5 rfl dL_passes_136 ?_
        refine g_aload hC 3 rfl dL_passes_138 ?_
        refine g_iconst (v := 4) hC (by decide) dL_passes_140 ?_
        refine g_iload hC 4 rfl dL_passes_141 ?_
        refine g_imul hC dL_passes_143 ?_
        refine g_iconst (v := 2) hC (by decide) dL_passes_144 ?_
        refine g_iadd hC dL_passes_145 ?_
        obtain ⟨g34, h⟩ := gq_g_i h
        refine g_iald hC arL_122 (gq_in_i g34) dL_passes_146 ?_
        refine g_topi (fun v35 hv35 => ?_)
        replace h := gq_l_i hv35 h
        refine g_icmp_ge (tgt := 154) hC (by decide) dL_passes_147 (fun c36 => ?_) (fun c36 => ?_)
        · replace h := gq_t c36 h
          exact g_weak [0, 1, 2, 3, 4, 5, 6] rfl (t_L_passes_154 hC hr hk66 hk98 x13 x14 x15 M27 h)
        · replace h := gq_f c36 h
          refine g_iconst (v := 1) hC (by decide) dL_passes_150 ?_
          refine g_goto (tgt := 155) hC (by decide) dL_passes_151 ?_
          exact g_weak [0, 1, 2, 3, 4, 5, 6] rfl (t_L_passes_155 hC hr hk66 hk98 x13 x14 x15 1 M27 h)
theorem t_L_passes_98 {N : Nat} {kh66 : Int32 → gq_M → Option (Int32 × gq_M)} {v9 : Int32} {M9 : gq_M} (hC : gq_C p s m args meth c D A cI cZ ad mtL RL cL_passes 17) (hr : meth.sig.returnType = none) (hk66 : ∀ (x13 : Int32) (M : gq_M), kh66 x13 M = some (v9, M9) → gq_W p l e (gq_rm 5) s m args below meth c D A cI cZ ad mtL 17 (MQ below (gq_Qv D cI cZ ad mtL M9 A) args s 0 0 A) 66 [(0, .ref (ad 109)), (3, .ref (ad 112)), (10, .ref (ad 119)), (12, .ref (ad 122)), (13, .int x13)] [] M 0 0) : ∀ (n9 : Nat) (x13 : Int32) (x14 : Int32) (x15 : Int32) (M : gq_M), f_L_passes_98 N kh66 n9 x13 x14 x15 M = some (v9, M9) → gq_W p l e (gq_rm 5) s m args below meth c D A cI cZ ad mtL 17 (MQ below (gq_Qv D cI cZ ad mtL M9 A) args s 0 0 A) 98 [(0, .ref (ad 109)), (3, .ref (ad 112)), (10, .ref (ad 119)), (12, .ref (ad 122)), (13, .int x13), (14, .int x14), (15, .int x15)] [] M 0 0 := by
  intro n9
  induction n9 with
  | zero => intro x13 x14 x15 M h; cases h
  | succ n9 ih => intro x13 x14 x15 M h; exact t_L_passes_98_b hC hr hk66 ih x13 x14 x15 M h
def f_L_passes_66_b (N : Nat) (kh66 : Int32 → gq_M → Option (Int32 × gq_M)) (x13 : Int32) (M : gq_M) : Option (Int32 × gq_M) :=
  gq_g (gq_in 6 56) (gq_l (M 119 (6 : Int32).toNatClampNeg) fun v13 => if v13 ≤ x13 then (some (0, M)) else (gq_g (gq_in ((4 * x13) + 1) 40) (gq_l (M 122 (((4 * x13) + 1) : Int32).toNatClampNeg) fun v16 => gq_g (gq_in 0 56) (gq_l (M 119 (0 : Int32).toNatClampNeg) fun v18 => if v16 = v18 then (f_L_passes_98 N kh66 N x13 0 0 M) else (f_L_passes_210 N kh66 x13 M)))))
def f_L_passes_66 (N : Nat) : Nat → Int32 → gq_M → Option (Int32 × gq_M)
  | 0 => fun _ _ => none
  | n9 + 1 => f_L_passes_66_b N  (f_L_passes_66 N  n9)
set_option maxHeartbeats 1000000 in
set_option maxRecDepth 20000 in
theorem t_L_passes_66_b {N : Nat} {kh66 : Int32 → gq_M → Option (Int32 × gq_M)} {v9 : Int32} {M9 : gq_M} (hC : gq_C p s m args meth c D A cI cZ ad mtL RL cL_passes 17) (hr : meth.sig.returnType = none)  (hk66 : ∀ (x13 : Int32) (M : gq_M), kh66 x13 M = some (v9, M9) → gq_W p l e (gq_rm 5) s m args below meth c D A cI cZ ad mtL 17 (MQ below (gq_Qv D cI cZ ad mtL M9 A) args s 0 0 A) 66 [(0, .ref (ad 109)), (3, .ref (ad 112)), (10, .ref (ad 119)), (12, .ref (ad 122)), (13, .int x13)] [] M 0 0) : ∀ (x13 : Int32) (M : gq_M), f_L_passes_66_b N  kh66 x13 M = some (v9, M9) → gq_W p l e (gq_rm 5) s m args below meth c D A cI cZ ad mtL 17 (MQ below (gq_Qv D cI cZ ad mtL M9 A) args s 0 0 A) 66 [(0, .ref (ad 109)), (3, .ref (ad 112)), (10, .ref (ad 119)), (12, .ref (ad 122)), (13, .int x13)] [] M 0 0 := by
  intro x13 M h
  unfold f_L_passes_66_b at h
  refine g_iload hC 4 rfl dL_passes_66 ?_
  refine g_aload hC 2 rfl dL_passes_68 ?_
  refine g_bipush (v := 6) hC (by decide) dL_passes_70 ?_
  obtain ⟨g12, h⟩ := gq_g_i h
  refine g_iald hC arL_119 (gq_in_i g12) dL_passes_72 ?_
  refine g_topi (fun v13 hv13 => ?_)
  replace h := gq_l_i hv13 h
  refine g_icmp_ge (tgt := 216) hC (by decide) dL_passes_73 (fun c14 => ?_) (fun c14 => ?_)
  · replace h := gq_t c14 h
    exact g_vrets hC hr h dL_passes_216
  · replace h := gq_f c14 h
    refine g_aload hC 3 rfl dL_passes_76 ?_
    refine g_iconst (v := 4) hC (by decide) dL_passes_78 ?_
    refine g_iload hC 4 rfl dL_passes_79 ?_
    refine g_imul hC dL_passes_81 ?_
    refine g_iconst (v := 1) hC (by decide) dL_passes_82 ?_
    refine g_iadd hC dL_passes_83 ?_
    obtain ⟨g15, h⟩ := gq_g_i h
    refine g_iald hC arL_122 (gq_in_i g15) dL_passes_84 ?_
    refine g_topi (fun v16 hv16 => ?_)
    replace h := gq_l_i hv16 h
    refine g_aload hC 2 rfl dL_passes_85 ?_
    refine g_iconst (v := 0) hC (by decide) dL_passes_87 ?_
    obtain ⟨g17, h⟩ := gq_g_i h
    refine g_iald hC arL_119 (gq_in_i g17) dL_passes_88 ?_
    refine g_topi (fun v18 hv18 => ?_)
    replace h := gq_l_i hv18 h
    refine g_icmp_ne (tgt := 210) hC (by decide) dL_passes_89 (fun c19 => ?_) (fun c19 => ?_)
    · replace h := gq_f c19 h
      exact g_weak [0, 1, 2, 3, 4] rfl (t_L_passes_210 hC hr hk66 x13 M h)
    · replace h := gq_t c19 h
      refine g_iconst (v := 0) hC (by decide) dL_passes_92 ?_
      refine g_istore (L2 := [(14, .int 0), (0, .ref (ad 109)), (3, .ref (ad 112)), (10, .ref (ad 119)), (12, .ref (ad 122)), (13, .int x13)]) hC (by decide) rfl dL_passes_93 ?_
      refine g_iconst (v := 0) hC (by decide) dL_passes_95 ?_
      refine g_istore (L2 := [(15, .int 0), (14, .int 0), (0, .ref (ad 109)), (3, .ref (ad 112)), (10, .ref (ad 119)), (12, .ref (ad 122)), (13, .int x13)]) hC (by decide) rfl dL_passes_96 ?_
      exact g_weak [2, 3, 4, 5, 6, 1, 0] rfl (t_L_passes_98 hC hr hk66 N x13 0 0 M h)
theorem t_L_passes_66 {N : Nat} {v9 : Int32} {M9 : gq_M} (hC : gq_C p s m args meth c D A cI cZ ad mtL RL cL_passes 17) (hr : meth.sig.returnType = none)  : ∀ (n9 : Nat) (x13 : Int32) (M : gq_M), f_L_passes_66 N  n9 x13 M = some (v9, M9) → gq_W p l e (gq_rm 5) s m args below meth c D A cI cZ ad mtL 17 (MQ below (gq_Qv D cI cZ ad mtL M9 A) args s 0 0 A) 66 [(0, .ref (ad 109)), (3, .ref (ad 112)), (10, .ref (ad 119)), (12, .ref (ad 122)), (13, .int x13)] [] M 0 0 := by
  intro n9
  induction n9 with
  | zero => intro x13 M h; cases h
  | succ n9 ih => intro x13 M h; exact t_L_passes_66_b hC hr  ih x13 M h
def f_L_passes_57 (N : Nat) (kh11 : Int32 → gq_M → Option (Int32 × gq_M)) (x13 : Int32) (M : gq_M) : Option (Int32 × gq_M) :=
  kh11 (x13 + 1) M
set_option maxHeartbeats 1000000 in
set_option maxRecDepth 20000 in
theorem t_L_passes_57 {N : Nat} {kh11 : Int32 → gq_M → Option (Int32 × gq_M)} {v9 : Int32} {M9 : gq_M} (hC : gq_C p s m args meth c D A cI cZ ad mtL RL cL_passes 17) (hr : meth.sig.returnType = none) (hk11 : ∀ (x13 : Int32) (M : gq_M), kh11 x13 M = some (v9, M9) → gq_W p l e (gq_rm 5) s m args below meth c D A cI cZ ad mtL 17 (MQ below (gq_Qv D cI cZ ad mtL M9 A) args s 0 0 A) 11 [(0, .ref (ad 109)), (1, .ref (ad 110)), (2, .ref (ad 111)), (3, .ref (ad 112)), (4, .ref (ad 113)), (5, .ref (ad 114)), (6, .ref (ad 115)), (7, .ref (ad 116)), (8, .ref (ad 117)), (9, .ref (ad 118)), (10, .ref (ad 119)), (11, .ref (ad 121)), (12, .ref (ad 122)), (13, .int x13)] [] M 0 0)  : ∀ (x13 : Int32) (M : gq_M), f_L_passes_57 N kh11 x13 M = some (v9, M9) → gq_W p l e (gq_rm 5) s m args below meth c D A cI cZ ad mtL 17 (MQ below (gq_Qv D cI cZ ad mtL M9 A) args s 0 0 A) 57 [(0, .ref (ad 109)), (1, .ref (ad 110)), (2, .ref (ad 111)), (3, .ref (ad 112)), (4, .ref (ad 113)), (5, .ref (ad 114)), (6, .ref (ad 115)), (7, .ref (ad 116)), (8, .ref (ad 117)), (9, .ref (ad 118)), (10, .ref (ad 119)), (11, .ref (ad 121)), (12, .ref (ad 122)), (13, .int x13)] [] M 0 0 := by
  intro x13 M h
  unfold f_L_passes_57 at h
  refine g_iinc (v := (x13 + 1)) (L2 := [(13, .int (x13 + 1)), (0, .ref (ad 109)), (1, .ref (ad 110)), (2, .ref (ad 111)), (3, .ref (ad 112)), (4, .ref (ad 113)), (5, .ref (ad 114)), (6, .ref (ad 115)), (7, .ref (ad 116)), (8, .ref (ad 117)), (9, .ref (ad 118)), (10, .ref (ad 119)), (11, .ref (ad 121)), (12, .ref (ad 122))]) hC 13 rfl (by first | rfl | decide) (by decide) rfl dL_passes_57 ?_
  refine g_goto (tgt := 11) hC (by decide) dL_passes_60 ?_
  exact g_weak [1, 2, 3, 4, 5, 6, 7, 8, 9, 10, 11, 12, 13, 0] rfl (hk11 (x13 + 1) M h)
def f_L_passes_11_b (N : Nat) (kh11 : Int32 → gq_M → Option (Int32 × gq_M)) (x13 : Int32) (M : gq_M) : Option (Int32 × gq_M) :=
  if 3 ≤ x13 then (f_L_passes_66 N  N 0 M) else (gq_g (gq_in ((8 * x13) + 6) 24) (gq_l (M 115 (((8 * x13) + 6) : Int32).toNatClampNeg) fun v7 => if v7 = 1 then (gq_b (f_L_ticks N x13 M) fun v9 M11 => f_L_passes_57 N kh11 x13 M11) else (f_L_passes_57 N kh11 x13 M)))
def f_L_passes_11 (N : Nat) : Nat → Int32 → gq_M → Option (Int32 × gq_M)
  | 0 => fun _ _ => none
  | n9 + 1 => f_L_passes_11_b N  (f_L_passes_11 N  n9)
set_option maxHeartbeats 1000000 in
set_option maxRecDepth 20000 in
theorem t_L_passes_11_b {N : Nat} {kh11 : Int32 → gq_M → Option (Int32 × gq_M)} {v9 : Int32} {M9 : gq_M} (hC : gq_C p s m args meth c D A cI cZ ad mtL RL cL_passes 17) (hr : meth.sig.returnType = none)  (hk11 : ∀ (x13 : Int32) (M : gq_M), kh11 x13 M = some (v9, M9) → gq_W p l e (gq_rm 5) s m args below meth c D A cI cZ ad mtL 17 (MQ below (gq_Qv D cI cZ ad mtL M9 A) args s 0 0 A) 11 [(0, .ref (ad 109)), (1, .ref (ad 110)), (2, .ref (ad 111)), (3, .ref (ad 112)), (4, .ref (ad 113)), (5, .ref (ad 114)), (6, .ref (ad 115)), (7, .ref (ad 116)), (8, .ref (ad 117)), (9, .ref (ad 118)), (10, .ref (ad 119)), (11, .ref (ad 121)), (12, .ref (ad 122)), (13, .int x13)] [] M 0 0) : ∀ (x13 : Int32) (M : gq_M), f_L_passes_11_b N  kh11 x13 M = some (v9, M9) → gq_W p l e (gq_rm 5) s m args below meth c D A cI cZ ad mtL 17 (MQ below (gq_Qv D cI cZ ad mtL M9 A) args s 0 0 A) 11 [(0, .ref (ad 109)), (1, .ref (ad 110)), (2, .ref (ad 111)), (3, .ref (ad 112)), (4, .ref (ad 113)), (5, .ref (ad 114)), (6, .ref (ad 115)), (7, .ref (ad 116)), (8, .ref (ad 117)), (9, .ref (ad 118)), (10, .ref (ad 119)), (11, .ref (ad 121)), (12, .ref (ad 122)), (13, .int x13)] [] M 0 0 := by
  intro x13 M h
  unfold f_L_passes_11_b at h
  refine g_iload hC 13 rfl dL_passes_11 ?_
  refine g_iconst (v := 3) hC (by decide) dL_passes_13 ?_
  refine g_icmp_ge (tgt := 63) hC (by decide) dL_passes_14 (fun c5 => ?_) (fun c5 => ?_)
  · replace h := gq_t c5 h
    refine g_iconst (v := 0) hC (by decide) dL_passes_63 ?_
    refine g_istore (L2 := [(13, .int 0), (0, .ref (ad 109)), (1, .ref (ad 110)), (2, .ref (ad 111)), (3, .ref (ad 112)), (4, .ref (ad 113)), (5, .ref (ad 114)), (6, .ref (ad 115)), (7, .ref (ad 116)), (8, .ref (ad 117)), (9, .ref (ad 118)), (10, .ref (ad 119)), (11, .ref (ad 121)), (12, .ref (ad 122))]) hC (by decide) rfl dL_passes_64 ?_
    exact g_weak [1, 4, 11, 13, 0] rfl (t_L_passes_66 hC hr  N 0 M h)
  · replace h := gq_f c5 h
    refine g_aload hC 6 rfl dL_passes_17 ?_
    refine g_bipush (v := 8) hC (by decide) dL_passes_19 ?_
    refine g_iload hC 13 rfl dL_passes_21 ?_
    refine g_imul hC dL_passes_23 ?_
    refine g_bipush (v := 6) hC (by decide) dL_passes_24 ?_
    refine g_iadd hC dL_passes_26 ?_
    obtain ⟨g6, h⟩ := gq_g_i h
    refine g_iald hC arL_115 (gq_in_i g6) dL_passes_27 ?_
    refine g_topi (fun v7 hv7 => ?_)
    replace h := gq_l_i hv7 h
    refine g_iconst (v := 1) hC (by decide) dL_passes_28 ?_
    refine g_icmp_ne (tgt := 57) hC (by decide) dL_passes_29 (fun c8 => ?_) (fun c8 => ?_)
    · replace h := gq_f c8 h
      exact g_weak [0, 1, 2, 3, 4, 5, 6, 7, 8, 9, 10, 11, 12, 13] rfl (t_L_passes_57 hC hr hk11 x13 M h)
    · replace h := gq_t c8 h
      refine g_aload_n hC 0 rfl rfl dL_passes_32 ?_
      refine g_aload_n hC 1 rfl rfl dL_passes_33 ?_
      refine g_aload_n hC 2 rfl rfl dL_passes_34 ?_
      refine g_aload_n hC 3 rfl rfl dL_passes_35 ?_
      refine g_aload hC 4 rfl dL_passes_36 ?_
      refine g_aload hC 5 rfl dL_passes_38 ?_
      refine g_aload hC 6 rfl dL_passes_40 ?_
      refine g_aload hC 7 rfl dL_passes_42 ?_
      refine g_aload hC 8 rfl dL_passes_44 ?_
      refine g_aload hC 9 rfl dL_passes_46 ?_
      refine g_aload hC 10 rfl dL_passes_48 ?_
      refine g_aload hC 11 rfl dL_passes_50 ?_
      refine g_iload hC 13 rfl dL_passes_52 ?_
      obtain ⟨v9, M11, c10, h⟩ := gq_b_i h
      refine g_Sv (as := [.ref (ad 109), .ref (ad 110), .ref (ad 111), .ref (ad 112), .ref (ad 113), .ref (ad 114), .ref (ad 115), .ref (ad 116), .ref (ad 117), .ref (ad 118), .ref (ad 119), .ref (ad 121), .int x13]) hC (t_L_ticks N _ _ _ _ c10) mS_L_ticks wm_L_144 rfl rfl (Nat.le_of_ble_eq_true rfl) ⟨Nat.le_of_ble_eq_true rfl, Nat.le_of_ble_eq_true rfl⟩ ⟨Nat.zero_le _, Nat.zero_le _⟩ dL_passes_54 ?_
      exact g_weak [0, 1, 2, 3, 4, 5, 6, 7, 8, 9, 10, 11, 12, 13] rfl (t_L_passes_57 hC hr hk11 x13 M11 h)
theorem t_L_passes_11 {N : Nat} {v9 : Int32} {M9 : gq_M} (hC : gq_C p s m args meth c D A cI cZ ad mtL RL cL_passes 17) (hr : meth.sig.returnType = none)  : ∀ (n9 : Nat) (x13 : Int32) (M : gq_M), f_L_passes_11 N  n9 x13 M = some (v9, M9) → gq_W p l e (gq_rm 5) s m args below meth c D A cI cZ ad mtL 17 (MQ below (gq_Qv D cI cZ ad mtL M9 A) args s 0 0 A) 11 [(0, .ref (ad 109)), (1, .ref (ad 110)), (2, .ref (ad 111)), (3, .ref (ad 112)), (4, .ref (ad 113)), (5, .ref (ad 114)), (6, .ref (ad 115)), (7, .ref (ad 116)), (8, .ref (ad 117)), (9, .ref (ad 118)), (10, .ref (ad 119)), (11, .ref (ad 121)), (12, .ref (ad 122)), (13, .int x13)] [] M 0 0 := by
  intro n9
  induction n9 with
  | zero => intro x13 M h; cases h
  | succ n9 ih => intro x13 M h; exact t_L_passes_11_b hC hr  ih x13 M h
def f_L_passes (N : Nat) (M : gq_M) : Option (Int32 × gq_M) :=
  gq_g (gq_in 0 56) (gq_l (M 119 (0 : Int32).toNatClampNeg) fun v2 => gq_g (gq_in 0 56) (gq_l (gq_up M 119 (0 : Int32).toNatClampNeg (v2 + 1)) fun M4 => f_L_passes_11 N  N 0 M4))
set_option maxHeartbeats 1000000 in
set_option maxRecDepth 20000 in
theorem t_L_passes {l : Launch} {D : va_G} {cI cZ : ClassId} {ad : Nat → Nat} (N : Nat) (M : gq_M) (v9 : Int32) (M9 : gq_M) (h : f_L_passes N  M = some (v9, M9)) : gq_Cv l D cI cZ ad mtL yL_passes cL_passes 17 5 [.ref (ad 109), .ref (ad 110), .ref (ad 111), .ref (ad 112), .ref (ad 113), .ref (ad 114), .ref (ad 115), .ref (ad 116), .ref (ad 117), .ref (ad 118), .ref (ad 119), .ref (ad 121), .ref (ad 122)] M M9 := by
  refine gq_introV (own := RL) (by decide) rfl (Nat.le_of_ble_eq_true rfl) ?_
  intro p e s m below meth c hC hr
  refine g_cast (L2 := [(0, .ref (ad 109)), (1, .ref (ad 110)), (2, .ref (ad 111)), (3, .ref (ad 112)), (4, .ref (ad 113)), (5, .ref (ad 114)), (6, .ref (ad 115)), (7, .ref (ad 116)), (8, .ref (ad 117)), (9, .ref (ad 118)), (10, .ref (ad 119)), (11, .ref (ad 121)), (12, .ref (ad 122))]) ?_ rfl rfl rfl rfl
  unfold f_L_passes at h
  refine g_aload hC 10 rfl dL_passes_0 ?_
  refine g_iconst (v := 0) hC (by decide) dL_passes_2 ?_
  refine g_dup2 hC rfl rfl dL_passes_3 ?_
  obtain ⟨g1, h⟩ := gq_g_i h
  refine g_iald hC arL_119 (gq_in_i g1) dL_passes_4 ?_
  refine g_topi (fun v2 hv2 => ?_)
  replace h := gq_l_i hv2 h
  refine g_iconst (v := 1) hC (by decide) dL_passes_5 ?_
  refine g_iadd hC dL_passes_6 ?_
  obtain ⟨g3, h⟩ := gq_g_i h
  refine g_iast hC arL_119 (gq_in_i g3) dL_passes_7 ?_
  refine g_topM (fun M4 hM4 => ?_)
  replace h := gq_l_i hM4 h
  refine g_iconst (v := 0) hC (by decide) dL_passes_8 ?_
  refine g_istore (L2 := [(13, .int 0), (0, .ref (ad 109)), (1, .ref (ad 110)), (2, .ref (ad 111)), (3, .ref (ad 112)), (4, .ref (ad 113)), (5, .ref (ad 114)), (6, .ref (ad 115)), (7, .ref (ad 116)), (8, .ref (ad 117)), (9, .ref (ad 118)), (10, .ref (ad 119)), (11, .ref (ad 121)), (12, .ref (ad 122))]) hC (by decide) rfl dL_passes_9 ?_
  exact g_weak [1, 2, 3, 4, 5, 6, 7, 8, 9, 10, 11, 12, 13, 0] rfl (t_L_passes_11 hC hr  N 0 M4 h)
def f_L_isToSell_23 (N : Nat) (s0 : Int32) (M : gq_M) : Option (Int32 × gq_M) :=
  gq_g (gq_bb s0) (some (s0, M))
set_option maxHeartbeats 1000000 in
set_option maxRecDepth 20000 in
theorem t_L_isToSell_23 {N : Nat} {v9 : Int32} {M9 : gq_M} (hC : gq_C p s m args meth c D A cI cZ ad mtL RL cL_isToSell 2) (hr : meth.sig.returnType = (some .boolean))   : ∀ (s0 : Int32) (M : gq_M), f_L_isToSell_23 N  s0 M = some (v9, M9) → gq_W p l e (gq_rm 1) s m args below meth c D A cI cZ ad mtL 2 (MQ below (gq_Qi D cI cZ ad mtL v9 M9 A) args s 0 0 A) 23 [] [.int s0] M 0 0 := by
  intro s0 M h
  unfold f_L_isToSell_23 at h
  obtain ⟨g9, h⟩ := gq_g_i h
  exact g_zrets hC hr (gq_bb_i g9) h dL_isToSell_23
def f_L_isToSell_18 (N : Nat) (M : gq_M) : Option (Int32 × gq_M) :=
  f_L_isToSell_23 N  1 M
set_option maxHeartbeats 1000000 in
set_option maxRecDepth 20000 in
theorem t_L_isToSell_18 {N : Nat} {v9 : Int32} {M9 : gq_M} (hC : gq_C p s m args meth c D A cI cZ ad mtL RL cL_isToSell 2) (hr : meth.sig.returnType = (some .boolean))   : ∀ (M : gq_M), f_L_isToSell_18 N   M = some (v9, M9) → gq_W p l e (gq_rm 1) s m args below meth c D A cI cZ ad mtL 2 (MQ below (gq_Qi D cI cZ ad mtL v9 M9 A) args s 0 0 A) 18 [] [] M 0 0 := by
  intro  M h
  unfold f_L_isToSell_18 at h
  refine g_iconst (v := 1) hC (by decide) dL_isToSell_18 ?_
  refine g_goto (tgt := 23) hC (by decide) dL_isToSell_19 ?_
  exact g_weak [] rfl (t_L_isToSell_23 hC hr  1 M h)
def f_L_isToSell (N : Nat) (a1 : Int32) (M : gq_M) : Option (Int32 × gq_M) :=
  gq_b (f_L_how N a1 M) fun v1 M3 => if v1 = 0 then (f_L_isToSell_18 N   M3) else (gq_b (f_L_how N a1 M3) fun v5 M7 => if v5 = 6 then (f_L_isToSell_18 N   M7) else (f_L_isToSell_23 N  0 M7))
set_option maxHeartbeats 1000000 in
set_option maxRecDepth 20000 in
theorem t_L_isToSell {l : Launch} {D : va_G} {cI cZ : ClassId} {ad : Nat → Nat} (N : Nat) (a1 : Int32) (M : gq_M) (v9 : Int32) (M9 : gq_M) (h : f_L_isToSell N a1 M = some (v9, M9)) : gq_Ci l D cI cZ ad mtL yL_isToSell cL_isToSell 2 (some .boolean) 1 [.ref (ad 109), .int a1] M v9 M9 := by
  refine gq_introI (own := RL) (by decide) rfl (Nat.le_of_ble_eq_true rfl) ?_
  intro p e s m below meth c hC hr
  refine g_cast (L2 := [(0, .ref (ad 109)), (1, .int a1)]) ?_ rfl rfl rfl rfl
  unfold f_L_isToSell at h
  refine g_aload_n hC 0 rfl rfl dL_isToSell_0 ?_
  refine g_iload_n hC 1 rfl rfl dL_isToSell_1 ?_
  obtain ⟨v1, M3, c2, h⟩ := gq_b_i h
  refine g_Si (as := [.ref (ad 109), .int a1]) hC (t_L_how N _ _ _ _ c2) mS_L_how wm_L_95 rfl rfl (Nat.le_of_ble_eq_true rfl) ⟨Nat.le_of_ble_eq_true rfl, Nat.le_of_ble_eq_true rfl⟩ ⟨Nat.zero_le _, Nat.zero_le _⟩ dL_isToSell_2 ?_
  refine g_if_eq (tgt := 18) hC (by decide) dL_isToSell_5 (fun c4 => ?_) (fun c4 => ?_)
  · replace h := gq_t c4 h
    exact g_weak [] rfl (t_L_isToSell_18 hC hr   M3 h)
  · replace h := gq_f c4 h
    refine g_aload_n hC 0 rfl rfl dL_isToSell_8 ?_
    refine g_iload_n hC 1 rfl rfl dL_isToSell_9 ?_
    obtain ⟨v5, M7, c6, h⟩ := gq_b_i h
    refine g_Si (as := [.ref (ad 109), .int a1]) hC (t_L_how N _ _ _ _ c6) mS_L_how wm_L_95 rfl rfl (Nat.le_of_ble_eq_true rfl) ⟨Nat.le_of_ble_eq_true rfl, Nat.le_of_ble_eq_true rfl⟩ ⟨Nat.zero_le _, Nat.zero_le _⟩ dL_isToSell_10 ?_
    refine g_bipush (v := 6) hC (by decide) dL_isToSell_13 ?_
    refine g_icmp_ne (tgt := 22) hC (by decide) dL_isToSell_15 (fun c8 => ?_) (fun c8 => ?_)
    · replace h := gq_f c8 h
      refine g_iconst (v := 0) hC (by decide) dL_isToSell_22 ?_
      exact g_weak [] rfl (t_L_isToSell_23 hC hr  0 M7 h)
    · replace h := gq_t c8 h
      exact g_weak [] rfl (t_L_isToSell_18 hC hr   M7 h)
def f_L_lots_308 (N : Nat) (kh6 : Int32 → Int32 → Int32 → gq_M → Option (Int32 × gq_M)) (x4 : Int32) (x6 : Int32) (x7 : Int32) (M : gq_M) : Option (Int32 × gq_M) :=
  kh6 x4 x7 x6 M
set_option maxHeartbeats 1000000 in
set_option maxRecDepth 20000 in
theorem t_L_lots_308 {N : Nat} {kh6 : Int32 → Int32 → Int32 → gq_M → Option (Int32 × gq_M)} {v9 : Int32} {M9 : gq_M} (hC : gq_C p s m args meth c D A cI cZ ad mtL RL cL_lots 10) (hr : meth.sig.returnType = none) (hk6 : ∀ (x4 : Int32) (x5 : Int32) (x6 : Int32) (M : gq_M), kh6 x4 x5 x6 M = some (v9, M9) → gq_W p l e (gq_rm 2) s m args below meth c D A cI cZ ad mtL 10 (MQ below (gq_Qv D cI cZ ad mtL M9 A) args s 0 0 A) 6 [(0, .ref (ad 109)), (1, .ref (ad 111)), (2, .ref (ad 114)), (3, .ref (ad 119)), (4, .int x4), (5, .int x5), (6, .int x6)] [] M 0 0)  : ∀ (x4 : Int32) (x6 : Int32) (x7 : Int32) (M : gq_M), f_L_lots_308 N kh6 x4 x6 x7 M = some (v9, M9) → gq_W p l e (gq_rm 2) s m args below meth c D A cI cZ ad mtL 10 (MQ below (gq_Qv D cI cZ ad mtL M9 A) args s 0 0 A) 308 [(0, .ref (ad 109)), (1, .ref (ad 111)), (2, .ref (ad 114)), (3, .ref (ad 119)), (4, .int x4), (6, .int x6), (7, .int x7)] [] M 0 0 := by
  intro x4 x6 x7 M h
  unfold f_L_lots_308 at h
  refine g_iload hC 6 rfl dL_lots_308 ?_
  refine g_istore (L2 := [(5, .int x7), (0, .ref (ad 109)), (1, .ref (ad 111)), (2, .ref (ad 114)), (3, .ref (ad 119)), (4, .int x4), (6, .int x6), (7, .int x7)]) hC (by decide) rfl dL_lots_310 ?_
  refine g_goto (tgt := 6) hC (by decide) dL_lots_312 ?_
  exact g_weak [1, 2, 3, 4, 5, 0, 6] rfl (hk6 x4 x7 x6 M h)
def f_L_lots_240 (N : Nat) (kh6 : Int32 → Int32 → Int32 → gq_M → Option (Int32 × gq_M)) (x4 : Int32) (x6 : Int32) (x7 : Int32) (M : gq_M) : Option (Int32 × gq_M) :=
  if x6 = 0 then (f_L_lots_308 N kh6 x4 x6 x7 M) else (gq_g (gq_in 5 56) (gq_l (M 119 (5 : Int32).toNatClampNeg) fun v52 => gq_l ((x4 + (8 * (x7 / 100))) + (32 * ((x7 / 10) - (x7 / 10) / 10 * 10))) fun v53 => gq_g (gq_in (16 + (x7 / 100)) 56) (gq_l (M 119 ((16 + (x7 / 100)) : Int32).toNatClampNeg) fun v55 => gq_l ((v53 + (128 * (9 - (x7 - x7 / 10 * 10)))) + (2048 * v55)) fun v56 => gq_g (gq_in v52 40) (gq_l (gq_up M 114 v52.toNatClampNeg v56) fun M58 => gq_g (gq_in 5 56) (gq_l (M58 119 (5 : Int32).toNatClampNeg) fun v60 => gq_g (gq_in 5 56) (gq_l (gq_up M58 119 (5 : Int32).toNatClampNeg (v60 + 1)) fun M62 => f_L_lots_308 N kh6 x4 x6 x7 M62))))))
set_option maxHeartbeats 1000000 in
set_option maxRecDepth 20000 in
theorem t_L_lots_240 {N : Nat} {kh6 : Int32 → Int32 → Int32 → gq_M → Option (Int32 × gq_M)} {v9 : Int32} {M9 : gq_M} (hC : gq_C p s m args meth c D A cI cZ ad mtL RL cL_lots 10) (hr : meth.sig.returnType = none) (hk6 : ∀ (x4 : Int32) (x5 : Int32) (x6 : Int32) (M : gq_M), kh6 x4 x5 x6 M = some (v9, M9) → gq_W p l e (gq_rm 2) s m args below meth c D A cI cZ ad mtL 10 (MQ below (gq_Qv D cI cZ ad mtL M9 A) args s 0 0 A) 6 [(0, .ref (ad 109)), (1, .ref (ad 111)), (2, .ref (ad 114)), (3, .ref (ad 119)), (4, .int x4), (5, .int x5), (6, .int x6)] [] M 0 0)  : ∀ (x4 : Int32) (x6 : Int32) (x7 : Int32) (M : gq_M), f_L_lots_240 N kh6 x4 x6 x7 M = some (v9, M9) → gq_W p l e (gq_rm 2) s m args below meth c D A cI cZ ad mtL 10 (MQ below (gq_Qv D cI cZ ad mtL M9 A) args s 0 0 A) 240 [(0, .ref (ad 109)), (1, .ref (ad 111)), (2, .ref (ad 114)), (3, .ref (ad 119)), (4, .int x4), (6, .int x6), (7, .int x7)] [] M 0 0 := by
  intro x4 x6 x7 M h
  unfold f_L_lots_240 at h
  refine g_iload hC 5 rfl dL_lots_240 ?_
  refine g_if_eq (tgt := 308) hC (by decide) dL_lots_242 (fun c50 => ?_) (fun c50 => ?_)
  · replace h := gq_t c50 h
    exact g_weak [0, 1, 2, 3, 4, 5, 6] rfl (t_L_lots_308 hC hr hk6 x4 x6 x7 M h)
  · replace h := gq_f c50 h
    refine g_aload_n hC 2 rfl rfl dL_lots_245 ?_
    refine g_aload_n hC 3 rfl rfl dL_lots_246 ?_
    refine g_iconst (v := 5) hC (by decide) dL_lots_247 ?_
    obtain ⟨g51, h⟩ := gq_g_i h
    refine g_iald hC arL_119 (gq_in_i g51) dL_lots_248 ?_
    refine g_topi (fun v52 hv52 => ?_)
    replace h := gq_l_i hv52 h
    refine g_iload hC 4 rfl dL_lots_249 ?_
    refine g_bipush (v := 8) hC (by decide) dL_lots_251 ?_
    refine g_iload hC 6 rfl dL_lots_253 ?_
    refine g_bipush (v := 100) hC (by decide) dL_lots_255 ?_
    refine g_idiv hC (by decide) dL_lots_257 ?_
    refine g_imul hC dL_lots_258 ?_
    refine g_iadd hC dL_lots_259 ?_
    refine g_bipush (v := 32) hC (by decide) dL_lots_260 ?_
    refine g_iload hC 6 rfl dL_lots_262 ?_
    refine g_bipush (v := 10) hC (by decide) dL_lots_264 ?_
    refine g_idiv hC (by decide) dL_lots_266 ?_
    refine g_bipush (v := 10) hC (by decide) dL_lots_267 ?_
    refine g_irem hC (by decide) dL_lots_269 ?_
    refine g_imul hC dL_lots_270 ?_
    refine g_iadd hC dL_lots_271 ?_
    refine g_topi (fun v53 hv53 => ?_)
    replace h := gq_l_i hv53 h
    refine g_sipush (v := 128) hC (by decide) dL_lots_272 ?_
    refine g_bipush (v := 9) hC (by decide) dL_lots_275 ?_
    refine g_iload hC 6 rfl dL_lots_277 ?_
    refine g_bipush (v := 10) hC (by decide) dL_lots_279 ?_
    refine g_irem hC (by decide) dL_lots_281 ?_
    refine g_isub hC dL_lots_282 ?_
    refine g_imul hC dL_lots_283 ?_
    refine g_iadd hC dL_lots_284 ?_
    refine g_sipush (v := 2048) hC (by decide) dL_lots_285 ?_
    refine g_aload_n hC 3 rfl rfl dL_lots_288 ?_
    refine g_bipush (v := 16) hC (by decide) dL_lots_289 ?_
    refine g_iload hC 6 rfl dL_lots_291 ?_
    refine g_bipush (v := 100) hC (by decide) dL_lots_293 ?_
    refine g_idiv hC (by decide) dL_lots_295 ?_
    refine g_iadd hC dL_lots_296 ?_
    obtain ⟨g54, h⟩ := gq_g_i h
    refine g_iald hC arL_119 (gq_in_i g54) dL_lots_297 ?_
    refine g_topi (fun v55 hv55 => ?_)
    replace h := gq_l_i hv55 h
    refine g_imul hC dL_lots_298 ?_
    refine g_iadd hC dL_lots_299 ?_
    refine g_topi (fun v56 hv56 => ?_)
    replace h := gq_l_i hv56 h
    obtain ⟨g57, h⟩ := gq_g_i h
    refine g_iast hC arL_114 (gq_in_i g57) dL_lots_300 ?_
    refine g_topM (fun M58 hM58 => ?_)
    replace h := gq_l_i hM58 h
    refine g_aload_n hC 3 rfl rfl dL_lots_301 ?_
    refine g_iconst (v := 5) hC (by decide) dL_lots_302 ?_
    refine g_dup2 hC rfl rfl dL_lots_303 ?_
    obtain ⟨g59, h⟩ := gq_g_i h
    refine g_iald hC arL_119 (gq_in_i g59) dL_lots_304 ?_
    refine g_topi (fun v60 hv60 => ?_)
    replace h := gq_l_i hv60 h
    refine g_iconst (v := 1) hC (by decide) dL_lots_305 ?_
    refine g_iadd hC dL_lots_306 ?_
    obtain ⟨g61, h⟩ := gq_g_i h
    refine g_iast hC arL_119 (gq_in_i g61) dL_lots_307 ?_
    refine g_topM (fun M62 hM62 => ?_)
    replace h := gq_l_i hM62 h
    exact g_weak [0, 1, 2, 3, 4, 5, 6] rfl (t_L_lots_308 hC hr hk6 x4 x6 x7 M62 h)
def f_L_lots_234 (N : Nat) (kh6 : Int32 → Int32 → Int32 → gq_M → Option (Int32 × gq_M)) (kh137 : Int32 → Int32 → Int32 → Int32 → gq_M → Option (Int32 × gq_M)) (x4 : Int32) (x6 : Int32) (x7 : Int32) (x8 : Int32) (M : gq_M) : Option (Int32 × gq_M) :=
  kh137 x4 x6 x7 (x8 + 1) M
set_option maxHeartbeats 1000000 in
set_option maxRecDepth 20000 in
theorem t_L_lots_234 {N : Nat} {kh6 : Int32 → Int32 → Int32 → gq_M → Option (Int32 × gq_M)} {kh137 : Int32 → Int32 → Int32 → Int32 → gq_M → Option (Int32 × gq_M)} {v9 : Int32} {M9 : gq_M} (hC : gq_C p s m args meth c D A cI cZ ad mtL RL cL_lots 10) (hr : meth.sig.returnType = none) (hk6 : ∀ (x4 : Int32) (x5 : Int32) (x6 : Int32) (M : gq_M), kh6 x4 x5 x6 M = some (v9, M9) → gq_W p l e (gq_rm 2) s m args below meth c D A cI cZ ad mtL 10 (MQ below (gq_Qv D cI cZ ad mtL M9 A) args s 0 0 A) 6 [(0, .ref (ad 109)), (1, .ref (ad 111)), (2, .ref (ad 114)), (3, .ref (ad 119)), (4, .int x4), (5, .int x5), (6, .int x6)] [] M 0 0) (hk137 : ∀ (x4 : Int32) (x6 : Int32) (x7 : Int32) (x8 : Int32) (M : gq_M), kh137 x4 x6 x7 x8 M = some (v9, M9) → gq_W p l e (gq_rm 2) s m args below meth c D A cI cZ ad mtL 10 (MQ below (gq_Qv D cI cZ ad mtL M9 A) args s 0 0 A) 137 [(0, .ref (ad 109)), (1, .ref (ad 111)), (2, .ref (ad 114)), (3, .ref (ad 119)), (4, .int x4), (6, .int x6), (7, .int x7), (8, .int x8)] [] M 0 0)  : ∀ (x4 : Int32) (x6 : Int32) (x7 : Int32) (x8 : Int32) (M : gq_M), f_L_lots_234 N kh6 kh137 x4 x6 x7 x8 M = some (v9, M9) → gq_W p l e (gq_rm 2) s m args below meth c D A cI cZ ad mtL 10 (MQ below (gq_Qv D cI cZ ad mtL M9 A) args s 0 0 A) 234 [(0, .ref (ad 109)), (1, .ref (ad 111)), (2, .ref (ad 114)), (3, .ref (ad 119)), (4, .int x4), (6, .int x6), (7, .int x7), (8, .int x8)] [] M 0 0 := by
  intro x4 x6 x7 x8 M h
  unfold f_L_lots_234 at h
  refine g_iinc (v := (x8 + 1)) (L2 := [(8, .int (x8 + 1)), (0, .ref (ad 109)), (1, .ref (ad 111)), (2, .ref (ad 114)), (3, .ref (ad 119)), (4, .int x4), (6, .int x6), (7, .int x7)]) hC 7 rfl (by first | rfl | decide) (by decide) rfl dL_lots_234 ?_
  refine g_goto (tgt := 137) hC (by decide) dL_lots_237 ?_
  exact g_weak [1, 2, 3, 4, 5, 6, 7, 0] rfl (hk137 x4 x6 x7 (x8 + 1) M h)
def f_L_lots_137_b (N : Nat) (kh6 : Int32 → Int32 → Int32 → gq_M → Option (Int32 × gq_M)) (kh137 : Int32 → Int32 → Int32 → Int32 → gq_M → Option (Int32 × gq_M)) (x4 : Int32) (x6 : Int32) (x7 : Int32) (x8 : Int32) (M : gq_M) : Option (Int32 × gq_M) :=
  gq_g (gq_in 4 56) (gq_l (M 119 (4 : Int32).toNatClampNeg) fun v24 => if v24 ≤ x8 then (f_L_lots_240 N kh6 x4 x6 x7 M) else (if x6 = 0 then (f_L_lots_240 N kh6 x4 x6 x7 M) else (gq_g (gq_in x8 40) (gq_l (M 109 x8.toNatClampNeg) fun v28 => gq_g (gq_in x8 40) (gq_l (M 109 x8.toNatClampNeg) fun v30 => gq_l ((((v28 / 8) - (v28 / 8) / 4 * 4) * 100) + (((v30 / 32) - (v30 / 32) / 4 * 4) * 10)) fun v31 => gq_g (gq_in x8 40) (gq_l (M 109 x8.toNatClampNeg) fun v33 => gq_l ((v31 + 9) - ((v33 / 128) - (v33 / 128) / 16 * 16)) fun v34 => gq_b (f_L_isToSell N x8 M) fun v35 M37 => if v35 = 0 then (f_L_lots_234 N kh6 kh137 x4 x6 x7 x8 M37) else (gq_g (gq_in x8 40) (gq_l (M37 109 x8.toNatClampNeg) fun v40 => if (v40 - v40 / 8 * 8) = x4 then (if v34 = x7 then (gq_b (f_L_becomes N x8 2 M37) fun v43 M45 => gq_g (gq_in 5 56) (gq_l (M45 119 (5 : Int32).toNatClampNeg) fun v47 => gq_g (gq_in x8 40) (gq_l (gq_up M45 111 x8.toNatClampNeg v47) fun M49 => f_L_lots_234 N kh6 kh137 x4 x6 x7 x8 M49))) else (f_L_lots_234 N kh6 kh137 x4 x6 x7 x8 M37)) else (f_L_lots_234 N kh6 kh137 x4 x6 x7 x8 M37)))))))))
def f_L_lots_137 (N : Nat) (kh6 : Int32 → Int32 → Int32 → gq_M → Option (Int32 × gq_M)) : Nat → Int32 → Int32 → Int32 → Int32 → gq_M → Option (Int32 × gq_M)
  | 0 => fun _ _ _ _ _ => none
  | n9 + 1 => f_L_lots_137_b N kh6 (f_L_lots_137 N kh6 n9)
set_option maxHeartbeats 1000000 in
set_option maxRecDepth 20000 in
theorem t_L_lots_137_b {N : Nat} {kh6 : Int32 → Int32 → Int32 → gq_M → Option (Int32 × gq_M)} {kh137 : Int32 → Int32 → Int32 → Int32 → gq_M → Option (Int32 × gq_M)} {v9 : Int32} {M9 : gq_M} (hC : gq_C p s m args meth c D A cI cZ ad mtL RL cL_lots 10) (hr : meth.sig.returnType = none) (hk6 : ∀ (x4 : Int32) (x5 : Int32) (x6 : Int32) (M : gq_M), kh6 x4 x5 x6 M = some (v9, M9) → gq_W p l e (gq_rm 2) s m args below meth c D A cI cZ ad mtL 10 (MQ below (gq_Qv D cI cZ ad mtL M9 A) args s 0 0 A) 6 [(0, .ref (ad 109)), (1, .ref (ad 111)), (2, .ref (ad 114)), (3, .ref (ad 119)), (4, .int x4), (5, .int x5), (6, .int x6)] [] M 0 0) (hk137 : ∀ (x4 : Int32) (x6 : Int32) (x7 : Int32) (x8 : Int32) (M : gq_M), kh137 x4 x6 x7 x8 M = some (v9, M9) → gq_W p l e (gq_rm 2) s m args below meth c D A cI cZ ad mtL 10 (MQ below (gq_Qv D cI cZ ad mtL M9 A) args s 0 0 A) 137 [(0, .ref (ad 109)), (1, .ref (ad 111)), (2, .ref (ad 114)), (3, .ref (ad 119)), (4, .int x4), (6, .int x6), (7, .int x7), (8, .int x8)] [] M 0 0) : ∀ (x4 : Int32) (x6 : Int32) (x7 : Int32) (x8 : Int32) (M : gq_M), f_L_lots_137_b N kh6 kh137 x4 x6 x7 x8 M = some (v9, M9) → gq_W p l e (gq_rm 2) s m args below meth c D A cI cZ ad mtL 10 (MQ below (gq_Qv D cI cZ ad mtL M9 A) args s 0 0 A) 137 [(0, .ref (ad 109)), (1, .ref (ad 111)), (2, .ref (ad 114)), (3, .ref (ad 119)), (4, .int x4), (6, .int x6), (7, .int x7), (8, .int x8)] [] M 0 0 := by
  intro x4 x6 x7 x8 M h
  unfold f_L_lots_137_b at h
  refine g_iload hC 7 rfl dL_lots_137 ?_
  refine g_aload_n hC 3 rfl rfl dL_lots_139 ?_
  refine g_iconst (v := 4) hC (by decide) dL_lots_140 ?_
  obtain ⟨g23, h⟩ := gq_g_i h
  refine g_iald hC arL_119 (gq_in_i g23) dL_lots_141 ?_
  refine g_topi (fun v24 hv24 => ?_)
  replace h := gq_l_i hv24 h
  refine g_icmp_ge (tgt := 240) hC (by decide) dL_lots_142 (fun c25 => ?_) (fun c25 => ?_)
  · replace h := gq_t c25 h
    exact g_weak [0, 1, 2, 3, 4, 5, 6] rfl (t_L_lots_240 hC hr hk6 x4 x6 x7 M h)
  · replace h := gq_f c25 h
    refine g_iload hC 5 rfl dL_lots_145 ?_
    refine g_if_eq (tgt := 240) hC (by decide) dL_lots_147 (fun c26 => ?_) (fun c26 => ?_)
    · replace h := gq_t c26 h
      exact g_weak [0, 1, 2, 3, 4, 5, 6] rfl (t_L_lots_240 hC hr hk6 x4 x6 x7 M h)
    · replace h := gq_f c26 h
      refine g_aload_n hC 0 rfl rfl dL_lots_150 ?_
      refine g_iload hC 7 rfl dL_lots_151 ?_
      obtain ⟨g27, h⟩ := gq_g_i h
      refine g_iald hC arL_109 (gq_in_i g27) dL_lots_153 ?_
      refine g_topi (fun v28 hv28 => ?_)
      replace h := gq_l_i hv28 h
      refine g_bipush (v := 8) hC (by decide) dL_lots_154 ?_
      refine g_idiv hC (by decide) dL_lots_156 ?_
      refine g_iconst (v := 4) hC (by decide) dL_lots_157 ?_
      refine g_irem hC (by decide) dL_lots_158 ?_
      refine g_bipush (v := 100) hC (by decide) dL_lots_159 ?_
      refine g_imul hC dL_lots_161 ?_
      refine g_aload_n hC 0 rfl rfl dL_lots_162 ?_
      refine g_iload hC 7 rfl dL_lots_163 ?_
      obtain ⟨g29, h⟩ := gq_g_i h
      refine g_iald hC arL_109 (gq_in_i g29) dL_lots_165 ?_
      refine g_topi (fun v30 hv30 => ?_)
      replace h := gq_l_i hv30 h
      refine g_bipush (v := 32) hC (by decide) dL_lots_166 ?_
      refine g_idiv hC (by decide) dL_lots_168 ?_
      refine g_iconst (v := 4) hC (by decide) dL_lots_169 ?_
      refine g_irem hC (by decide) dL_lots_170 ?_
      refine g_bipush (v := 10) hC (by decide) dL_lots_171 ?_
      refine g_imul hC dL_lots_173 ?_
      refine g_iadd hC dL_lots_174 ?_
      refine g_topi (fun v31 hv31 => ?_)
      replace h := gq_l_i hv31 h
      refine g_bipush (v := 9) hC (by decide) dL_lots_175 ?_
      refine g_iadd hC dL_lots_177 ?_
      refine g_aload_n hC 0 rfl rfl dL_lots_178 ?_
      refine g_iload hC 7 rfl dL_lots_179 ?_
      obtain ⟨g32, h⟩ := gq_g_i h
      refine g_iald hC arL_109 (gq_in_i g32) dL_lots_181 ?_
      refine g_topi (fun v33 hv33 => ?_)
      replace h := gq_l_i hv33 h
      refine g_sipush (v := 128) hC (by decide) dL_lots_182 ?_
      refine g_idiv hC (by decide) dL_lots_185 ?_
      refine g_bipush (v := 16) hC (by decide) dL_lots_186 ?_
      refine g_irem hC (by decide) dL_lots_188 ?_
      refine g_isub hC dL_lots_189 ?_
      refine g_topi (fun v34 hv34 => ?_)
      replace h := gq_l_i hv34 h
      refine g_istore (L2 := [(9, .int v34), (0, .ref (ad 109)), (1, .ref (ad 111)), (2, .ref (ad 114)), (3, .ref (ad 119)), (4, .int x4), (6, .int x6), (7, .int x7), (8, .int x8)]) hC (by decide) rfl dL_lots_190 ?_
      refine g_aload_n hC 1 rfl rfl dL_lots_192 ?_
      refine g_iload hC 8 rfl dL_lots_193 ?_
      obtain ⟨v35, M37, c36, h⟩ := gq_b_i h
      refine g_Si (as := [.ref (ad 109), .int x8]) hC (t_L_isToSell N _ _ _ _ c36) mS_L_isToSell wm_L_148 rfl rfl (Nat.le_of_ble_eq_true rfl) ⟨Nat.le_of_ble_eq_true rfl, Nat.le_of_ble_eq_true rfl⟩ ⟨Nat.zero_le _, Nat.zero_le _⟩ dL_lots_195 ?_
      refine g_if_eq (tgt := 234) hC (by decide) dL_lots_198 (fun c38 => ?_) (fun c38 => ?_)
      · replace h := gq_t c38 h
        exact g_weak [1, 2, 3, 4, 5, 6, 7, 8] rfl (t_L_lots_234 hC hr hk6 hk137 x4 x6 x7 x8 M37 h)
      · replace h := gq_f c38 h
        refine g_aload_n hC 1 rfl rfl dL_lots_201 ?_
        refine g_iload hC 8 rfl dL_lots_202 ?_
        obtain ⟨g39, h⟩ := gq_g_i h
        refine g_iald hC arL_109 (gq_in_i g39) dL_lots_204 ?_
        refine g_topi (fun v40 hv40 => ?_)
        replace h := gq_l_i hv40 h
        refine g_bipush (v := 8) hC (by decide) dL_lots_205 ?_
        refine g_irem hC (by decide) dL_lots_207 ?_
        refine g_iload hC 5 rfl dL_lots_208 ?_
        refine g_icmp_ne (tgt := 234) hC (by decide) dL_lots_210 (fun c41 => ?_) (fun c41 => ?_)
        · replace h := gq_f c41 h
          exact g_weak [1, 2, 3, 4, 5, 6, 7, 8] rfl (t_L_lots_234 hC hr hk6 hk137 x4 x6 x7 x8 M37 h)
        · replace h := gq_t c41 h
          refine g_iload hC 0 rfl dL_lots_213 ?_
          refine g_iload hC 7 rfl dL_lots_215 ?_
          refine g_icmp_ne (tgt := 234) hC (by decide) dL_lots_217 (fun c42 => ?_) (fun c42 => ?_)
          · replace h := gq_f c42 h
            exact g_weak [1, 2, 3, 4, 5, 6, 7, 8] rfl (t_L_lots_234 hC hr hk6 hk137 x4 x6 x7 x8 M37 h)
          · replace h := gq_t c42 h
            refine g_aload_n hC 1 rfl rfl dL_lots_220 ?_
            refine g_iload hC 8 rfl dL_lots_221 ?_
            refine g_iconst (v := 2) hC (by decide) dL_lots_223 ?_
            obtain ⟨v43, M45, c44, h⟩ := gq_b_i h
            refine g_Sv (as := [.ref (ad 109), .int x8, .int 2]) hC (t_L_becomes N _ _ _ _ _ c44) mS_L_becomes wm_L_107 rfl rfl (Nat.le_of_ble_eq_true rfl) ⟨Nat.le_of_ble_eq_true rfl, Nat.le_of_ble_eq_true rfl⟩ ⟨Nat.zero_le _, Nat.zero_le _⟩ dL_lots_224 ?_
            refine g_aload_n hC 2 rfl rfl dL_lots_227 ?_
            refine g_iload hC 8 rfl dL_lots_228 ?_
            refine g_aload_n hC 4 rfl rfl dL_lots_230 ?_
            refine g_iconst (v := 5) hC (by decide) dL_lots_231 ?_
            obtain ⟨g46, h⟩ := gq_g_i h
            refine g_iald hC arL_119 (gq_in_i g46) dL_lots_232 ?_
            refine g_topi (fun v47 hv47 => ?_)
            replace h := gq_l_i hv47 h
            obtain ⟨g48, h⟩ := gq_g_i h
            refine g_iast hC arL_111 (gq_in_i g48) dL_lots_233 ?_
            refine g_topM (fun M49 hM49 => ?_)
            replace h := gq_l_i hM49 h
            exact g_weak [1, 2, 3, 4, 5, 6, 7, 8] rfl (t_L_lots_234 hC hr hk6 hk137 x4 x6 x7 x8 M49 h)
theorem t_L_lots_137 {N : Nat} {kh6 : Int32 → Int32 → Int32 → gq_M → Option (Int32 × gq_M)} {v9 : Int32} {M9 : gq_M} (hC : gq_C p s m args meth c D A cI cZ ad mtL RL cL_lots 10) (hr : meth.sig.returnType = none) (hk6 : ∀ (x4 : Int32) (x5 : Int32) (x6 : Int32) (M : gq_M), kh6 x4 x5 x6 M = some (v9, M9) → gq_W p l e (gq_rm 2) s m args below meth c D A cI cZ ad mtL 10 (MQ below (gq_Qv D cI cZ ad mtL M9 A) args s 0 0 A) 6 [(0, .ref (ad 109)), (1, .ref (ad 111)), (2, .ref (ad 114)), (3, .ref (ad 119)), (4, .int x4), (5, .int x5), (6, .int x6)] [] M 0 0) : ∀ (n9 : Nat) (x4 : Int32) (x6 : Int32) (x7 : Int32) (x8 : Int32) (M : gq_M), f_L_lots_137 N kh6 n9 x4 x6 x7 x8 M = some (v9, M9) → gq_W p l e (gq_rm 2) s m args below meth c D A cI cZ ad mtL 10 (MQ below (gq_Qv D cI cZ ad mtL M9 A) args s 0 0 A) 137 [(0, .ref (ad 109)), (1, .ref (ad 111)), (2, .ref (ad 114)), (3, .ref (ad 119)), (4, .int x4), (6, .int x6), (7, .int x7), (8, .int x8)] [] M 0 0 := by
  intro n9
  induction n9 with
  | zero => intro x4 x6 x7 x8 M h; cases h
  | succ n9 ih => intro x4 x6 x7 x8 M h; exact t_L_lots_137_b hC hr hk6 ih x4 x6 x7 x8 M h
def f_L_lots_132 (N : Nat) (kh6 : Int32 → Int32 → Int32 → gq_M → Option (Int32 × gq_M)) (x4 : Int32) (x7 : Int32) (s0 : Int32) (M : gq_M) : Option (Int32 × gq_M) :=
  f_L_lots_137 N kh6 N x4 s0 x7 0 M
set_option maxHeartbeats 1000000 in
set_option maxRecDepth 20000 in
theorem t_L_lots_132 {N : Nat} {kh6 : Int32 → Int32 → Int32 → gq_M → Option (Int32 × gq_M)} {v9 : Int32} {M9 : gq_M} (hC : gq_C p s m args meth c D A cI cZ ad mtL RL cL_lots 10) (hr : meth.sig.returnType = none) (hk6 : ∀ (x4 : Int32) (x5 : Int32) (x6 : Int32) (M : gq_M), kh6 x4 x5 x6 M = some (v9, M9) → gq_W p l e (gq_rm 2) s m args below meth c D A cI cZ ad mtL 10 (MQ below (gq_Qv D cI cZ ad mtL M9 A) args s 0 0 A) 6 [(0, .ref (ad 109)), (1, .ref (ad 111)), (2, .ref (ad 114)), (3, .ref (ad 119)), (4, .int x4), (5, .int x5), (6, .int x6)] [] M 0 0)  : ∀ (x4 : Int32) (x7 : Int32) (s0 : Int32) (M : gq_M), f_L_lots_132 N kh6 x4 x7 s0 M = some (v9, M9) → gq_W p l e (gq_rm 2) s m args below meth c D A cI cZ ad mtL 10 (MQ below (gq_Qv D cI cZ ad mtL M9 A) args s 0 0 A) 132 [(0, .ref (ad 109)), (1, .ref (ad 111)), (2, .ref (ad 114)), (3, .ref (ad 119)), (4, .int x4), (7, .int x7)] [.int s0] M 0 0 := by
  intro x4 x7 s0 M h
  unfold f_L_lots_132 at h
  refine g_istore (L2 := [(6, .int s0), (0, .ref (ad 109)), (1, .ref (ad 111)), (2, .ref (ad 114)), (3, .ref (ad 119)), (4, .int x4), (7, .int x7)]) hC (by decide) rfl dL_lots_132 ?_
  refine g_iconst (v := 0) hC (by decide) dL_lots_134 ?_
  refine g_istore (L2 := [(8, .int 0), (6, .int s0), (0, .ref (ad 109)), (1, .ref (ad 111)), (2, .ref (ad 114)), (3, .ref (ad 119)), (4, .int x4), (7, .int x7)]) hC (by decide) rfl dL_lots_135 ?_
  exact g_weak [2, 3, 4, 5, 6, 1, 7, 0] rfl (t_L_lots_137 hC hr hk6 N x4 s0 x7 0 M h)
def f_L_lots_111 (N : Nat) (kh6 : Int32 → Int32 → Int32 → gq_M → Option (Int32 × gq_M)) (kh19 : Int32 → Int32 → Int32 → Int32 → gq_M → Option (Int32 × gq_M)) (x4 : Int32) (x5 : Int32) (x8 : Int32) (s0 : Int32) (M : gq_M) : Option (Int32 × gq_M) :=
  kh19 x4 x5 s0 (x8 + 1) M
set_option maxHeartbeats 1000000 in
set_option maxRecDepth 20000 in
theorem t_L_lots_111 {N : Nat} {kh6 : Int32 → Int32 → Int32 → gq_M → Option (Int32 × gq_M)} {kh19 : Int32 → Int32 → Int32 → Int32 → gq_M → Option (Int32 × gq_M)} {v9 : Int32} {M9 : gq_M} (hC : gq_C p s m args meth c D A cI cZ ad mtL RL cL_lots 10) (hr : meth.sig.returnType = none) (hk6 : ∀ (x4 : Int32) (x5 : Int32) (x6 : Int32) (M : gq_M), kh6 x4 x5 x6 M = some (v9, M9) → gq_W p l e (gq_rm 2) s m args below meth c D A cI cZ ad mtL 10 (MQ below (gq_Qv D cI cZ ad mtL M9 A) args s 0 0 A) 6 [(0, .ref (ad 109)), (1, .ref (ad 111)), (2, .ref (ad 114)), (3, .ref (ad 119)), (4, .int x4), (5, .int x5), (6, .int x6)] [] M 0 0) (hk19 : ∀ (x4 : Int32) (x5 : Int32) (x7 : Int32) (x8 : Int32) (M : gq_M), kh19 x4 x5 x7 x8 M = some (v9, M9) → gq_W p l e (gq_rm 2) s m args below meth c D A cI cZ ad mtL 10 (MQ below (gq_Qv D cI cZ ad mtL M9 A) args s 0 0 A) 19 [(0, .ref (ad 109)), (1, .ref (ad 111)), (2, .ref (ad 114)), (3, .ref (ad 119)), (4, .int x4), (5, .int x5), (7, .int x7), (8, .int x8)] [] M 0 0)  : ∀ (x4 : Int32) (x5 : Int32) (x8 : Int32) (s0 : Int32) (M : gq_M), f_L_lots_111 N kh6 kh19 x4 x5 x8 s0 M = some (v9, M9) → gq_W p l e (gq_rm 2) s m args below meth c D A cI cZ ad mtL 10 (MQ below (gq_Qv D cI cZ ad mtL M9 A) args s 0 0 A) 111 [(0, .ref (ad 109)), (1, .ref (ad 111)), (2, .ref (ad 114)), (3, .ref (ad 119)), (4, .int x4), (5, .int x5), (8, .int x8)] [.int s0] M 0 0 := by
  intro x4 x5 x8 s0 M h
  unfold f_L_lots_111 at h
  refine g_istore (L2 := [(7, .int s0), (0, .ref (ad 109)), (1, .ref (ad 111)), (2, .ref (ad 114)), (3, .ref (ad 119)), (4, .int x4), (5, .int x5), (8, .int x8)]) hC (by decide) rfl dL_lots_111 ?_
  refine g_iinc (v := (x8 + 1)) (L2 := [(8, .int (x8 + 1)), (7, .int s0), (0, .ref (ad 109)), (1, .ref (ad 111)), (2, .ref (ad 114)), (3, .ref (ad 119)), (4, .int x4), (5, .int x5)]) hC 7 rfl (by first | rfl | decide) (by decide) rfl dL_lots_113 ?_
  refine g_goto (tgt := 19) hC (by decide) dL_lots_116 ?_
  exact g_weak [2, 3, 4, 5, 6, 7, 1, 0] rfl (hk19 x4 x5 s0 (x8 + 1) M h)
def f_L_lots_109 (N : Nat) (kh6 : Int32 → Int32 → Int32 → gq_M → Option (Int32 × gq_M)) (kh19 : Int32 → Int32 → Int32 → Int32 → gq_M → Option (Int32 × gq_M)) (x4 : Int32) (x5 : Int32) (x7 : Int32) (x8 : Int32) (M : gq_M) : Option (Int32 × gq_M) :=
  f_L_lots_111 N kh6 kh19 x4 x5 x8 x7 M
set_option maxHeartbeats 1000000 in
set_option maxRecDepth 20000 in
theorem t_L_lots_109 {N : Nat} {kh6 : Int32 → Int32 → Int32 → gq_M → Option (Int32 × gq_M)} {kh19 : Int32 → Int32 → Int32 → Int32 → gq_M → Option (Int32 × gq_M)} {v9 : Int32} {M9 : gq_M} (hC : gq_C p s m args meth c D A cI cZ ad mtL RL cL_lots 10) (hr : meth.sig.returnType = none) (hk6 : ∀ (x4 : Int32) (x5 : Int32) (x6 : Int32) (M : gq_M), kh6 x4 x5 x6 M = some (v9, M9) → gq_W p l e (gq_rm 2) s m args below meth c D A cI cZ ad mtL 10 (MQ below (gq_Qv D cI cZ ad mtL M9 A) args s 0 0 A) 6 [(0, .ref (ad 109)), (1, .ref (ad 111)), (2, .ref (ad 114)), (3, .ref (ad 119)), (4, .int x4), (5, .int x5), (6, .int x6)] [] M 0 0) (hk19 : ∀ (x4 : Int32) (x5 : Int32) (x7 : Int32) (x8 : Int32) (M : gq_M), kh19 x4 x5 x7 x8 M = some (v9, M9) → gq_W p l e (gq_rm 2) s m args below meth c D A cI cZ ad mtL 10 (MQ below (gq_Qv D cI cZ ad mtL M9 A) args s 0 0 A) 19 [(0, .ref (ad 109)), (1, .ref (ad 111)), (2, .ref (ad 114)), (3, .ref (ad 119)), (4, .int x4), (5, .int x5), (7, .int x7), (8, .int x8)] [] M 0 0)  : ∀ (x4 : Int32) (x5 : Int32) (x7 : Int32) (x8 : Int32) (M : gq_M), f_L_lots_109 N kh6 kh19 x4 x5 x7 x8 M = some (v9, M9) → gq_W p l e (gq_rm 2) s m args below meth c D A cI cZ ad mtL 10 (MQ below (gq_Qv D cI cZ ad mtL M9 A) args s 0 0 A) 109 [(0, .ref (ad 109)), (1, .ref (ad 111)), (2, .ref (ad 114)), (3, .ref (ad 119)), (4, .int x4), (5, .int x5), (7, .int x7), (8, .int x8)] [] M 0 0 := by
  intro x4 x5 x7 x8 M h
  unfold f_L_lots_109 at h
  refine g_iload hC 6 rfl dL_lots_109 ?_
  exact g_weak [0, 1, 2, 3, 4, 5, 7] rfl (t_L_lots_111 hC hr hk6 hk19 x4 x5 x8 x7 M h)
def f_L_lots_19_b (N : Nat) (kh6 : Int32 → Int32 → Int32 → gq_M → Option (Int32 × gq_M)) (kh19 : Int32 → Int32 → Int32 → Int32 → gq_M → Option (Int32 × gq_M)) (x4 : Int32) (x5 : Int32) (x7 : Int32) (x8 : Int32) (M : gq_M) : Option (Int32 × gq_M) :=
  gq_g (gq_in 4 56) (gq_l (M 119 (4 : Int32).toNatClampNeg) fun v3 => if v3 ≤ x8 then (if 1000 ≤ x7 then (f_L_lots_132 N kh6 x4 x7 0 M) else (f_L_lots_132 N kh6 x4 x7 1 M)) else (gq_g (gq_in x8 40) (gq_l (M 109 x8.toNatClampNeg) fun v7 => gq_g (gq_in x8 40) (gq_l (M 109 x8.toNatClampNeg) fun v9 => gq_l ((((v7 / 8) - (v7 / 8) / 4 * 4) * 100) + (((v9 / 32) - (v9 / 32) / 4 * 4) * 10)) fun v10 => gq_g (gq_in x8 40) (gq_l (M 109 x8.toNatClampNeg) fun v12 => gq_l ((v10 + 9) - ((v12 / 128) - (v12 / 128) / 16 * 16)) fun v13 => gq_b (f_L_isToSell N x8 M) fun v14 M16 => if v14 = 0 then (f_L_lots_109 N kh6 kh19 x4 x5 x7 x8 M16) else (gq_g (gq_in x8 40) (gq_l (M16 109 x8.toNatClampNeg) fun v19 => if (v19 - v19 / 8 * 8) = x4 then (if v13 ≤ x5 then (f_L_lots_109 N kh6 kh19 x4 x5 x7 x8 M16) else (if x7 ≤ v13 then (f_L_lots_109 N kh6 kh19 x4 x5 x7 x8 M16) else (f_L_lots_111 N kh6 kh19 x4 x5 x8 v13 M16))) else (f_L_lots_109 N kh6 kh19 x4 x5 x7 x8 M16))))))))
def f_L_lots_19 (N : Nat) (kh6 : Int32 → Int32 → Int32 → gq_M → Option (Int32 × gq_M)) : Nat → Int32 → Int32 → Int32 → Int32 → gq_M → Option (Int32 × gq_M)
  | 0 => fun _ _ _ _ _ => none
  | n9 + 1 => f_L_lots_19_b N kh6 (f_L_lots_19 N kh6 n9)
set_option maxHeartbeats 1000000 in
set_option maxRecDepth 20000 in
theorem t_L_lots_19_b {N : Nat} {kh6 : Int32 → Int32 → Int32 → gq_M → Option (Int32 × gq_M)} {kh19 : Int32 → Int32 → Int32 → Int32 → gq_M → Option (Int32 × gq_M)} {v9 : Int32} {M9 : gq_M} (hC : gq_C p s m args meth c D A cI cZ ad mtL RL cL_lots 10) (hr : meth.sig.returnType = none) (hk6 : ∀ (x4 : Int32) (x5 : Int32) (x6 : Int32) (M : gq_M), kh6 x4 x5 x6 M = some (v9, M9) → gq_W p l e (gq_rm 2) s m args below meth c D A cI cZ ad mtL 10 (MQ below (gq_Qv D cI cZ ad mtL M9 A) args s 0 0 A) 6 [(0, .ref (ad 109)), (1, .ref (ad 111)), (2, .ref (ad 114)), (3, .ref (ad 119)), (4, .int x4), (5, .int x5), (6, .int x6)] [] M 0 0) (hk19 : ∀ (x4 : Int32) (x5 : Int32) (x7 : Int32) (x8 : Int32) (M : gq_M), kh19 x4 x5 x7 x8 M = some (v9, M9) → gq_W p l e (gq_rm 2) s m args below meth c D A cI cZ ad mtL 10 (MQ below (gq_Qv D cI cZ ad mtL M9 A) args s 0 0 A) 19 [(0, .ref (ad 109)), (1, .ref (ad 111)), (2, .ref (ad 114)), (3, .ref (ad 119)), (4, .int x4), (5, .int x5), (7, .int x7), (8, .int x8)] [] M 0 0) : ∀ (x4 : Int32) (x5 : Int32) (x7 : Int32) (x8 : Int32) (M : gq_M), f_L_lots_19_b N kh6 kh19 x4 x5 x7 x8 M = some (v9, M9) → gq_W p l e (gq_rm 2) s m args below meth c D A cI cZ ad mtL 10 (MQ below (gq_Qv D cI cZ ad mtL M9 A) args s 0 0 A) 19 [(0, .ref (ad 109)), (1, .ref (ad 111)), (2, .ref (ad 114)), (3, .ref (ad 119)), (4, .int x4), (5, .int x5), (7, .int x7), (8, .int x8)] [] M 0 0 := by
  intro x4 x5 x7 x8 M h
  unfold f_L_lots_19_b at h
  refine g_iload hC 7 rfl dL_lots_19 ?_
  refine g_aload_n hC 3 rfl rfl dL_lots_21 ?_
  refine g_iconst (v := 4) hC (by decide) dL_lots_22 ?_
  obtain ⟨g2, h⟩ := gq_g_i h
  refine g_iald hC arL_119 (gq_in_i g2) dL_lots_23 ?_
  refine g_topi (fun v3 hv3 => ?_)
  replace h := gq_l_i hv3 h
  refine g_icmp_ge (tgt := 119) hC (by decide) dL_lots_24 (fun c4 => ?_) (fun c4 => ?_)
  · replace h := gq_t c4 h
    refine g_iload hC 6 rfl dL_lots_119 ?_
    refine g_sipush (v := 1000) hC (by decide) dL_lots_121 ?_
    refine g_icmp_ge (tgt := 131) hC (by decide) dL_lots_124 (fun c5 => ?_) (fun c5 => ?_)
    · replace h := gq_t c5 h
      refine g_iconst (v := 0) hC (by decide) dL_lots_131 ?_
      exact g_weak [0, 1, 2, 3, 4, 6] rfl (t_L_lots_132 hC hr hk6 x4 x7 0 M h)
    · replace h := gq_f c5 h
      refine g_iconst (v := 1) hC (by decide) dL_lots_127 ?_
      refine g_goto (tgt := 132) hC (by decide) dL_lots_128 ?_
      exact g_weak [0, 1, 2, 3, 4, 6] rfl (t_L_lots_132 hC hr hk6 x4 x7 1 M h)
  · replace h := gq_f c4 h
    refine g_aload_n hC 0 rfl rfl dL_lots_27 ?_
    refine g_iload hC 7 rfl dL_lots_28 ?_
    obtain ⟨g6, h⟩ := gq_g_i h
    refine g_iald hC arL_109 (gq_in_i g6) dL_lots_30 ?_
    refine g_topi (fun v7 hv7 => ?_)
    replace h := gq_l_i hv7 h
    refine g_bipush (v := 8) hC (by decide) dL_lots_31 ?_
    refine g_idiv hC (by decide) dL_lots_33 ?_
    refine g_iconst (v := 4) hC (by decide) dL_lots_34 ?_
    refine g_irem hC (by decide) dL_lots_35 ?_
    refine g_bipush (v := 100) hC (by decide) dL_lots_36 ?_
    refine g_imul hC dL_lots_38 ?_
    refine g_aload_n hC 0 rfl rfl dL_lots_39 ?_
    refine g_iload hC 7 rfl dL_lots_40 ?_
    obtain ⟨g8, h⟩ := gq_g_i h
    refine g_iald hC arL_109 (gq_in_i g8) dL_lots_42 ?_
    refine g_topi (fun v9 hv9 => ?_)
    replace h := gq_l_i hv9 h
    refine g_bipush (v := 32) hC (by decide) dL_lots_43 ?_
    refine g_idiv hC (by decide) dL_lots_45 ?_
    refine g_iconst (v := 4) hC (by decide) dL_lots_46 ?_
    refine g_irem hC (by decide) dL_lots_47 ?_
    refine g_bipush (v := 10) hC (by decide) dL_lots_48 ?_
    refine g_imul hC dL_lots_50 ?_
    refine g_iadd hC dL_lots_51 ?_
    refine g_topi (fun v10 hv10 => ?_)
    replace h := gq_l_i hv10 h
    refine g_bipush (v := 9) hC (by decide) dL_lots_52 ?_
    refine g_iadd hC dL_lots_54 ?_
    refine g_aload_n hC 0 rfl rfl dL_lots_55 ?_
    refine g_iload hC 7 rfl dL_lots_56 ?_
    obtain ⟨g11, h⟩ := gq_g_i h
    refine g_iald hC arL_109 (gq_in_i g11) dL_lots_58 ?_
    refine g_topi (fun v12 hv12 => ?_)
    replace h := gq_l_i hv12 h
    refine g_sipush (v := 128) hC (by decide) dL_lots_59 ?_
    refine g_idiv hC (by decide) dL_lots_62 ?_
    refine g_bipush (v := 16) hC (by decide) dL_lots_63 ?_
    refine g_irem hC (by decide) dL_lots_65 ?_
    refine g_isub hC dL_lots_66 ?_
    refine g_topi (fun v13 hv13 => ?_)
    replace h := gq_l_i hv13 h
    refine g_istore (L2 := [(9, .int v13), (0, .ref (ad 109)), (1, .ref (ad 111)), (2, .ref (ad 114)), (3, .ref (ad 119)), (4, .int x4), (5, .int x5), (7, .int x7), (8, .int x8)]) hC (by decide) rfl dL_lots_67 ?_
    refine g_aload_n hC 1 rfl rfl dL_lots_69 ?_
    refine g_iload hC 8 rfl dL_lots_70 ?_
    obtain ⟨v14, M16, c15, h⟩ := gq_b_i h
    refine g_Si (as := [.ref (ad 109), .int x8]) hC (t_L_isToSell N _ _ _ _ c15) mS_L_isToSell wm_L_148 rfl rfl (Nat.le_of_ble_eq_true rfl) ⟨Nat.le_of_ble_eq_true rfl, Nat.le_of_ble_eq_true rfl⟩ ⟨Nat.zero_le _, Nat.zero_le _⟩ dL_lots_72 ?_
    refine g_if_eq (tgt := 109) hC (by decide) dL_lots_75 (fun c17 => ?_) (fun c17 => ?_)
    · replace h := gq_t c17 h
      exact g_weak [1, 2, 3, 4, 5, 6, 7, 8] rfl (t_L_lots_109 hC hr hk6 hk19 x4 x5 x7 x8 M16 h)
    · replace h := gq_f c17 h
      refine g_aload_n hC 1 rfl rfl dL_lots_78 ?_
      refine g_iload hC 8 rfl dL_lots_79 ?_
      obtain ⟨g18, h⟩ := gq_g_i h
      refine g_iald hC arL_109 (gq_in_i g18) dL_lots_81 ?_
      refine g_topi (fun v19 hv19 => ?_)
      replace h := gq_l_i hv19 h
      refine g_bipush (v := 8) hC (by decide) dL_lots_82 ?_
      refine g_irem hC (by decide) dL_lots_84 ?_
      refine g_iload hC 5 rfl dL_lots_85 ?_
      refine g_icmp_ne (tgt := 109) hC (by decide) dL_lots_87 (fun c20 => ?_) (fun c20 => ?_)
      · replace h := gq_f c20 h
        exact g_weak [1, 2, 3, 4, 5, 6, 7, 8] rfl (t_L_lots_109 hC hr hk6 hk19 x4 x5 x7 x8 M16 h)
      · replace h := gq_t c20 h
        refine g_iload hC 0 rfl dL_lots_90 ?_
        refine g_iload hC 6 rfl dL_lots_92 ?_
        refine g_icmp_le (tgt := 109) hC (by decide) dL_lots_94 (fun c21 => ?_) (fun c21 => ?_)
        · replace h := gq_t c21 h
          exact g_weak [1, 2, 3, 4, 5, 6, 7, 8] rfl (t_L_lots_109 hC hr hk6 hk19 x4 x5 x7 x8 M16 h)
        · replace h := gq_f c21 h
          refine g_iload hC 0 rfl dL_lots_97 ?_
          refine g_iload hC 7 rfl dL_lots_99 ?_
          refine g_icmp_ge (tgt := 109) hC (by decide) dL_lots_101 (fun c22 => ?_) (fun c22 => ?_)
          · replace h := gq_t c22 h
            exact g_weak [1, 2, 3, 4, 5, 6, 7, 8] rfl (t_L_lots_109 hC hr hk6 hk19 x4 x5 x7 x8 M16 h)
          · replace h := gq_f c22 h
            refine g_iload hC 0 rfl dL_lots_104 ?_
            refine g_goto (tgt := 111) hC (by decide) dL_lots_106 ?_
            exact g_weak [1, 2, 3, 4, 5, 6, 8] rfl (t_L_lots_111 hC hr hk6 hk19 x4 x5 x8 v13 M16 h)
theorem t_L_lots_19 {N : Nat} {kh6 : Int32 → Int32 → Int32 → gq_M → Option (Int32 × gq_M)} {v9 : Int32} {M9 : gq_M} (hC : gq_C p s m args meth c D A cI cZ ad mtL RL cL_lots 10) (hr : meth.sig.returnType = none) (hk6 : ∀ (x4 : Int32) (x5 : Int32) (x6 : Int32) (M : gq_M), kh6 x4 x5 x6 M = some (v9, M9) → gq_W p l e (gq_rm 2) s m args below meth c D A cI cZ ad mtL 10 (MQ below (gq_Qv D cI cZ ad mtL M9 A) args s 0 0 A) 6 [(0, .ref (ad 109)), (1, .ref (ad 111)), (2, .ref (ad 114)), (3, .ref (ad 119)), (4, .int x4), (5, .int x5), (6, .int x6)] [] M 0 0) : ∀ (n9 : Nat) (x4 : Int32) (x5 : Int32) (x7 : Int32) (x8 : Int32) (M : gq_M), f_L_lots_19 N kh6 n9 x4 x5 x7 x8 M = some (v9, M9) → gq_W p l e (gq_rm 2) s m args below meth c D A cI cZ ad mtL 10 (MQ below (gq_Qv D cI cZ ad mtL M9 A) args s 0 0 A) 19 [(0, .ref (ad 109)), (1, .ref (ad 111)), (2, .ref (ad 114)), (3, .ref (ad 119)), (4, .int x4), (5, .int x5), (7, .int x7), (8, .int x8)] [] M 0 0 := by
  intro n9
  induction n9 with
  | zero => intro x4 x5 x7 x8 M h; cases h
  | succ n9 ih => intro x4 x5 x7 x8 M h; exact t_L_lots_19_b hC hr hk6 ih x4 x5 x7 x8 M h
def f_L_lots_6_b (N : Nat) (kh6 : Int32 → Int32 → Int32 → gq_M → Option (Int32 × gq_M)) (x4 : Int32) (x5 : Int32) (x6 : Int32) (M : gq_M) : Option (Int32 × gq_M) :=
  if x6 = 0 then (some (0, M)) else (f_L_lots_19 N kh6 N x4 x5 1000 0 M)
def f_L_lots_6 (N : Nat) : Nat → Int32 → Int32 → Int32 → gq_M → Option (Int32 × gq_M)
  | 0 => fun _ _ _ _ => none
  | n9 + 1 => f_L_lots_6_b N  (f_L_lots_6 N  n9)
set_option maxHeartbeats 1000000 in
set_option maxRecDepth 20000 in
theorem t_L_lots_6_b {N : Nat} {kh6 : Int32 → Int32 → Int32 → gq_M → Option (Int32 × gq_M)} {v9 : Int32} {M9 : gq_M} (hC : gq_C p s m args meth c D A cI cZ ad mtL RL cL_lots 10) (hr : meth.sig.returnType = none)  (hk6 : ∀ (x4 : Int32) (x5 : Int32) (x6 : Int32) (M : gq_M), kh6 x4 x5 x6 M = some (v9, M9) → gq_W p l e (gq_rm 2) s m args below meth c D A cI cZ ad mtL 10 (MQ below (gq_Qv D cI cZ ad mtL M9 A) args s 0 0 A) 6 [(0, .ref (ad 109)), (1, .ref (ad 111)), (2, .ref (ad 114)), (3, .ref (ad 119)), (4, .int x4), (5, .int x5), (6, .int x6)] [] M 0 0) : ∀ (x4 : Int32) (x5 : Int32) (x6 : Int32) (M : gq_M), f_L_lots_6_b N  kh6 x4 x5 x6 M = some (v9, M9) → gq_W p l e (gq_rm 2) s m args below meth c D A cI cZ ad mtL 10 (MQ below (gq_Qv D cI cZ ad mtL M9 A) args s 0 0 A) 6 [(0, .ref (ad 109)), (1, .ref (ad 111)), (2, .ref (ad 114)), (3, .ref (ad 119)), (4, .int x4), (5, .int x5), (6, .int x6)] [] M 0 0 := by
  intro x4 x5 x6 M h
  unfold f_L_lots_6_b at h
  refine g_iload hC 6 rfl dL_lots_6 ?_
  refine g_if_eq (tgt := 315) hC (by decide) dL_lots_8 (fun c1 => ?_) (fun c1 => ?_)
  · replace h := gq_t c1 h
    exact g_vrets hC hr h dL_lots_315
  · replace h := gq_f c1 h
    refine g_sipush (v := 1000) hC (by decide) dL_lots_11 ?_
    refine g_istore (L2 := [(7, .int 1000), (0, .ref (ad 109)), (1, .ref (ad 111)), (2, .ref (ad 114)), (3, .ref (ad 119)), (4, .int x4), (5, .int x5), (6, .int x6)]) hC (by decide) rfl dL_lots_14 ?_
    refine g_iconst (v := 0) hC (by decide) dL_lots_16 ?_
    refine g_istore (L2 := [(8, .int 0), (7, .int 1000), (0, .ref (ad 109)), (1, .ref (ad 111)), (2, .ref (ad 114)), (3, .ref (ad 119)), (4, .int x4), (5, .int x5), (6, .int x6)]) hC (by decide) rfl dL_lots_17 ?_
    exact g_weak [2, 3, 4, 5, 6, 7, 1, 0] rfl (t_L_lots_19 hC hr hk6 N x4 x5 1000 0 M h)
theorem t_L_lots_6 {N : Nat} {v9 : Int32} {M9 : gq_M} (hC : gq_C p s m args meth c D A cI cZ ad mtL RL cL_lots 10) (hr : meth.sig.returnType = none)  : ∀ (n9 : Nat) (x4 : Int32) (x5 : Int32) (x6 : Int32) (M : gq_M), f_L_lots_6 N  n9 x4 x5 x6 M = some (v9, M9) → gq_W p l e (gq_rm 2) s m args below meth c D A cI cZ ad mtL 10 (MQ below (gq_Qv D cI cZ ad mtL M9 A) args s 0 0 A) 6 [(0, .ref (ad 109)), (1, .ref (ad 111)), (2, .ref (ad 114)), (3, .ref (ad 119)), (4, .int x4), (5, .int x5), (6, .int x6)] [] M 0 0 := by
  intro n9
  induction n9 with
  | zero => intro x4 x5 x6 M h; cases h
  | succ n9 ih => intro x4 x5 x6 M h; exact t_L_lots_6_b hC hr  ih x4 x5 x6 M h
def f_L_lots (N : Nat) (a4 : Int32) (M : gq_M) : Option (Int32 × gq_M) :=
  f_L_lots_6 N  N a4 (-1) 1 M
set_option maxHeartbeats 1000000 in
set_option maxRecDepth 20000 in
theorem t_L_lots {l : Launch} {D : va_G} {cI cZ : ClassId} {ad : Nat → Nat} (N : Nat) (a4 : Int32) (M : gq_M) (v9 : Int32) (M9 : gq_M) (h : f_L_lots N a4 M = some (v9, M9)) : gq_Cv l D cI cZ ad mtL yL_lots cL_lots 10 2 [.ref (ad 109), .ref (ad 111), .ref (ad 114), .ref (ad 119), .int a4] M M9 := by
  refine gq_introV (own := RL) (by decide) rfl (Nat.le_of_ble_eq_true rfl) ?_
  intro p e s m below meth c hC hr
  refine g_cast (L2 := [(0, .ref (ad 109)), (1, .ref (ad 111)), (2, .ref (ad 114)), (3, .ref (ad 119)), (4, .int a4)]) ?_ rfl rfl rfl rfl
  unfold f_L_lots at h
  refine g_iconst (v := (-1)) hC (by decide) dL_lots_0 ?_
  refine g_istore (L2 := [(5, .int (-1)), (0, .ref (ad 109)), (1, .ref (ad 111)), (2, .ref (ad 114)), (3, .ref (ad 119)), (4, .int a4)]) hC (by decide) rfl dL_lots_1 ?_
  refine g_iconst (v := 1) hC (by decide) dL_lots_3 ?_
  refine g_istore (L2 := [(6, .int 1), (5, .int (-1)), (0, .ref (ad 109)), (1, .ref (ad 111)), (2, .ref (ad 114)), (3, .ref (ad 119)), (4, .int a4)]) hC (by decide) rfl dL_lots_4 ?_
  exact g_weak [2, 3, 4, 5, 6, 1, 0] rfl (t_L_lots_6 hC hr  N a4 (-1) 1 M h)
def f_L_opens_237_b (N : Nat) (kh237 : Int32 → gq_M → Option (Int32 × gq_M)) (x7 : Int32) (M : gq_M) : Option (Int32 × gq_M) :=
  if 3 ≤ x7 then (gq_g (gq_in 5 56) (gq_l (M 119 (5 : Int32).toNatClampNeg) fun v42 => some (v42, M))) else (gq_b (f_L_comes N x7 M) fun v43 M45 => kh237 (x7 + 1) M45)
def f_L_opens_237 (N : Nat) : Nat → Int32 → gq_M → Option (Int32 × gq_M)
  | 0 => fun _ _ => none
  | n9 + 1 => f_L_opens_237_b N  (f_L_opens_237 N  n9)
set_option maxHeartbeats 1000000 in
set_option maxRecDepth 20000 in
theorem t_L_opens_237_b {N : Nat} {kh237 : Int32 → gq_M → Option (Int32 × gq_M)} {v9 : Int32} {M9 : gq_M} (hC : gq_C p s m args meth c D A cI cZ ad mtL RL cL_opens 12) (hr : meth.sig.returnType = (some .int))  (hk237 : ∀ (x7 : Int32) (M : gq_M), kh237 x7 M = some (v9, M9) → gq_W p l e (gq_rm 3) s m args below meth c D A cI cZ ad mtL 12 (MQ below (gq_Qi D cI cZ ad mtL v9 M9 A) args s 0 0 A) 237 [(2, .ref (ad 114)), (3, .ref (ad 115)), (4, .ref (ad 116)), (5, .ref (ad 119)), (7, .int x7)] [] M 0 0) : ∀ (x7 : Int32) (M : gq_M), f_L_opens_237_b N  kh237 x7 M = some (v9, M9) → gq_W p l e (gq_rm 3) s m args below meth c D A cI cZ ad mtL 12 (MQ below (gq_Qi D cI cZ ad mtL v9 M9 A) args s 0 0 A) 237 [(2, .ref (ad 114)), (3, .ref (ad 115)), (4, .ref (ad 116)), (5, .ref (ad 119)), (7, .int x7)] [] M 0 0 := by
  intro x7 M h
  unfold f_L_opens_237_b at h
  refine g_iload hC 4 rfl dL_opens_237 ?_
  refine g_iconst (v := 3) hC (by decide) dL_opens_239 ?_
  refine g_icmp_ge (tgt := 260) hC (by decide) dL_opens_240 (fun c40 => ?_) (fun c40 => ?_)
  · replace h := gq_t c40 h
    refine g_aload hC 3 rfl dL_opens_260 ?_
    refine g_iconst (v := 5) hC (by decide) dL_opens_262 ?_
    obtain ⟨g41, h⟩ := gq_g_i h
    refine g_iald hC arL_119 (gq_in_i g41) dL_opens_263 ?_
    refine g_topi (fun v42 hv42 => ?_)
    replace h := gq_l_i hv42 h
    exact g_irets hC hr h dL_opens_264
  · replace h := gq_f c40 h
    refine g_aload_n hC 0 rfl rfl dL_opens_243 ?_
    refine g_aload_n hC 1 rfl rfl dL_opens_244 ?_
    refine g_aload hC 2 rfl dL_opens_245 ?_
    refine g_aload hC 3 rfl dL_opens_247 ?_
    refine g_iload hC 4 rfl dL_opens_249 ?_
    obtain ⟨v43, M45, c44, h⟩ := gq_b_i h
    refine g_Sv (as := [.ref (ad 114), .ref (ad 115), .ref (ad 116), .ref (ad 119), .int x7]) hC (t_L_comes N _ _ _ _ c44) mS_L_comes wm_L_111 rfl rfl (Nat.le_of_ble_eq_true rfl) ⟨Nat.le_of_ble_eq_true rfl, Nat.le_of_ble_eq_true rfl⟩ ⟨Nat.zero_le _, Nat.zero_le _⟩ dL_opens_251 ?_
    refine g_iinc (v := (x7 + 1)) (L2 := [(7, .int (x7 + 1)), (2, .ref (ad 114)), (3, .ref (ad 115)), (4, .ref (ad 116)), (5, .ref (ad 119))]) hC 4 rfl (by first | rfl | decide) (by decide) rfl dL_opens_254 ?_
    refine g_goto (tgt := 237) hC (by decide) dL_opens_257 ?_
    exact g_weak [1, 2, 3, 4, 0] rfl (hk237 (x7 + 1) M45 h)
theorem t_L_opens_237 {N : Nat} {v9 : Int32} {M9 : gq_M} (hC : gq_C p s m args meth c D A cI cZ ad mtL RL cL_opens 12) (hr : meth.sig.returnType = (some .int))  : ∀ (n9 : Nat) (x7 : Int32) (M : gq_M), f_L_opens_237 N  n9 x7 M = some (v9, M9) → gq_W p l e (gq_rm 3) s m args below meth c D A cI cZ ad mtL 12 (MQ below (gq_Qi D cI cZ ad mtL v9 M9 A) args s 0 0 A) 237 [(2, .ref (ad 114)), (3, .ref (ad 115)), (4, .ref (ad 116)), (5, .ref (ad 119)), (7, .int x7)] [] M 0 0 := by
  intro n9
  induction n9 with
  | zero => intro x7 M h; cases h
  | succ n9 ih => intro x7 M h; exact t_L_opens_237_b hC hr  ih x7 M h
def f_L_opens_188 (N : Nat) (kh36 : Int32 → gq_M → Option (Int32 × gq_M)) (kh107 : Int32 → Int32 → gq_M → Option (Int32 × gq_M)) (kh173 : Int32 → Int32 → Int32 → Int32 → gq_M → Option (Int32 × gq_M)) (x7 : Int32) (x8 : Int32) (x10 : Int32) (x11 : Int32) (M : gq_M) : Option (Int32 × gq_M) :=
  kh173 x7 x8 (x10 - ((x8 >>> (x11 &&& 31)) &&& 1)) (x11 + 1) M
set_option maxHeartbeats 1000000 in
set_option maxRecDepth 20000 in
theorem t_L_opens_188 {N : Nat} {kh36 : Int32 → gq_M → Option (Int32 × gq_M)} {kh107 : Int32 → Int32 → gq_M → Option (Int32 × gq_M)} {kh173 : Int32 → Int32 → Int32 → Int32 → gq_M → Option (Int32 × gq_M)} {v9 : Int32} {M9 : gq_M} (hC : gq_C p s m args meth c D A cI cZ ad mtL RL cL_opens 12) (hr : meth.sig.returnType = (some .int)) (hk36 : ∀ (x7 : Int32) (M : gq_M), kh36 x7 M = some (v9, M9) → gq_W p l e (gq_rm 3) s m args below meth c D A cI cZ ad mtL 12 (MQ below (gq_Qi D cI cZ ad mtL v9 M9 A) args s 0 0 A) 36 [(0, .ref (ad 109)), (1, .ref (ad 111)), (2, .ref (ad 114)), (3, .ref (ad 115)), (4, .ref (ad 116)), (5, .ref (ad 119)), (6, .ref (ad 121)), (7, .int x7)] [] M 0 0) (hk107 : ∀ (x7 : Int32) (x8 : Int32) (M : gq_M), kh107 x7 x8 M = some (v9, M9) → gq_W p l e (gq_rm 3) s m args below meth c D A cI cZ ad mtL 12 (MQ below (gq_Qi D cI cZ ad mtL v9 M9 A) args s 0 0 A) 107 [(0, .ref (ad 109)), (1, .ref (ad 111)), (2, .ref (ad 114)), (3, .ref (ad 115)), (4, .ref (ad 116)), (5, .ref (ad 119)), (6, .ref (ad 121)), (7, .int x7), (8, .int x8)] [] M 0 0) (hk173 : ∀ (x7 : Int32) (x8 : Int32) (x10 : Int32) (x11 : Int32) (M : gq_M), kh173 x7 x8 x10 x11 M = some (v9, M9) → gq_W p l e (gq_rm 3) s m args below meth c D A cI cZ ad mtL 12 (MQ below (gq_Qi D cI cZ ad mtL v9 M9 A) args s 0 0 A) 173 [(0, .ref (ad 109)), (1, .ref (ad 111)), (2, .ref (ad 114)), (3, .ref (ad 115)), (4, .ref (ad 116)), (5, .ref (ad 119)), (6, .ref (ad 121)), (7, .int x7), (8, .int x8), (10, .int x10), (11, .int x11)] [] M 0 0)  : ∀ (x7 : Int32) (x8 : Int32) (x10 : Int32) (x11 : Int32) (M : gq_M), f_L_opens_188 N kh36 kh107 kh173 x7 x8 x10 x11 M = some (v9, M9) → gq_W p l e (gq_rm 3) s m args below meth c D A cI cZ ad mtL 12 (MQ below (gq_Qi D cI cZ ad mtL v9 M9 A) args s 0 0 A) 188 [(0, .ref (ad 109)), (1, .ref (ad 111)), (2, .ref (ad 114)), (3, .ref (ad 115)), (4, .ref (ad 116)), (5, .ref (ad 119)), (6, .ref (ad 121)), (7, .int x7), (8, .int x8), (10, .int x10), (11, .int x11)] [] M 0 0 := by
  intro x7 x8 x10 x11 M h
  unfold f_L_opens_188 at h
  refine g_iload hC 9 rfl dL_opens_188 ?_
  refine g_iload hC 8 rfl dL_opens_190 ?_
  refine g_iload hC 10 rfl dL_opens_192 ?_
  refine g_ishr hC dL_opens_194 ?_
  refine g_iconst (v := 1) hC (by decide) dL_opens_195 ?_
  refine g_iand hC dL_opens_196 ?_
  refine g_isub hC dL_opens_197 ?_
  refine g_istore (L2 := [(10, .int (x10 - ((x8 >>> (x11 &&& 31)) &&& 1))), (0, .ref (ad 109)), (1, .ref (ad 111)), (2, .ref (ad 114)), (3, .ref (ad 115)), (4, .ref (ad 116)), (5, .ref (ad 119)), (6, .ref (ad 121)), (7, .int x7), (8, .int x8), (11, .int x11)]) hC (by decide) rfl dL_opens_198 ?_
  refine g_iinc (v := (x11 + 1)) (L2 := [(11, .int (x11 + 1)), (10, .int (x10 - ((x8 >>> (x11 &&& 31)) &&& 1))), (0, .ref (ad 109)), (1, .ref (ad 111)), (2, .ref (ad 114)), (3, .ref (ad 115)), (4, .ref (ad 116)), (5, .ref (ad 119)), (6, .ref (ad 121)), (7, .int x7), (8, .int x8)]) hC 10 rfl (by first | rfl | decide) (by decide) rfl dL_opens_200 ?_
  refine g_goto (tgt := 173) hC (by decide) dL_opens_203 ?_
  exact g_weak [2, 3, 4, 5, 6, 7, 8, 9, 10, 1, 0] rfl (hk173 x7 x8 (x10 - ((x8 >>> (x11 &&& 31)) &&& 1)) (x11 + 1) M h)
def f_L_opens_173_b (N : Nat) (kh36 : Int32 → gq_M → Option (Int32 × gq_M)) (kh107 : Int32 → Int32 → gq_M → Option (Int32 × gq_M)) (kh173 : Int32 → Int32 → Int32 → Int32 → gq_M → Option (Int32 × gq_M)) (x7 : Int32) (x8 : Int32) (x10 : Int32) (x11 : Int32) (M : gq_M) : Option (Int32 × gq_M) :=
  if ((x8 >>> (x11 &&& 31)) &&& 1) = 0 then (f_L_opens_188 N kh36 kh107 kh173 x7 x8 x10 x11 M) else (if x10 ≤ 0 then (gq_b (f_L_lots N x11 M) fun v37 M39 => kh107 x7 (x8 - (1 <<< (x11 &&& 31))) M39) else (f_L_opens_188 N kh36 kh107 kh173 x7 x8 x10 x11 M))
def f_L_opens_173 (N : Nat) (kh36 : Int32 → gq_M → Option (Int32 × gq_M)) (kh107 : Int32 → Int32 → gq_M → Option (Int32 × gq_M)) : Nat → Int32 → Int32 → Int32 → Int32 → gq_M → Option (Int32 × gq_M)
  | 0 => fun _ _ _ _ _ => none
  | n9 + 1 => f_L_opens_173_b N kh36 kh107 (f_L_opens_173 N kh36 kh107 n9)
set_option maxHeartbeats 1000000 in
set_option maxRecDepth 20000 in
theorem t_L_opens_173_b {N : Nat} {kh36 : Int32 → gq_M → Option (Int32 × gq_M)} {kh107 : Int32 → Int32 → gq_M → Option (Int32 × gq_M)} {kh173 : Int32 → Int32 → Int32 → Int32 → gq_M → Option (Int32 × gq_M)} {v9 : Int32} {M9 : gq_M} (hC : gq_C p s m args meth c D A cI cZ ad mtL RL cL_opens 12) (hr : meth.sig.returnType = (some .int)) (hk36 : ∀ (x7 : Int32) (M : gq_M), kh36 x7 M = some (v9, M9) → gq_W p l e (gq_rm 3) s m args below meth c D A cI cZ ad mtL 12 (MQ below (gq_Qi D cI cZ ad mtL v9 M9 A) args s 0 0 A) 36 [(0, .ref (ad 109)), (1, .ref (ad 111)), (2, .ref (ad 114)), (3, .ref (ad 115)), (4, .ref (ad 116)), (5, .ref (ad 119)), (6, .ref (ad 121)), (7, .int x7)] [] M 0 0) (hk107 : ∀ (x7 : Int32) (x8 : Int32) (M : gq_M), kh107 x7 x8 M = some (v9, M9) → gq_W p l e (gq_rm 3) s m args below meth c D A cI cZ ad mtL 12 (MQ below (gq_Qi D cI cZ ad mtL v9 M9 A) args s 0 0 A) 107 [(0, .ref (ad 109)), (1, .ref (ad 111)), (2, .ref (ad 114)), (3, .ref (ad 115)), (4, .ref (ad 116)), (5, .ref (ad 119)), (6, .ref (ad 121)), (7, .int x7), (8, .int x8)] [] M 0 0) (hk173 : ∀ (x7 : Int32) (x8 : Int32) (x10 : Int32) (x11 : Int32) (M : gq_M), kh173 x7 x8 x10 x11 M = some (v9, M9) → gq_W p l e (gq_rm 3) s m args below meth c D A cI cZ ad mtL 12 (MQ below (gq_Qi D cI cZ ad mtL v9 M9 A) args s 0 0 A) 173 [(0, .ref (ad 109)), (1, .ref (ad 111)), (2, .ref (ad 114)), (3, .ref (ad 115)), (4, .ref (ad 116)), (5, .ref (ad 119)), (6, .ref (ad 121)), (7, .int x7), (8, .int x8), (10, .int x10), (11, .int x11)] [] M 0 0) : ∀ (x7 : Int32) (x8 : Int32) (x10 : Int32) (x11 : Int32) (M : gq_M), f_L_opens_173_b N kh36 kh107 kh173 x7 x8 x10 x11 M = some (v9, M9) → gq_W p l e (gq_rm 3) s m args below meth c D A cI cZ ad mtL 12 (MQ below (gq_Qi D cI cZ ad mtL v9 M9 A) args s 0 0 A) 173 [(0, .ref (ad 109)), (1, .ref (ad 111)), (2, .ref (ad 114)), (3, .ref (ad 115)), (4, .ref (ad 116)), (5, .ref (ad 119)), (6, .ref (ad 121)), (7, .int x7), (8, .int x8), (10, .int x10), (11, .int x11)] [] M 0 0 := by
  intro x7 x8 x10 x11 M h
  unfold f_L_opens_173_b at h
  refine g_iload hC 8 rfl dL_opens_173 ?_
  refine g_iload hC 10 rfl dL_opens_175 ?_
  refine g_ishr hC dL_opens_177 ?_
  refine g_iconst (v := 1) hC (by decide) dL_opens_178 ?_
  refine g_iand hC dL_opens_179 ?_
  refine g_if_eq (tgt := 188) hC (by decide) dL_opens_180 (fun c35 => ?_) (fun c35 => ?_)
  · replace h := gq_t c35 h
    exact g_weak [0, 1, 2, 3, 4, 5, 6, 7, 8, 9, 10] rfl (t_L_opens_188 hC hr hk36 hk107 hk173 x7 x8 x10 x11 M h)
  · replace h := gq_f c35 h
    refine g_iload hC 9 rfl dL_opens_183 ?_
    refine g_if_le (tgt := 206) hC (by decide) dL_opens_185 (fun c36 => ?_) (fun c36 => ?_)
    · replace h := gq_t c36 h
      refine g_iload hC 8 rfl dL_opens_206 ?_
      refine g_iconst (v := 1) hC (by decide) dL_opens_208 ?_
      refine g_iload hC 10 rfl dL_opens_209 ?_
      refine g_ishl hC dL_opens_211 ?_
      refine g_isub hC dL_opens_212 ?_
      refine g_istore (L2 := [(8, .int (x8 - (1 <<< (x11 &&& 31)))), (0, .ref (ad 109)), (1, .ref (ad 111)), (2, .ref (ad 114)), (3, .ref (ad 115)), (4, .ref (ad 116)), (5, .ref (ad 119)), (6, .ref (ad 121)), (7, .int x7), (10, .int x10), (11, .int x11)]) hC (by decide) rfl dL_opens_213 ?_
      refine g_aload_n hC 1 rfl rfl dL_opens_215 ?_
      refine g_aload_n hC 2 rfl rfl dL_opens_216 ?_
      refine g_aload_n hC 3 rfl rfl dL_opens_217 ?_
      refine g_aload hC 6 rfl dL_opens_218 ?_
      refine g_iload hC 10 rfl dL_opens_220 ?_
      obtain ⟨v37, M39, c38, h⟩ := gq_b_i h
      refine g_Sv (as := [.ref (ad 109), .ref (ad 111), .ref (ad 114), .ref (ad 119), .int x11]) hC (t_L_lots N _ _ _ _ c38) mS_L_lots wm_L_153 rfl rfl (Nat.le_of_ble_eq_true rfl) ⟨Nat.le_of_ble_eq_true rfl, Nat.le_of_ble_eq_true rfl⟩ ⟨Nat.zero_le _, Nat.zero_le _⟩ dL_opens_222 ?_
      refine g_goto (tgt := 107) hC (by decide) dL_opens_225 ?_
      exact g_weak [1, 2, 3, 4, 5, 6, 7, 8, 0] rfl (hk107 x7 (x8 - (1 <<< (x11 &&& 31))) M39 h)
    · replace h := gq_f c36 h
      exact g_weak [0, 1, 2, 3, 4, 5, 6, 7, 8, 9, 10] rfl (t_L_opens_188 hC hr hk36 hk107 hk173 x7 x8 x10 x11 M h)
theorem t_L_opens_173 {N : Nat} {kh36 : Int32 → gq_M → Option (Int32 × gq_M)} {kh107 : Int32 → Int32 → gq_M → Option (Int32 × gq_M)} {v9 : Int32} {M9 : gq_M} (hC : gq_C p s m args meth c D A cI cZ ad mtL RL cL_opens 12) (hr : meth.sig.returnType = (some .int)) (hk36 : ∀ (x7 : Int32) (M : gq_M), kh36 x7 M = some (v9, M9) → gq_W p l e (gq_rm 3) s m args below meth c D A cI cZ ad mtL 12 (MQ below (gq_Qi D cI cZ ad mtL v9 M9 A) args s 0 0 A) 36 [(0, .ref (ad 109)), (1, .ref (ad 111)), (2, .ref (ad 114)), (3, .ref (ad 115)), (4, .ref (ad 116)), (5, .ref (ad 119)), (6, .ref (ad 121)), (7, .int x7)] [] M 0 0) (hk107 : ∀ (x7 : Int32) (x8 : Int32) (M : gq_M), kh107 x7 x8 M = some (v9, M9) → gq_W p l e (gq_rm 3) s m args below meth c D A cI cZ ad mtL 12 (MQ below (gq_Qi D cI cZ ad mtL v9 M9 A) args s 0 0 A) 107 [(0, .ref (ad 109)), (1, .ref (ad 111)), (2, .ref (ad 114)), (3, .ref (ad 115)), (4, .ref (ad 116)), (5, .ref (ad 119)), (6, .ref (ad 121)), (7, .int x7), (8, .int x8)] [] M 0 0) : ∀ (n9 : Nat) (x7 : Int32) (x8 : Int32) (x10 : Int32) (x11 : Int32) (M : gq_M), f_L_opens_173 N kh36 kh107 n9 x7 x8 x10 x11 M = some (v9, M9) → gq_W p l e (gq_rm 3) s m args below meth c D A cI cZ ad mtL 12 (MQ below (gq_Qi D cI cZ ad mtL v9 M9 A) args s 0 0 A) 173 [(0, .ref (ad 109)), (1, .ref (ad 111)), (2, .ref (ad 114)), (3, .ref (ad 115)), (4, .ref (ad 116)), (5, .ref (ad 119)), (6, .ref (ad 121)), (7, .int x7), (8, .int x8), (10, .int x10), (11, .int x11)] [] M 0 0 := by
  intro n9
  induction n9 with
  | zero => intro x7 x8 x10 x11 M h; cases h
  | succ n9 ih => intro x7 x8 x10 x11 M h; exact t_L_opens_173_b hC hr hk36 hk107 ih x7 x8 x10 x11 M h
def f_L_opens_118_b (N : Nat) (kh36 : Int32 → gq_M → Option (Int32 × gq_M)) (kh107 : Int32 → Int32 → gq_M → Option (Int32 × gq_M)) (kh118 : Int32 → Int32 → Int32 → Int32 → gq_M → Option (Int32 × gq_M)) (x7 : Int32) (x8 : Int32) (x9 : Int32) (x10 : Int32) (M : gq_M) : Option (Int32 × gq_M) :=
  if 8 ≤ x10 then (gq_g (gq_in 3 56) (gq_l (M 119 (3 : Int32).toNatClampNeg) fun v28 => gq_g (gq_in 3 56) (gq_l (gq_up M 119 (3 : Int32).toNatClampNeg ((v28 * 1103515245) + 12345)) fun M30 => gq_g (gq_in 3 56) (gq_l (M30 119 (3 : Int32).toNatClampNeg) fun v32 => gq_l (((v32 : Int32).toUInt32 >>> ((16 : Int32).toUInt32 &&& Int32.toUInt32 31)).toInt32) fun v33 => gq_g (gq_nz x9) (f_L_opens_173 N kh36 kh107 N x7 x8 (v33 - v33 / x9 * x9) 0 M30))))) else (kh118 x7 x8 (x9 + ((x8 >>> (x10 &&& 31)) &&& 1)) (x10 + 1) M)
def f_L_opens_118 (N : Nat) (kh36 : Int32 → gq_M → Option (Int32 × gq_M)) (kh107 : Int32 → Int32 → gq_M → Option (Int32 × gq_M)) : Nat → Int32 → Int32 → Int32 → Int32 → gq_M → Option (Int32 × gq_M)
  | 0 => fun _ _ _ _ _ => none
  | n9 + 1 => f_L_opens_118_b N kh36 kh107 (f_L_opens_118 N kh36 kh107 n9)
set_option maxHeartbeats 1000000 in
set_option maxRecDepth 20000 in
theorem t_L_opens_118_b {N : Nat} {kh36 : Int32 → gq_M → Option (Int32 × gq_M)} {kh107 : Int32 → Int32 → gq_M → Option (Int32 × gq_M)} {kh118 : Int32 → Int32 → Int32 → Int32 → gq_M → Option (Int32 × gq_M)} {v9 : Int32} {M9 : gq_M} (hC : gq_C p s m args meth c D A cI cZ ad mtL RL cL_opens 12) (hr : meth.sig.returnType = (some .int)) (hk36 : ∀ (x7 : Int32) (M : gq_M), kh36 x7 M = some (v9, M9) → gq_W p l e (gq_rm 3) s m args below meth c D A cI cZ ad mtL 12 (MQ below (gq_Qi D cI cZ ad mtL v9 M9 A) args s 0 0 A) 36 [(0, .ref (ad 109)), (1, .ref (ad 111)), (2, .ref (ad 114)), (3, .ref (ad 115)), (4, .ref (ad 116)), (5, .ref (ad 119)), (6, .ref (ad 121)), (7, .int x7)] [] M 0 0) (hk107 : ∀ (x7 : Int32) (x8 : Int32) (M : gq_M), kh107 x7 x8 M = some (v9, M9) → gq_W p l e (gq_rm 3) s m args below meth c D A cI cZ ad mtL 12 (MQ below (gq_Qi D cI cZ ad mtL v9 M9 A) args s 0 0 A) 107 [(0, .ref (ad 109)), (1, .ref (ad 111)), (2, .ref (ad 114)), (3, .ref (ad 115)), (4, .ref (ad 116)), (5, .ref (ad 119)), (6, .ref (ad 121)), (7, .int x7), (8, .int x8)] [] M 0 0) (hk118 : ∀ (x7 : Int32) (x8 : Int32) (x9 : Int32) (x10 : Int32) (M : gq_M), kh118 x7 x8 x9 x10 M = some (v9, M9) → gq_W p l e (gq_rm 3) s m args below meth c D A cI cZ ad mtL 12 (MQ below (gq_Qi D cI cZ ad mtL v9 M9 A) args s 0 0 A) 118 [(0, .ref (ad 109)), (1, .ref (ad 111)), (2, .ref (ad 114)), (3, .ref (ad 115)), (4, .ref (ad 116)), (5, .ref (ad 119)), (6, .ref (ad 121)), (7, .int x7), (8, .int x8), (9, .int x9), (10, .int x10)] [] M 0 0) : ∀ (x7 : Int32) (x8 : Int32) (x9 : Int32) (x10 : Int32) (M : gq_M), f_L_opens_118_b N kh36 kh107 kh118 x7 x8 x9 x10 M = some (v9, M9) → gq_W p l e (gq_rm 3) s m args below meth c D A cI cZ ad mtL 12 (MQ below (gq_Qi D cI cZ ad mtL v9 M9 A) args s 0 0 A) 118 [(0, .ref (ad 109)), (1, .ref (ad 111)), (2, .ref (ad 114)), (3, .ref (ad 115)), (4, .ref (ad 116)), (5, .ref (ad 119)), (6, .ref (ad 121)), (7, .int x7), (8, .int x8), (9, .int x9), (10, .int x10)] [] M 0 0 := by
  intro x7 x8 x9 x10 M h
  unfold f_L_opens_118_b at h
  refine g_iload hC 10 rfl dL_opens_118 ?_
  refine g_bipush (v := 8) hC (by decide) dL_opens_120 ?_
  refine g_icmp_ge (tgt := 143) hC (by decide) dL_opens_122 (fun c26 => ?_) (fun c26 => ?_)
  · replace h := gq_t c26 h
    refine g_aload hC 5 rfl dL_opens_143 ?_
    refine g_iconst (v := 3) hC (by decide) dL_opens_145 ?_
    refine g_aload hC 5 rfl dL_opens_146 ?_
    refine g_iconst (v := 3) hC (by decide) dL_opens_148 ?_
    obtain ⟨g27, h⟩ := gq_g_i h
    refine g_iald hC arL_119 (gq_in_i g27) dL_opens_149 ?_
    refine g_topi (fun v28 hv28 => ?_)
    replace h := gq_l_i hv28 h
    refine g_ldc (v := 1103515245) hC wk_L_152 dL_opens_150 ?_
    refine g_imul hC dL_opens_152 ?_
    refine g_sipush (v := 12345) hC (by decide) dL_opens_153 ?_
    refine g_iadd hC dL_opens_156 ?_
    obtain ⟨g29, h⟩ := gq_g_i h
    refine g_iast hC arL_119 (gq_in_i g29) dL_opens_157 ?_
    refine g_topM (fun M30 hM30 => ?_)
    replace h := gq_l_i hM30 h
    refine g_aload hC 5 rfl dL_opens_158 ?_
    refine g_iconst (v := 3) hC (by decide) dL_opens_160 ?_
    obtain ⟨g31, h⟩ := gq_g_i h
    refine g_iald hC arL_119 (gq_in_i g31) dL_opens_161 ?_
    refine g_topi (fun v32 hv32 => ?_)
    replace h := gq_l_i hv32 h
    refine g_bipush (v := 16) hC (by decide) dL_opens_162 ?_
    refine g_iushr hC dL_opens_164 ?_
    refine g_topi (fun v33 hv33 => ?_)
    replace h := gq_l_i hv33 h
    refine g_iload hC 9 rfl dL_opens_165 ?_
    obtain ⟨g34, h⟩ := gq_g_i h
    refine g_irem hC (gq_nz_i g34) dL_opens_167 ?_
    refine g_istore (L2 := [(10, .int (v33 - v33 / x9 * x9)), (0, .ref (ad 109)), (1, .ref (ad 111)), (2, .ref (ad 114)), (3, .ref (ad 115)), (4, .ref (ad 116)), (5, .ref (ad 119)), (6, .ref (ad 121)), (7, .int x7), (8, .int x8), (9, .int x9)]) hC (by decide) rfl dL_opens_168 ?_
    refine g_iconst (v := 0) hC (by decide) dL_opens_170 ?_
    refine g_istore (L2 := [(11, .int 0), (10, .int (v33 - v33 / x9 * x9)), (0, .ref (ad 109)), (1, .ref (ad 111)), (2, .ref (ad 114)), (3, .ref (ad 115)), (4, .ref (ad 116)), (5, .ref (ad 119)), (6, .ref (ad 121)), (7, .int x7), (8, .int x8), (9, .int x9)]) hC (by decide) rfl dL_opens_171 ?_
    exact g_weak [2, 3, 4, 5, 6, 7, 8, 9, 10, 1, 0] rfl (t_L_opens_173 hC hr hk36 hk107 N x7 x8 (v33 - v33 / x9 * x9) 0 M30 h)
  · replace h := gq_f c26 h
    refine g_iload hC 9 rfl dL_opens_125 ?_
    refine g_iload hC 8 rfl dL_opens_127 ?_
    refine g_iload hC 10 rfl dL_opens_129 ?_
    refine g_ishr hC dL_opens_131 ?_
    refine g_iconst (v := 1) hC (by decide) dL_opens_132 ?_
    refine g_iand hC dL_opens_133 ?_
    refine g_iadd hC dL_opens_134 ?_
    refine g_istore (L2 := [(9, .int (x9 + ((x8 >>> (x10 &&& 31)) &&& 1))), (0, .ref (ad 109)), (1, .ref (ad 111)), (2, .ref (ad 114)), (3, .ref (ad 115)), (4, .ref (ad 116)), (5, .ref (ad 119)), (6, .ref (ad 121)), (7, .int x7), (8, .int x8), (10, .int x10)]) hC (by decide) rfl dL_opens_135 ?_
    refine g_iinc (v := (x10 + 1)) (L2 := [(10, .int (x10 + 1)), (9, .int (x9 + ((x8 >>> (x10 &&& 31)) &&& 1))), (0, .ref (ad 109)), (1, .ref (ad 111)), (2, .ref (ad 114)), (3, .ref (ad 115)), (4, .ref (ad 116)), (5, .ref (ad 119)), (6, .ref (ad 121)), (7, .int x7), (8, .int x8)]) hC 10 rfl (by first | rfl | decide) (by decide) rfl dL_opens_137 ?_
    refine g_goto (tgt := 118) hC (by decide) dL_opens_140 ?_
    exact g_weak [2, 3, 4, 5, 6, 7, 8, 9, 10, 1, 0] rfl (hk118 x7 x8 (x9 + ((x8 >>> (x10 &&& 31)) &&& 1)) (x10 + 1) M h)
theorem t_L_opens_118 {N : Nat} {kh36 : Int32 → gq_M → Option (Int32 × gq_M)} {kh107 : Int32 → Int32 → gq_M → Option (Int32 × gq_M)} {v9 : Int32} {M9 : gq_M} (hC : gq_C p s m args meth c D A cI cZ ad mtL RL cL_opens 12) (hr : meth.sig.returnType = (some .int)) (hk36 : ∀ (x7 : Int32) (M : gq_M), kh36 x7 M = some (v9, M9) → gq_W p l e (gq_rm 3) s m args below meth c D A cI cZ ad mtL 12 (MQ below (gq_Qi D cI cZ ad mtL v9 M9 A) args s 0 0 A) 36 [(0, .ref (ad 109)), (1, .ref (ad 111)), (2, .ref (ad 114)), (3, .ref (ad 115)), (4, .ref (ad 116)), (5, .ref (ad 119)), (6, .ref (ad 121)), (7, .int x7)] [] M 0 0) (hk107 : ∀ (x7 : Int32) (x8 : Int32) (M : gq_M), kh107 x7 x8 M = some (v9, M9) → gq_W p l e (gq_rm 3) s m args below meth c D A cI cZ ad mtL 12 (MQ below (gq_Qi D cI cZ ad mtL v9 M9 A) args s 0 0 A) 107 [(0, .ref (ad 109)), (1, .ref (ad 111)), (2, .ref (ad 114)), (3, .ref (ad 115)), (4, .ref (ad 116)), (5, .ref (ad 119)), (6, .ref (ad 121)), (7, .int x7), (8, .int x8)] [] M 0 0) : ∀ (n9 : Nat) (x7 : Int32) (x8 : Int32) (x9 : Int32) (x10 : Int32) (M : gq_M), f_L_opens_118 N kh36 kh107 n9 x7 x8 x9 x10 M = some (v9, M9) → gq_W p l e (gq_rm 3) s m args below meth c D A cI cZ ad mtL 12 (MQ below (gq_Qi D cI cZ ad mtL v9 M9 A) args s 0 0 A) 118 [(0, .ref (ad 109)), (1, .ref (ad 111)), (2, .ref (ad 114)), (3, .ref (ad 115)), (4, .ref (ad 116)), (5, .ref (ad 119)), (6, .ref (ad 121)), (7, .int x7), (8, .int x8), (9, .int x9), (10, .int x10)] [] M 0 0 := by
  intro n9
  induction n9 with
  | zero => intro x7 x8 x9 x10 M h; cases h
  | succ n9 ih => intro x7 x8 x9 x10 M h; exact t_L_opens_118_b hC hr hk36 hk107 ih x7 x8 x9 x10 M h
def f_L_opens_107_b (N : Nat) (kh36 : Int32 → gq_M → Option (Int32 × gq_M)) (kh107 : Int32 → Int32 → gq_M → Option (Int32 × gq_M)) (x7 : Int32) (x8 : Int32) (M : gq_M) : Option (Int32 × gq_M) :=
  if x8 = 0 then (kh36 (x7 + (-1)) M) else (f_L_opens_118 N kh36 kh107 N x7 x8 0 0 M)
def f_L_opens_107 (N : Nat) (kh36 : Int32 → gq_M → Option (Int32 × gq_M)) : Nat → Int32 → Int32 → gq_M → Option (Int32 × gq_M)
  | 0 => fun _ _ _ => none
  | n9 + 1 => f_L_opens_107_b N kh36 (f_L_opens_107 N kh36 n9)
set_option maxHeartbeats 1000000 in
set_option maxRecDepth 20000 in
theorem t_L_opens_107_b {N : Nat} {kh36 : Int32 → gq_M → Option (Int32 × gq_M)} {kh107 : Int32 → Int32 → gq_M → Option (Int32 × gq_M)} {v9 : Int32} {M9 : gq_M} (hC : gq_C p s m args meth c D A cI cZ ad mtL RL cL_opens 12) (hr : meth.sig.returnType = (some .int)) (hk36 : ∀ (x7 : Int32) (M : gq_M), kh36 x7 M = some (v9, M9) → gq_W p l e (gq_rm 3) s m args below meth c D A cI cZ ad mtL 12 (MQ below (gq_Qi D cI cZ ad mtL v9 M9 A) args s 0 0 A) 36 [(0, .ref (ad 109)), (1, .ref (ad 111)), (2, .ref (ad 114)), (3, .ref (ad 115)), (4, .ref (ad 116)), (5, .ref (ad 119)), (6, .ref (ad 121)), (7, .int x7)] [] M 0 0) (hk107 : ∀ (x7 : Int32) (x8 : Int32) (M : gq_M), kh107 x7 x8 M = some (v9, M9) → gq_W p l e (gq_rm 3) s m args below meth c D A cI cZ ad mtL 12 (MQ below (gq_Qi D cI cZ ad mtL v9 M9 A) args s 0 0 A) 107 [(0, .ref (ad 109)), (1, .ref (ad 111)), (2, .ref (ad 114)), (3, .ref (ad 115)), (4, .ref (ad 116)), (5, .ref (ad 119)), (6, .ref (ad 121)), (7, .int x7), (8, .int x8)] [] M 0 0) : ∀ (x7 : Int32) (x8 : Int32) (M : gq_M), f_L_opens_107_b N kh36 kh107 x7 x8 M = some (v9, M9) → gq_W p l e (gq_rm 3) s m args below meth c D A cI cZ ad mtL 12 (MQ below (gq_Qi D cI cZ ad mtL v9 M9 A) args s 0 0 A) 107 [(0, .ref (ad 109)), (1, .ref (ad 111)), (2, .ref (ad 114)), (3, .ref (ad 115)), (4, .ref (ad 116)), (5, .ref (ad 119)), (6, .ref (ad 121)), (7, .int x7), (8, .int x8)] [] M 0 0 := by
  intro x7 x8 M h
  unfold f_L_opens_107_b at h
  refine g_iload hC 8 rfl dL_opens_107 ?_
  refine g_if_eq (tgt := 228) hC (by decide) dL_opens_109 (fun c25 => ?_) (fun c25 => ?_)
  · replace h := gq_t c25 h
    refine g_iinc (v := (x7 + (-1))) (L2 := [(7, .int (x7 + (-1))), (0, .ref (ad 109)), (1, .ref (ad 111)), (2, .ref (ad 114)), (3, .ref (ad 115)), (4, .ref (ad 116)), (5, .ref (ad 119)), (6, .ref (ad 121)), (8, .int x8)]) hC 7 rfl (by first | rfl | decide) (by decide) rfl dL_opens_228 ?_
    refine g_goto (tgt := 36) hC (by decide) dL_opens_231 ?_
    exact g_weak [1, 2, 3, 4, 5, 6, 7, 0] rfl (hk36 (x7 + (-1)) M h)
  · replace h := gq_f c25 h
    refine g_iconst (v := 0) hC (by decide) dL_opens_112 ?_
    refine g_istore (L2 := [(9, .int 0), (0, .ref (ad 109)), (1, .ref (ad 111)), (2, .ref (ad 114)), (3, .ref (ad 115)), (4, .ref (ad 116)), (5, .ref (ad 119)), (6, .ref (ad 121)), (7, .int x7), (8, .int x8)]) hC (by decide) rfl dL_opens_113 ?_
    refine g_iconst (v := 0) hC (by decide) dL_opens_115 ?_
    refine g_istore (L2 := [(10, .int 0), (9, .int 0), (0, .ref (ad 109)), (1, .ref (ad 111)), (2, .ref (ad 114)), (3, .ref (ad 115)), (4, .ref (ad 116)), (5, .ref (ad 119)), (6, .ref (ad 121)), (7, .int x7), (8, .int x8)]) hC (by decide) rfl dL_opens_116 ?_
    exact g_weak [2, 3, 4, 5, 6, 7, 8, 9, 10, 1, 0] rfl (t_L_opens_118 hC hr hk36 hk107 N x7 x8 0 0 M h)
theorem t_L_opens_107 {N : Nat} {kh36 : Int32 → gq_M → Option (Int32 × gq_M)} {v9 : Int32} {M9 : gq_M} (hC : gq_C p s m args meth c D A cI cZ ad mtL RL cL_opens 12) (hr : meth.sig.returnType = (some .int)) (hk36 : ∀ (x7 : Int32) (M : gq_M), kh36 x7 M = some (v9, M9) → gq_W p l e (gq_rm 3) s m args below meth c D A cI cZ ad mtL 12 (MQ below (gq_Qi D cI cZ ad mtL v9 M9 A) args s 0 0 A) 36 [(0, .ref (ad 109)), (1, .ref (ad 111)), (2, .ref (ad 114)), (3, .ref (ad 115)), (4, .ref (ad 116)), (5, .ref (ad 119)), (6, .ref (ad 121)), (7, .int x7)] [] M 0 0) : ∀ (n9 : Nat) (x7 : Int32) (x8 : Int32) (M : gq_M), f_L_opens_107 N kh36 n9 x7 x8 M = some (v9, M9) → gq_W p l e (gq_rm 3) s m args below meth c D A cI cZ ad mtL 12 (MQ below (gq_Qi D cI cZ ad mtL v9 M9 A) args s 0 0 A) 107 [(0, .ref (ad 109)), (1, .ref (ad 111)), (2, .ref (ad 114)), (3, .ref (ad 115)), (4, .ref (ad 116)), (5, .ref (ad 119)), (6, .ref (ad 121)), (7, .int x7), (8, .int x8)] [] M 0 0 := by
  intro n9
  induction n9 with
  | zero => intro x7 x8 M h; cases h
  | succ n9 ih => intro x7 x8 M h; exact t_L_opens_107_b hC hr hk36 ih x7 x8 M h
def f_L_opens_98 (N : Nat) (kh36 : Int32 → gq_M → Option (Int32 × gq_M)) (kh47 : Int32 → Int32 → Int32 → gq_M → Option (Int32 × gq_M)) (x7 : Int32) (x9 : Int32) (s0 : Int32) (s1 : Int32) (M : gq_M) : Option (Int32 × gq_M) :=
  kh47 x7 (s0 ||| s1) (x9 + 1) M
set_option maxHeartbeats 1000000 in
set_option maxRecDepth 20000 in
theorem t_L_opens_98 {N : Nat} {kh36 : Int32 → gq_M → Option (Int32 × gq_M)} {kh47 : Int32 → Int32 → Int32 → gq_M → Option (Int32 × gq_M)} {v9 : Int32} {M9 : gq_M} (hC : gq_C p s m args meth c D A cI cZ ad mtL RL cL_opens 12) (hr : meth.sig.returnType = (some .int)) (hk36 : ∀ (x7 : Int32) (M : gq_M), kh36 x7 M = some (v9, M9) → gq_W p l e (gq_rm 3) s m args below meth c D A cI cZ ad mtL 12 (MQ below (gq_Qi D cI cZ ad mtL v9 M9 A) args s 0 0 A) 36 [(0, .ref (ad 109)), (1, .ref (ad 111)), (2, .ref (ad 114)), (3, .ref (ad 115)), (4, .ref (ad 116)), (5, .ref (ad 119)), (6, .ref (ad 121)), (7, .int x7)] [] M 0 0) (hk47 : ∀ (x7 : Int32) (x8 : Int32) (x9 : Int32) (M : gq_M), kh47 x7 x8 x9 M = some (v9, M9) → gq_W p l e (gq_rm 3) s m args below meth c D A cI cZ ad mtL 12 (MQ below (gq_Qi D cI cZ ad mtL v9 M9 A) args s 0 0 A) 47 [(0, .ref (ad 109)), (1, .ref (ad 111)), (2, .ref (ad 114)), (3, .ref (ad 115)), (4, .ref (ad 116)), (5, .ref (ad 119)), (6, .ref (ad 121)), (7, .int x7), (8, .int x8), (9, .int x9)] [] M 0 0)  : ∀ (x7 : Int32) (x9 : Int32) (s0 : Int32) (s1 : Int32) (M : gq_M), f_L_opens_98 N kh36 kh47 x7 x9 s0 s1 M = some (v9, M9) → gq_W p l e (gq_rm 3) s m args below meth c D A cI cZ ad mtL 12 (MQ below (gq_Qi D cI cZ ad mtL v9 M9 A) args s 0 0 A) 98 [(0, .ref (ad 109)), (1, .ref (ad 111)), (2, .ref (ad 114)), (3, .ref (ad 115)), (4, .ref (ad 116)), (5, .ref (ad 119)), (6, .ref (ad 121)), (7, .int x7), (9, .int x9)] [.int s1, .int s0] M 0 0 := by
  intro x7 x9 s0 s1 M h
  unfold f_L_opens_98 at h
  refine g_ior hC dL_opens_98 ?_
  refine g_istore (L2 := [(8, .int (s0 ||| s1)), (0, .ref (ad 109)), (1, .ref (ad 111)), (2, .ref (ad 114)), (3, .ref (ad 115)), (4, .ref (ad 116)), (5, .ref (ad 119)), (6, .ref (ad 121)), (7, .int x7), (9, .int x9)]) hC (by decide) rfl dL_opens_99 ?_
  refine g_iinc (v := (x9 + 1)) (L2 := [(9, .int (x9 + 1)), (8, .int (s0 ||| s1)), (0, .ref (ad 109)), (1, .ref (ad 111)), (2, .ref (ad 114)), (3, .ref (ad 115)), (4, .ref (ad 116)), (5, .ref (ad 119)), (6, .ref (ad 121)), (7, .int x7)]) hC 9 rfl (by first | rfl | decide) (by decide) rfl dL_opens_101 ?_
  refine g_goto (tgt := 47) hC (by decide) dL_opens_104 ?_
  exact g_weak [2, 3, 4, 5, 6, 7, 8, 9, 1, 0] rfl (hk47 x7 (s0 ||| s1) (x9 + 1) M h)
def f_L_opens_97 (N : Nat) (kh36 : Int32 → gq_M → Option (Int32 × gq_M)) (kh47 : Int32 → Int32 → Int32 → gq_M → Option (Int32 × gq_M)) (x7 : Int32) (x9 : Int32) (s0 : Int32) (M : gq_M) : Option (Int32 × gq_M) :=
  f_L_opens_98 N kh36 kh47 x7 x9 s0 0 M
set_option maxHeartbeats 1000000 in
set_option maxRecDepth 20000 in
theorem t_L_opens_97 {N : Nat} {kh36 : Int32 → gq_M → Option (Int32 × gq_M)} {kh47 : Int32 → Int32 → Int32 → gq_M → Option (Int32 × gq_M)} {v9 : Int32} {M9 : gq_M} (hC : gq_C p s m args meth c D A cI cZ ad mtL RL cL_opens 12) (hr : meth.sig.returnType = (some .int)) (hk36 : ∀ (x7 : Int32) (M : gq_M), kh36 x7 M = some (v9, M9) → gq_W p l e (gq_rm 3) s m args below meth c D A cI cZ ad mtL 12 (MQ below (gq_Qi D cI cZ ad mtL v9 M9 A) args s 0 0 A) 36 [(0, .ref (ad 109)), (1, .ref (ad 111)), (2, .ref (ad 114)), (3, .ref (ad 115)), (4, .ref (ad 116)), (5, .ref (ad 119)), (6, .ref (ad 121)), (7, .int x7)] [] M 0 0) (hk47 : ∀ (x7 : Int32) (x8 : Int32) (x9 : Int32) (M : gq_M), kh47 x7 x8 x9 M = some (v9, M9) → gq_W p l e (gq_rm 3) s m args below meth c D A cI cZ ad mtL 12 (MQ below (gq_Qi D cI cZ ad mtL v9 M9 A) args s 0 0 A) 47 [(0, .ref (ad 109)), (1, .ref (ad 111)), (2, .ref (ad 114)), (3, .ref (ad 115)), (4, .ref (ad 116)), (5, .ref (ad 119)), (6, .ref (ad 121)), (7, .int x7), (8, .int x8), (9, .int x9)] [] M 0 0)  : ∀ (x7 : Int32) (x9 : Int32) (s0 : Int32) (M : gq_M), f_L_opens_97 N kh36 kh47 x7 x9 s0 M = some (v9, M9) → gq_W p l e (gq_rm 3) s m args below meth c D A cI cZ ad mtL 12 (MQ below (gq_Qi D cI cZ ad mtL v9 M9 A) args s 0 0 A) 97 [(0, .ref (ad 109)), (1, .ref (ad 111)), (2, .ref (ad 114)), (3, .ref (ad 115)), (4, .ref (ad 116)), (5, .ref (ad 119)), (6, .ref (ad 121)), (7, .int x7), (9, .int x9)] [.int s0] M 0 0 := by
  intro x7 x9 s0 M h
  unfold f_L_opens_97 at h
  refine g_iconst (v := 0) hC (by decide) dL_opens_97 ?_
  exact g_weak [0, 1, 2, 3, 4, 5, 6, 7, 8] rfl (t_L_opens_98 hC hr hk36 hk47 x7 x9 s0 0 M h)
def f_L_opens_47_b (N : Nat) (kh36 : Int32 → gq_M → Option (Int32 × gq_M)) (kh47 : Int32 → Int32 → Int32 → gq_M → Option (Int32 × gq_M)) (x7 : Int32) (x8 : Int32) (x9 : Int32) (M : gq_M) : Option (Int32 × gq_M) :=
  gq_g (gq_in 4 56) (gq_l (M 119 (4 : Int32).toNatClampNeg) fun v12 => if v12 ≤ x9 then (f_L_opens_107 N kh36 N x7 x8 M) else (gq_b (f_L_isToSell N x9 M) fun v14 M16 => if v14 = 0 then (f_L_opens_97 N kh36 kh47 x7 x9 x8 M16) else (gq_g (gq_in x9 40) (gq_l (M16 109 x9.toNatClampNeg) fun v19 => gq_g (gq_in (8 + (v19 - v19 / 8 * 8)) 24) (gq_l (M16 121 ((8 + (v19 - v19 / 8 * 8)) : Int32).toNatClampNeg) fun v21 => if v21 = x7 then (gq_g (gq_in x9 40) (gq_l (M16 109 x9.toNatClampNeg) fun v24 => f_L_opens_98 N kh36 kh47 x7 x9 x8 (1 <<< ((v24 - v24 / 8 * 8) &&& 31)) M16)) else (f_L_opens_97 N kh36 kh47 x7 x9 x8 M16))))))
def f_L_opens_47 (N : Nat) (kh36 : Int32 → gq_M → Option (Int32 × gq_M)) : Nat → Int32 → Int32 → Int32 → gq_M → Option (Int32 × gq_M)
  | 0 => fun _ _ _ _ => none
  | n9 + 1 => f_L_opens_47_b N kh36 (f_L_opens_47 N kh36 n9)
set_option maxHeartbeats 1000000 in
set_option maxRecDepth 20000 in
theorem t_L_opens_47_b {N : Nat} {kh36 : Int32 → gq_M → Option (Int32 × gq_M)} {kh47 : Int32 → Int32 → Int32 → gq_M → Option (Int32 × gq_M)} {v9 : Int32} {M9 : gq_M} (hC : gq_C p s m args meth c D A cI cZ ad mtL RL cL_opens 12) (hr : meth.sig.returnType = (some .int)) (hk36 : ∀ (x7 : Int32) (M : gq_M), kh36 x7 M = some (v9, M9) → gq_W p l e (gq_rm 3) s m args below meth c D A cI cZ ad mtL 12 (MQ below (gq_Qi D cI cZ ad mtL v9 M9 A) args s 0 0 A) 36 [(0, .ref (ad 109)), (1, .ref (ad 111)), (2, .ref (ad 114)), (3, .ref (ad 115)), (4, .ref (ad 116)), (5, .ref (ad 119)), (6, .ref (ad 121)), (7, .int x7)] [] M 0 0) (hk47 : ∀ (x7 : Int32) (x8 : Int32) (x9 : Int32) (M : gq_M), kh47 x7 x8 x9 M = some (v9, M9) → gq_W p l e (gq_rm 3) s m args below meth c D A cI cZ ad mtL 12 (MQ below (gq_Qi D cI cZ ad mtL v9 M9 A) args s 0 0 A) 47 [(0, .ref (ad 109)), (1, .ref (ad 111)), (2, .ref (ad 114)), (3, .ref (ad 115)), (4, .ref (ad 116)), (5, .ref (ad 119)), (6, .ref (ad 121)), (7, .int x7), (8, .int x8), (9, .int x9)] [] M 0 0) : ∀ (x7 : Int32) (x8 : Int32) (x9 : Int32) (M : gq_M), f_L_opens_47_b N kh36 kh47 x7 x8 x9 M = some (v9, M9) → gq_W p l e (gq_rm 3) s m args below meth c D A cI cZ ad mtL 12 (MQ below (gq_Qi D cI cZ ad mtL v9 M9 A) args s 0 0 A) 47 [(0, .ref (ad 109)), (1, .ref (ad 111)), (2, .ref (ad 114)), (3, .ref (ad 115)), (4, .ref (ad 116)), (5, .ref (ad 119)), (6, .ref (ad 121)), (7, .int x7), (8, .int x8), (9, .int x9)] [] M 0 0 := by
  intro x7 x8 x9 M h
  unfold f_L_opens_47_b at h
  refine g_iload hC 9 rfl dL_opens_47 ?_
  refine g_aload hC 5 rfl dL_opens_49 ?_
  refine g_iconst (v := 4) hC (by decide) dL_opens_51 ?_
  obtain ⟨g11, h⟩ := gq_g_i h
  refine g_iald hC arL_119 (gq_in_i g11) dL_opens_52 ?_
  refine g_topi (fun v12 hv12 => ?_)
  replace h := gq_l_i hv12 h
  refine g_icmp_ge (tgt := 107) hC (by decide) dL_opens_53 (fun c13 => ?_) (fun c13 => ?_)
  · replace h := gq_t c13 h
    exact g_weak [0, 1, 2, 3, 4, 5, 6, 7, 8] rfl (t_L_opens_107 hC hr hk36 N x7 x8 M h)
  · replace h := gq_f c13 h
    refine g_iload hC 8 rfl dL_opens_56 ?_
    refine g_aload_n hC 0 rfl rfl dL_opens_58 ?_
    refine g_iload hC 9 rfl dL_opens_59 ?_
    obtain ⟨v14, M16, c15, h⟩ := gq_b_i h
    refine g_Si (as := [.ref (ad 109), .int x9]) hC (t_L_isToSell N _ _ _ _ c15) mS_L_isToSell wm_L_148 rfl rfl (Nat.le_of_ble_eq_true rfl) ⟨Nat.le_of_ble_eq_true rfl, Nat.le_of_ble_eq_true rfl⟩ ⟨Nat.zero_le _, Nat.zero_le _⟩ dL_opens_61 ?_
    refine g_if_eq (tgt := 97) hC (by decide) dL_opens_64 (fun c17 => ?_) (fun c17 => ?_)
    · replace h := gq_t c17 h
      exact g_weak [0, 1, 2, 3, 4, 5, 6, 7, 9] rfl (t_L_opens_97 hC hr hk36 hk47 x7 x9 x8 M16 h)
    · replace h := gq_f c17 h
      refine g_aload hC 6 rfl dL_opens_67 ?_
      refine g_bipush (v := 8) hC (by decide) dL_opens_69 ?_
      refine g_aload_n hC 0 rfl rfl dL_opens_71 ?_
      refine g_iload hC 9 rfl dL_opens_72 ?_
      obtain ⟨g18, h⟩ := gq_g_i h
      refine g_iald hC arL_109 (gq_in_i g18) dL_opens_74 ?_
      refine g_topi (fun v19 hv19 => ?_)
      replace h := gq_l_i hv19 h
      refine g_bipush (v := 8) hC (by decide) dL_opens_75 ?_
      refine g_irem hC (by decide) dL_opens_77 ?_
      refine g_iadd hC dL_opens_78 ?_
      obtain ⟨g20, h⟩ := gq_g_i h
      refine g_iald hC arL_121 (gq_in_i g20) dL_opens_79 ?_
      refine g_topi (fun v21 hv21 => ?_)
      replace h := gq_l_i hv21 h
      refine g_iload hC 7 rfl dL_opens_80 ?_
      refine g_icmp_ne (tgt := 97) hC (by decide) dL_opens_82 (fun c22 => ?_) (fun c22 => ?_)
      · replace h := gq_f c22 h
        exact g_weak [0, 1, 2, 3, 4, 5, 6, 7, 9] rfl (t_L_opens_97 hC hr hk36 hk47 x7 x9 x8 M16 h)
      · replace h := gq_t c22 h
        refine g_iconst (v := 1) hC (by decide) dL_opens_85 ?_
        refine g_aload_n hC 0 rfl rfl dL_opens_86 ?_
        refine g_iload hC 9 rfl dL_opens_87 ?_
        obtain ⟨g23, h⟩ := gq_g_i h
        refine g_iald hC arL_109 (gq_in_i g23) dL_opens_89 ?_
        refine g_topi (fun v24 hv24 => ?_)
        replace h := gq_l_i hv24 h
        refine g_bipush (v := 8) hC (by decide) dL_opens_90 ?_
        refine g_irem hC (by decide) dL_opens_92 ?_
        refine g_ishl hC dL_opens_93 ?_
        refine g_goto (tgt := 98) hC (by decide) dL_opens_94 ?_
        exact g_weak [0, 1, 2, 3, 4, 5, 6, 7, 9] rfl (t_L_opens_98 hC hr hk36 hk47 x7 x9 x8 (1 <<< ((v24 - v24 / 8 * 8) &&& 31)) M16 h)
theorem t_L_opens_47 {N : Nat} {kh36 : Int32 → gq_M → Option (Int32 × gq_M)} {v9 : Int32} {M9 : gq_M} (hC : gq_C p s m args meth c D A cI cZ ad mtL RL cL_opens 12) (hr : meth.sig.returnType = (some .int)) (hk36 : ∀ (x7 : Int32) (M : gq_M), kh36 x7 M = some (v9, M9) → gq_W p l e (gq_rm 3) s m args below meth c D A cI cZ ad mtL 12 (MQ below (gq_Qi D cI cZ ad mtL v9 M9 A) args s 0 0 A) 36 [(0, .ref (ad 109)), (1, .ref (ad 111)), (2, .ref (ad 114)), (3, .ref (ad 115)), (4, .ref (ad 116)), (5, .ref (ad 119)), (6, .ref (ad 121)), (7, .int x7)] [] M 0 0) : ∀ (n9 : Nat) (x7 : Int32) (x8 : Int32) (x9 : Int32) (M : gq_M), f_L_opens_47 N kh36 n9 x7 x8 x9 M = some (v9, M9) → gq_W p l e (gq_rm 3) s m args below meth c D A cI cZ ad mtL 12 (MQ below (gq_Qi D cI cZ ad mtL v9 M9 A) args s 0 0 A) 47 [(0, .ref (ad 109)), (1, .ref (ad 111)), (2, .ref (ad 114)), (3, .ref (ad 115)), (4, .ref (ad 116)), (5, .ref (ad 119)), (6, .ref (ad 121)), (7, .int x7), (8, .int x8), (9, .int x9)] [] M 0 0 := by
  intro n9
  induction n9 with
  | zero => intro x7 x8 x9 M h; cases h
  | succ n9 ih => intro x7 x8 x9 M h; exact t_L_opens_47_b hC hr hk36 ih x7 x8 x9 M h
def f_L_opens_36_b (N : Nat) (kh36 : Int32 → gq_M → Option (Int32 × gq_M)) (x7 : Int32) (M : gq_M) : Option (Int32 × gq_M) :=
  if x7 < 0 then (f_L_opens_237 N  N 0 M) else (f_L_opens_47 N kh36 N x7 0 0 M)
def f_L_opens_36 (N : Nat) : Nat → Int32 → gq_M → Option (Int32 × gq_M)
  | 0 => fun _ _ => none
  | n9 + 1 => f_L_opens_36_b N  (f_L_opens_36 N  n9)
set_option maxHeartbeats 1000000 in
set_option maxRecDepth 20000 in
theorem t_L_opens_36_b {N : Nat} {kh36 : Int32 → gq_M → Option (Int32 × gq_M)} {v9 : Int32} {M9 : gq_M} (hC : gq_C p s m args meth c D A cI cZ ad mtL RL cL_opens 12) (hr : meth.sig.returnType = (some .int))  (hk36 : ∀ (x7 : Int32) (M : gq_M), kh36 x7 M = some (v9, M9) → gq_W p l e (gq_rm 3) s m args below meth c D A cI cZ ad mtL 12 (MQ below (gq_Qi D cI cZ ad mtL v9 M9 A) args s 0 0 A) 36 [(0, .ref (ad 109)), (1, .ref (ad 111)), (2, .ref (ad 114)), (3, .ref (ad 115)), (4, .ref (ad 116)), (5, .ref (ad 119)), (6, .ref (ad 121)), (7, .int x7)] [] M 0 0) : ∀ (x7 : Int32) (M : gq_M), f_L_opens_36_b N  kh36 x7 M = some (v9, M9) → gq_W p l e (gq_rm 3) s m args below meth c D A cI cZ ad mtL 12 (MQ below (gq_Qi D cI cZ ad mtL v9 M9 A) args s 0 0 A) 36 [(0, .ref (ad 109)), (1, .ref (ad 111)), (2, .ref (ad 114)), (3, .ref (ad 115)), (4, .ref (ad 116)), (5, .ref (ad 119)), (6, .ref (ad 121)), (7, .int x7)] [] M 0 0 := by
  intro x7 M h
  unfold f_L_opens_36_b at h
  refine g_iload hC 7 rfl dL_opens_36 ?_
  refine g_if_lt (tgt := 234) hC (by decide) dL_opens_38 (fun c10 => ?_) (fun c10 => ?_)
  · replace h := gq_t c10 h
    refine g_iconst (v := 0) hC (by decide) dL_opens_234 ?_
    refine g_istore (L2 := [(7, .int 0), (0, .ref (ad 109)), (1, .ref (ad 111)), (2, .ref (ad 114)), (3, .ref (ad 115)), (4, .ref (ad 116)), (5, .ref (ad 119)), (6, .ref (ad 121))]) hC (by decide) rfl dL_opens_235 ?_
    exact g_weak [3, 4, 5, 6, 0] rfl (t_L_opens_237 hC hr  N 0 M h)
  · replace h := gq_f c10 h
    refine g_iconst (v := 0) hC (by decide) dL_opens_41 ?_
    refine g_istore (L2 := [(8, .int 0), (0, .ref (ad 109)), (1, .ref (ad 111)), (2, .ref (ad 114)), (3, .ref (ad 115)), (4, .ref (ad 116)), (5, .ref (ad 119)), (6, .ref (ad 121)), (7, .int x7)]) hC (by decide) rfl dL_opens_42 ?_
    refine g_iconst (v := 0) hC (by decide) dL_opens_44 ?_
    refine g_istore (L2 := [(9, .int 0), (8, .int 0), (0, .ref (ad 109)), (1, .ref (ad 111)), (2, .ref (ad 114)), (3, .ref (ad 115)), (4, .ref (ad 116)), (5, .ref (ad 119)), (6, .ref (ad 121)), (7, .int x7)]) hC (by decide) rfl dL_opens_45 ?_
    exact g_weak [2, 3, 4, 5, 6, 7, 8, 9, 1, 0] rfl (t_L_opens_47 hC hr hk36 N x7 0 0 M h)
theorem t_L_opens_36 {N : Nat} {v9 : Int32} {M9 : gq_M} (hC : gq_C p s m args meth c D A cI cZ ad mtL RL cL_opens 12) (hr : meth.sig.returnType = (some .int))  : ∀ (n9 : Nat) (x7 : Int32) (M : gq_M), f_L_opens_36 N  n9 x7 M = some (v9, M9) → gq_W p l e (gq_rm 3) s m args below meth c D A cI cZ ad mtL 12 (MQ below (gq_Qi D cI cZ ad mtL v9 M9 A) args s 0 0 A) 36 [(0, .ref (ad 109)), (1, .ref (ad 111)), (2, .ref (ad 114)), (3, .ref (ad 115)), (4, .ref (ad 116)), (5, .ref (ad 119)), (6, .ref (ad 121)), (7, .int x7)] [] M 0 0 := by
  intro n9
  induction n9 with
  | zero => intro x7 M h; cases h
  | succ n9 ih => intro x7 M h; exact t_L_opens_36_b hC hr  ih x7 M h
def f_L_opens_13_b (N : Nat) (kh13 : Int32 → gq_M → Option (Int32 × gq_M)) (x7 : Int32) (M : gq_M) : Option (Int32 × gq_M) :=
  gq_g (gq_in 4 56) (gq_l (M 119 (4 : Int32).toNatClampNeg) fun v6 => if v6 ≤ x7 then (f_L_opens_36 N  N 1 M) else (gq_g (gq_in x7 40) (gq_l (gq_up M 111 x7.toNatClampNeg (-1)) fun M9 => kh13 (x7 + 1) M9)))
def f_L_opens_13 (N : Nat) : Nat → Int32 → gq_M → Option (Int32 × gq_M)
  | 0 => fun _ _ => none
  | n9 + 1 => f_L_opens_13_b N  (f_L_opens_13 N  n9)
set_option maxHeartbeats 1000000 in
set_option maxRecDepth 20000 in
theorem t_L_opens_13_b {N : Nat} {kh13 : Int32 → gq_M → Option (Int32 × gq_M)} {v9 : Int32} {M9 : gq_M} (hC : gq_C p s m args meth c D A cI cZ ad mtL RL cL_opens 12) (hr : meth.sig.returnType = (some .int))  (hk13 : ∀ (x7 : Int32) (M : gq_M), kh13 x7 M = some (v9, M9) → gq_W p l e (gq_rm 3) s m args below meth c D A cI cZ ad mtL 12 (MQ below (gq_Qi D cI cZ ad mtL v9 M9 A) args s 0 0 A) 13 [(0, .ref (ad 109)), (1, .ref (ad 111)), (2, .ref (ad 114)), (3, .ref (ad 115)), (4, .ref (ad 116)), (5, .ref (ad 119)), (6, .ref (ad 121)), (7, .int x7)] [] M 0 0) : ∀ (x7 : Int32) (M : gq_M), f_L_opens_13_b N  kh13 x7 M = some (v9, M9) → gq_W p l e (gq_rm 3) s m args below meth c D A cI cZ ad mtL 12 (MQ below (gq_Qi D cI cZ ad mtL v9 M9 A) args s 0 0 A) 13 [(0, .ref (ad 109)), (1, .ref (ad 111)), (2, .ref (ad 114)), (3, .ref (ad 115)), (4, .ref (ad 116)), (5, .ref (ad 119)), (6, .ref (ad 121)), (7, .int x7)] [] M 0 0 := by
  intro x7 M h
  unfold f_L_opens_13_b at h
  refine g_iload hC 7 rfl dL_opens_13 ?_
  refine g_aload hC 5 rfl dL_opens_15 ?_
  refine g_iconst (v := 4) hC (by decide) dL_opens_17 ?_
  obtain ⟨g5, h⟩ := gq_g_i h
  refine g_iald hC arL_119 (gq_in_i g5) dL_opens_18 ?_
  refine g_topi (fun v6 hv6 => ?_)
  replace h := gq_l_i hv6 h
  refine g_icmp_ge (tgt := 33) hC (by decide) dL_opens_19 (fun c7 => ?_) (fun c7 => ?_)
  · replace h := gq_t c7 h
    refine g_iconst (v := 1) hC (by decide) dL_opens_33 ?_
    refine g_istore (L2 := [(7, .int 1), (0, .ref (ad 109)), (1, .ref (ad 111)), (2, .ref (ad 114)), (3, .ref (ad 115)), (4, .ref (ad 116)), (5, .ref (ad 119)), (6, .ref (ad 121))]) hC (by decide) rfl dL_opens_34 ?_
    exact g_weak [1, 2, 3, 4, 5, 6, 7, 0] rfl (t_L_opens_36 hC hr  N 1 M h)
  · replace h := gq_f c7 h
    refine g_aload_n hC 1 rfl rfl dL_opens_22 ?_
    refine g_iload hC 7 rfl dL_opens_23 ?_
    refine g_iconst (v := (-1)) hC (by decide) dL_opens_25 ?_
    obtain ⟨g8, h⟩ := gq_g_i h
    refine g_iast hC arL_111 (gq_in_i g8) dL_opens_26 ?_
    refine g_topM (fun M9 hM9 => ?_)
    replace h := gq_l_i hM9 h
    refine g_iinc (v := (x7 + 1)) (L2 := [(7, .int (x7 + 1)), (0, .ref (ad 109)), (1, .ref (ad 111)), (2, .ref (ad 114)), (3, .ref (ad 115)), (4, .ref (ad 116)), (5, .ref (ad 119)), (6, .ref (ad 121))]) hC 7 rfl (by first | rfl | decide) (by decide) rfl dL_opens_27 ?_
    refine g_goto (tgt := 13) hC (by decide) dL_opens_30 ?_
    exact g_weak [1, 2, 3, 4, 5, 6, 7, 0] rfl (hk13 (x7 + 1) M9 h)
theorem t_L_opens_13 {N : Nat} {v9 : Int32} {M9 : gq_M} (hC : gq_C p s m args meth c D A cI cZ ad mtL RL cL_opens 12) (hr : meth.sig.returnType = (some .int))  : ∀ (n9 : Nat) (x7 : Int32) (M : gq_M), f_L_opens_13 N  n9 x7 M = some (v9, M9) → gq_W p l e (gq_rm 3) s m args below meth c D A cI cZ ad mtL 12 (MQ below (gq_Qi D cI cZ ad mtL v9 M9 A) args s 0 0 A) 13 [(0, .ref (ad 109)), (1, .ref (ad 111)), (2, .ref (ad 114)), (3, .ref (ad 115)), (4, .ref (ad 116)), (5, .ref (ad 119)), (6, .ref (ad 121)), (7, .int x7)] [] M 0 0 := by
  intro n9
  induction n9 with
  | zero => intro x7 M h; cases h
  | succ n9 ih => intro x7 M h; exact t_L_opens_13_b hC hr  ih x7 M h
def f_L_opens (N : Nat) (M : gq_M) : Option (Int32 × gq_M) :=
  gq_g (gq_in 2 56) (gq_l (gq_up M 119 (2 : Int32).toNatClampNeg 1) fun M2 => gq_g (gq_in 5 56) (gq_l (gq_up M2 119 (5 : Int32).toNatClampNeg 0) fun M4 => f_L_opens_13 N  N 0 M4))
set_option maxHeartbeats 1000000 in
set_option maxRecDepth 20000 in
theorem t_L_opens {l : Launch} {D : va_G} {cI cZ : ClassId} {ad : Nat → Nat} (N : Nat) (M : gq_M) (v9 : Int32) (M9 : gq_M) (h : f_L_opens N  M = some (v9, M9)) : gq_Ci l D cI cZ ad mtL yL_opens cL_opens 12 (some .int) 3 [.ref (ad 109), .ref (ad 111), .ref (ad 114), .ref (ad 115), .ref (ad 116), .ref (ad 119), .ref (ad 121)] M v9 M9 := by
  refine gq_introI (own := RL) (by decide) rfl (Nat.le_of_ble_eq_true rfl) ?_
  intro p e s m below meth c hC hr
  refine g_cast (L2 := [(0, .ref (ad 109)), (1, .ref (ad 111)), (2, .ref (ad 114)), (3, .ref (ad 115)), (4, .ref (ad 116)), (5, .ref (ad 119)), (6, .ref (ad 121))]) ?_ rfl rfl rfl rfl
  unfold f_L_opens at h
  refine g_aload hC 5 rfl dL_opens_0 ?_
  refine g_iconst (v := 2) hC (by decide) dL_opens_2 ?_
  refine g_iconst (v := 1) hC (by decide) dL_opens_3 ?_
  obtain ⟨g1, h⟩ := gq_g_i h
  refine g_iast hC arL_119 (gq_in_i g1) dL_opens_4 ?_
  refine g_topM (fun M2 hM2 => ?_)
  replace h := gq_l_i hM2 h
  refine g_aload hC 5 rfl dL_opens_5 ?_
  refine g_iconst (v := 5) hC (by decide) dL_opens_7 ?_
  refine g_iconst (v := 0) hC (by decide) dL_opens_8 ?_
  obtain ⟨g3, h⟩ := gq_g_i h
  refine g_iast hC arL_119 (gq_in_i g3) dL_opens_9 ?_
  refine g_topM (fun M4 hM4 => ?_)
  replace h := gq_l_i hM4 h
  refine g_iconst (v := 0) hC (by decide) dL_opens_10 ?_
  refine g_istore (L2 := [(7, .int 0), (0, .ref (ad 109)), (1, .ref (ad 111)), (2, .ref (ad 114)), (3, .ref (ad 115)), (4, .ref (ad 116)), (5, .ref (ad 119)), (6, .ref (ad 121))]) hC (by decide) rfl dL_opens_11 ?_
  exact g_weak [1, 2, 3, 4, 5, 6, 7, 0] rfl (t_L_opens_13 hC hr  N 0 M4 h)
def f_L_kilos_96 (N : Nat) (kh6 : Int32 → Int32 → Int32 → gq_M → Option (Int32 × gq_M)) (x3 : Int32) (x5 : Int32) (s0 : Int32) (s1 : Int32) (M : gq_M) : Option (Int32 × gq_M) :=
  kh6 x3 (s0 + s1) (x5 + 1) M
set_option maxHeartbeats 1000000 in
set_option maxRecDepth 20000 in
theorem t_L_kilos_96 {N : Nat} {kh6 : Int32 → Int32 → Int32 → gq_M → Option (Int32 × gq_M)} {v9 : Int32} {M9 : gq_M} (hC : gq_C p s m args meth c D A cI cZ ad mtL RL cL_kilos 8) (hr : meth.sig.returnType = (some .int)) (hk6 : ∀ (x3 : Int32) (x4 : Int32) (x5 : Int32) (M : gq_M), kh6 x3 x4 x5 M = some (v9, M9) → gq_W p l e (gq_rm 1) s m args below meth c D A cI cZ ad mtL 8 (MQ below (gq_Qi D cI cZ ad mtL v9 M9 A) args s 0 0 A) 6 [(0, .ref (ad 109)), (1, .ref (ad 110)), (2, .ref (ad 119)), (3, .int x3), (4, .int x4), (5, .int x5)] [] M 0 0)  : ∀ (x3 : Int32) (x5 : Int32) (s0 : Int32) (s1 : Int32) (M : gq_M), f_L_kilos_96 N kh6 x3 x5 s0 s1 M = some (v9, M9) → gq_W p l e (gq_rm 1) s m args below meth c D A cI cZ ad mtL 8 (MQ below (gq_Qi D cI cZ ad mtL v9 M9 A) args s 0 0 A) 96 [(0, .ref (ad 109)), (1, .ref (ad 110)), (2, .ref (ad 119)), (3, .int x3), (5, .int x5)] [.int s1, .int s0] M 0 0 := by
  intro x3 x5 s0 s1 M h
  unfold f_L_kilos_96 at h
  refine g_iadd hC dL_kilos_96 ?_
  refine g_istore (L2 := [(4, .int (s0 + s1)), (0, .ref (ad 109)), (1, .ref (ad 110)), (2, .ref (ad 119)), (3, .int x3), (5, .int x5)]) hC (by decide) rfl dL_kilos_97 ?_
  refine g_iinc (v := (x5 + 1)) (L2 := [(5, .int (x5 + 1)), (4, .int (s0 + s1)), (0, .ref (ad 109)), (1, .ref (ad 110)), (2, .ref (ad 119)), (3, .int x3)]) hC 5 rfl (by first | rfl | decide) (by decide) rfl dL_kilos_99 ?_
  refine g_goto (tgt := 6) hC (by decide) dL_kilos_102 ?_
  exact g_weak [2, 3, 4, 5, 1, 0] rfl (hk6 x3 (s0 + s1) (x5 + 1) M h)
def f_L_kilos_84 (N : Nat) (kh6 : Int32 → Int32 → Int32 → gq_M → Option (Int32 × gq_M)) (x3 : Int32) (x5 : Int32) (s0 : Int32) (M : gq_M) : Option (Int32 × gq_M) :=
  gq_g (gq_in x5 40) (gq_l (M 110 x5.toNatClampNeg) fun v15 => f_L_kilos_96 N kh6 x3 x5 s0 (v15 - v15 / 128 * 128) M)
set_option maxHeartbeats 1000000 in
set_option maxRecDepth 20000 in
theorem t_L_kilos_84 {N : Nat} {kh6 : Int32 → Int32 → Int32 → gq_M → Option (Int32 × gq_M)} {v9 : Int32} {M9 : gq_M} (hC : gq_C p s m args meth c D A cI cZ ad mtL RL cL_kilos 8) (hr : meth.sig.returnType = (some .int)) (hk6 : ∀ (x3 : Int32) (x4 : Int32) (x5 : Int32) (M : gq_M), kh6 x3 x4 x5 M = some (v9, M9) → gq_W p l e (gq_rm 1) s m args below meth c D A cI cZ ad mtL 8 (MQ below (gq_Qi D cI cZ ad mtL v9 M9 A) args s 0 0 A) 6 [(0, .ref (ad 109)), (1, .ref (ad 110)), (2, .ref (ad 119)), (3, .int x3), (4, .int x4), (5, .int x5)] [] M 0 0)  : ∀ (x3 : Int32) (x5 : Int32) (s0 : Int32) (M : gq_M), f_L_kilos_84 N kh6 x3 x5 s0 M = some (v9, M9) → gq_W p l e (gq_rm 1) s m args below meth c D A cI cZ ad mtL 8 (MQ below (gq_Qi D cI cZ ad mtL v9 M9 A) args s 0 0 A) 84 [(0, .ref (ad 109)), (1, .ref (ad 110)), (2, .ref (ad 119)), (3, .int x3), (5, .int x5)] [.int s0] M 0 0 := by
  intro x3 x5 s0 M h
  unfold f_L_kilos_84 at h
  refine g_aload_n hC 1 rfl rfl dL_kilos_84 ?_
  refine g_iload hC 4 rfl dL_kilos_85 ?_
  obtain ⟨g14, h⟩ := gq_g_i h
  refine g_iald hC arL_110 (gq_in_i g14) dL_kilos_87 ?_
  refine g_topi (fun v15 hv15 => ?_)
  replace h := gq_l_i hv15 h
  refine g_sipush (v := 128) hC (by decide) dL_kilos_88 ?_
  refine g_irem hC (by decide) dL_kilos_91 ?_
  refine g_goto (tgt := 96) hC (by decide) dL_kilos_92 ?_
  exact g_weak [0, 1, 2, 3, 4] rfl (t_L_kilos_96 hC hr hk6 x3 x5 s0 (v15 - v15 / 128 * 128) M h)
def f_L_kilos_70 (N : Nat) (kh6 : Int32 → Int32 → Int32 → gq_M → Option (Int32 × gq_M)) (x3 : Int32) (x4 : Int32) (x5 : Int32) (s0 : Int32) (M : gq_M) : Option (Int32 × gq_M) :=
  if x3 = 0 then (f_L_kilos_84 N kh6 x3 x5 x4 M) else (if s0 = x3 then (f_L_kilos_84 N kh6 x3 x5 x4 M) else (f_L_kilos_96 N kh6 x3 x5 x4 0 M))
set_option maxHeartbeats 1000000 in
set_option maxRecDepth 20000 in
theorem t_L_kilos_70 {N : Nat} {kh6 : Int32 → Int32 → Int32 → gq_M → Option (Int32 × gq_M)} {v9 : Int32} {M9 : gq_M} (hC : gq_C p s m args meth c D A cI cZ ad mtL RL cL_kilos 8) (hr : meth.sig.returnType = (some .int)) (hk6 : ∀ (x3 : Int32) (x4 : Int32) (x5 : Int32) (M : gq_M), kh6 x3 x4 x5 M = some (v9, M9) → gq_W p l e (gq_rm 1) s m args below meth c D A cI cZ ad mtL 8 (MQ below (gq_Qi D cI cZ ad mtL v9 M9 A) args s 0 0 A) 6 [(0, .ref (ad 109)), (1, .ref (ad 110)), (2, .ref (ad 119)), (3, .int x3), (4, .int x4), (5, .int x5)] [] M 0 0)  : ∀ (x3 : Int32) (x4 : Int32) (x5 : Int32) (s0 : Int32) (M : gq_M), f_L_kilos_70 N kh6 x3 x4 x5 s0 M = some (v9, M9) → gq_W p l e (gq_rm 1) s m args below meth c D A cI cZ ad mtL 8 (MQ below (gq_Qi D cI cZ ad mtL v9 M9 A) args s 0 0 A) 70 [(0, .ref (ad 109)), (1, .ref (ad 110)), (2, .ref (ad 119)), (3, .int x3), (4, .int x4), (5, .int x5)] [.int s0] M 0 0 := by
  intro x3 x4 x5 s0 M h
  unfold f_L_kilos_70 at h
  refine g_istore (L2 := [(7, .int s0), (0, .ref (ad 109)), (1, .ref (ad 110)), (2, .ref (ad 119)), (3, .int x3), (4, .int x4), (5, .int x5)]) hC (by decide) rfl dL_kilos_70 ?_
  refine g_iload hC 5 rfl dL_kilos_72 ?_
  refine g_iload_n hC 4 rfl rfl dL_kilos_74 ?_
  refine g_if_eq (tgt := 84) hC (by decide) dL_kilos_75 (fun c12 => ?_) (fun c12 => ?_)
  · replace h := gq_t c12 h
    exact g_weak [1, 2, 3, 4, 6] rfl (t_L_kilos_84 hC hr hk6 x3 x5 x4 M h)
  · replace h := gq_f c12 h
    refine g_iload hC 0 rfl dL_kilos_78 ?_
    refine g_iload_n hC 4 rfl rfl dL_kilos_80 ?_
    refine g_icmp_ne (tgt := 95) hC (by decide) dL_kilos_81 (fun c13 => ?_) (fun c13 => ?_)
    · replace h := gq_f c13 h
      refine g_iconst (v := 0) hC (by decide) dL_kilos_95 ?_
      exact g_weak [1, 2, 3, 4, 6] rfl (t_L_kilos_96 hC hr hk6 x3 x5 x4 0 M h)
    · replace h := gq_t c13 h
      exact g_weak [1, 2, 3, 4, 6] rfl (t_L_kilos_84 hC hr hk6 x3 x5 x4 M h)
def f_L_kilos_34 (N : Nat) (kh6 : Int32 → Int32 → Int32 → gq_M → Option (Int32 × gq_M)) (x3 : Int32) (x4 : Int32) (x5 : Int32) (M : gq_M) : Option (Int32 × gq_M) :=
  f_L_kilos_70 N kh6 x3 x4 x5 1 M
set_option maxHeartbeats 1000000 in
set_option maxRecDepth 20000 in
theorem t_L_kilos_34 {N : Nat} {kh6 : Int32 → Int32 → Int32 → gq_M → Option (Int32 × gq_M)} {v9 : Int32} {M9 : gq_M} (hC : gq_C p s m args meth c D A cI cZ ad mtL RL cL_kilos 8) (hr : meth.sig.returnType = (some .int)) (hk6 : ∀ (x3 : Int32) (x4 : Int32) (x5 : Int32) (M : gq_M), kh6 x3 x4 x5 M = some (v9, M9) → gq_W p l e (gq_rm 1) s m args below meth c D A cI cZ ad mtL 8 (MQ below (gq_Qi D cI cZ ad mtL v9 M9 A) args s 0 0 A) 6 [(0, .ref (ad 109)), (1, .ref (ad 110)), (2, .ref (ad 119)), (3, .int x3), (4, .int x4), (5, .int x5)] [] M 0 0)  : ∀ (x3 : Int32) (x4 : Int32) (x5 : Int32) (M : gq_M), f_L_kilos_34 N kh6 x3 x4 x5 M = some (v9, M9) → gq_W p l e (gq_rm 1) s m args below meth c D A cI cZ ad mtL 8 (MQ below (gq_Qi D cI cZ ad mtL v9 M9 A) args s 0 0 A) 34 [(0, .ref (ad 109)), (1, .ref (ad 110)), (2, .ref (ad 119)), (3, .int x3), (4, .int x4), (5, .int x5)] [] M 0 0 := by
  intro x3 x4 x5 M h
  unfold f_L_kilos_34 at h
  refine g_iconst (v := 1) hC (by decide) dL_kilos_34 ?_
  refine g_goto (tgt := 70) hC (by decide) dL_kilos_35 ?_
  exact g_weak [0, 1, 2, 3, 4, 5] rfl (t_L_kilos_70 hC hr hk6 x3 x4 x5 1 M h)
def f_L_kilos_6_b (N : Nat) (kh6 : Int32 → Int32 → Int32 → gq_M → Option (Int32 × gq_M)) (x3 : Int32) (x4 : Int32) (x5 : Int32) (M : gq_M) : Option (Int32 × gq_M) :=
  gq_g (gq_in 4 56) (gq_l (M 119 (4 : Int32).toNatClampNeg) fun v2 => if v2 ≤ x5 then (some (x4, M)) else (gq_b (f_L_how N x5 M) fun v4 M6 => if v4 = 3 then (f_L_kilos_34 N kh6 x3 x4 x5 M6) else (if v4 = 4 then (f_L_kilos_34 N kh6 x3 x4 x5 M6) else (if v4 = 5 then (f_L_kilos_70 N kh6 x3 x4 x5 2 M6) else (if v4 = 7 then (f_L_kilos_70 N kh6 x3 x4 x5 3 M6) else (if v4 = 1 then (f_L_kilos_70 N kh6 x3 x4 x5 4 M6) else (f_L_kilos_70 N kh6 x3 x4 x5 5 M6)))))))
def f_L_kilos_6 (N : Nat) : Nat → Int32 → Int32 → Int32 → gq_M → Option (Int32 × gq_M)
  | 0 => fun _ _ _ _ => none
  | n9 + 1 => f_L_kilos_6_b N  (f_L_kilos_6 N  n9)
set_option maxHeartbeats 1000000 in
set_option maxRecDepth 20000 in
theorem t_L_kilos_6_b {N : Nat} {kh6 : Int32 → Int32 → Int32 → gq_M → Option (Int32 × gq_M)} {v9 : Int32} {M9 : gq_M} (hC : gq_C p s m args meth c D A cI cZ ad mtL RL cL_kilos 8) (hr : meth.sig.returnType = (some .int))  (hk6 : ∀ (x3 : Int32) (x4 : Int32) (x5 : Int32) (M : gq_M), kh6 x3 x4 x5 M = some (v9, M9) → gq_W p l e (gq_rm 1) s m args below meth c D A cI cZ ad mtL 8 (MQ below (gq_Qi D cI cZ ad mtL v9 M9 A) args s 0 0 A) 6 [(0, .ref (ad 109)), (1, .ref (ad 110)), (2, .ref (ad 119)), (3, .int x3), (4, .int x4), (5, .int x5)] [] M 0 0) : ∀ (x3 : Int32) (x4 : Int32) (x5 : Int32) (M : gq_M), f_L_kilos_6_b N  kh6 x3 x4 x5 M = some (v9, M9) → gq_W p l e (gq_rm 1) s m args below meth c D A cI cZ ad mtL 8 (MQ below (gq_Qi D cI cZ ad mtL v9 M9 A) args s 0 0 A) 6 [(0, .ref (ad 109)), (1, .ref (ad 110)), (2, .ref (ad 119)), (3, .int x3), (4, .int x4), (5, .int x5)] [] M 0 0 := by
  intro x3 x4 x5 M h
  unfold f_L_kilos_6_b at h
  refine g_iload hC 5 rfl dL_kilos_6 ?_
  refine g_aload_n hC 2 rfl rfl dL_kilos_8 ?_
  refine g_iconst (v := 4) hC (by decide) dL_kilos_9 ?_
  obtain ⟨g1, h⟩ := gq_g_i h
  refine g_iald hC arL_119 (gq_in_i g1) dL_kilos_10 ?_
  refine g_topi (fun v2 hv2 => ?_)
  replace h := gq_l_i hv2 h
  refine g_icmp_ge (tgt := 105) hC (by decide) dL_kilos_11 (fun c3 => ?_) (fun c3 => ?_)
  · replace h := gq_t c3 h
    refine g_iload hC 4 rfl dL_kilos_105 ?_
    exact g_irets hC hr h dL_kilos_107
  · replace h := gq_f c3 h
    refine g_aload_n hC 0 rfl rfl dL_kilos_14 ?_
    refine g_iload hC 5 rfl dL_kilos_15 ?_
    obtain ⟨v4, M6, c5, h⟩ := gq_b_i h
    refine g_Si (as := [.ref (ad 109), .int x5]) hC (t_L_how N _ _ _ _ c5) mS_L_how wm_L_95 rfl rfl (Nat.le_of_ble_eq_true rfl) ⟨Nat.le_of_ble_eq_true rfl, Nat.le_of_ble_eq_true rfl⟩ ⟨Nat.zero_le _, Nat.zero_le _⟩ dL_kilos_17 ?_
    refine g_istore (L2 := [(6, .int v4), (0, .ref (ad 109)), (1, .ref (ad 110)), (2, .ref (ad 119)), (3, .int x3), (4, .int x4), (5, .int x5)]) hC (by decide) rfl dL_kilos_20 ?_
    refine g_iload hC 0 rfl dL_kilos_22 ?_
    refine g_iconst (v := 3) hC (by decide) dL_kilos_24 ?_
    refine g_icmp_eq (tgt := 34) hC (by decide) dL_kilos_25 (fun c7 => ?_) (fun c7 => ?_)
    · replace h := gq_t c7 h
      exact g_weak [1, 2, 3, 4, 5, 6] rfl (t_L_kilos_34 hC hr hk6 x3 x4 x5 M6 h)
    · replace h := gq_f c7 h
      refine g_iload hC 0 rfl dL_kilos_28 ?_
      refine g_iconst (v := 4) hC (by decide) dL_kilos_30 ?_
      refine g_icmp_ne (tgt := 38) hC (by decide) dL_kilos_31 (fun c8 => ?_) (fun c8 => ?_)
      · replace h := gq_f c8 h
        refine g_iload hC 0 rfl dL_kilos_38 ?_
        refine g_iconst (v := 5) hC (by decide) dL_kilos_40 ?_
        refine g_icmp_ne (tgt := 48) hC (by decide) dL_kilos_41 (fun c9 => ?_) (fun c9 => ?_)
        · replace h := gq_f c9 h
          refine g_iload hC 0 rfl dL_kilos_48 ?_
          refine g_bipush (v := 7) hC (by decide) dL_kilos_50 ?_
          refine g_icmp_ne (tgt := 59) hC (by decide) dL_kilos_52 (fun c10 => ?_) (fun c10 => ?_)
          · replace h := gq_f c10 h
            refine g_iload hC 0 rfl dL_kilos_59 ?_
            refine g_iconst (v := 1) hC (by decide) dL_kilos_61 ?_
            refine g_icmp_ne (tgt := 69) hC (by decide) dL_kilos_62 (fun c11 => ?_) (fun c11 => ?_)
            · replace h := gq_f c11 h
              refine g_iconst (v := 5) hC (by decide) dL_kilos_69 ?_
              exact g_weak [1, 2, 3, 4, 5, 6] rfl (t_L_kilos_70 hC hr hk6 x3 x4 x5 5 M6 h)
            · replace h := gq_t c11 h
              refine g_iconst (v := 4) hC (by decide) dL_kilos_65 ?_
              refine g_goto (tgt := 70) hC (by decide) dL_kilos_66 ?_
              exact g_weak [1, 2, 3, 4, 5, 6] rfl (t_L_kilos_70 hC hr hk6 x3 x4 x5 4 M6 h)
          · replace h := gq_t c10 h
            refine g_iconst (v := 3) hC (by decide) dL_kilos_55 ?_
            refine g_goto (tgt := 70) hC (by decide) dL_kilos_56 ?_
            exact g_weak [1, 2, 3, 4, 5, 6] rfl (t_L_kilos_70 hC hr hk6 x3 x4 x5 3 M6 h)
        · replace h := gq_t c9 h
          refine g_iconst (v := 2) hC (by decide) dL_kilos_44 ?_
          refine g_goto (tgt := 70) hC (by decide) dL_kilos_45 ?_
          exact g_weak [1, 2, 3, 4, 5, 6] rfl (t_L_kilos_70 hC hr hk6 x3 x4 x5 2 M6 h)
      · replace h := gq_t c8 h
        exact g_weak [1, 2, 3, 4, 5, 6] rfl (t_L_kilos_34 hC hr hk6 x3 x4 x5 M6 h)
theorem t_L_kilos_6 {N : Nat} {v9 : Int32} {M9 : gq_M} (hC : gq_C p s m args meth c D A cI cZ ad mtL RL cL_kilos 8) (hr : meth.sig.returnType = (some .int))  : ∀ (n9 : Nat) (x3 : Int32) (x4 : Int32) (x5 : Int32) (M : gq_M), f_L_kilos_6 N  n9 x3 x4 x5 M = some (v9, M9) → gq_W p l e (gq_rm 1) s m args below meth c D A cI cZ ad mtL 8 (MQ below (gq_Qi D cI cZ ad mtL v9 M9 A) args s 0 0 A) 6 [(0, .ref (ad 109)), (1, .ref (ad 110)), (2, .ref (ad 119)), (3, .int x3), (4, .int x4), (5, .int x5)] [] M 0 0 := by
  intro n9
  induction n9 with
  | zero => intro x3 x4 x5 M h; cases h
  | succ n9 ih => intro x3 x4 x5 M h; exact t_L_kilos_6_b hC hr  ih x3 x4 x5 M h
def f_L_kilos (N : Nat) (a3 : Int32) (M : gq_M) : Option (Int32 × gq_M) :=
  f_L_kilos_6 N  N a3 0 0 M
set_option maxHeartbeats 1000000 in
set_option maxRecDepth 20000 in
theorem t_L_kilos {l : Launch} {D : va_G} {cI cZ : ClassId} {ad : Nat → Nat} (N : Nat) (a3 : Int32) (M : gq_M) (v9 : Int32) (M9 : gq_M) (h : f_L_kilos N a3 M = some (v9, M9)) : gq_Ci l D cI cZ ad mtL yL_kilos cL_kilos 8 (some .int) 1 [.ref (ad 109), .ref (ad 110), .ref (ad 119), .int a3] M v9 M9 := by
  refine gq_introI (own := RL) (by decide) rfl (Nat.le_of_ble_eq_true rfl) ?_
  intro p e s m below meth c hC hr
  refine g_cast (L2 := [(0, .ref (ad 109)), (1, .ref (ad 110)), (2, .ref (ad 119)), (3, .int a3)]) ?_ rfl rfl rfl rfl
  unfold f_L_kilos at h
  refine g_iconst (v := 0) hC (by decide) dL_kilos_0 ?_
  refine g_istore (L2 := [(4, .int 0), (0, .ref (ad 109)), (1, .ref (ad 110)), (2, .ref (ad 119)), (3, .int a3)]) hC (by decide) rfl dL_kilos_1 ?_
  refine g_iconst (v := 0) hC (by decide) dL_kilos_3 ?_
  refine g_istore (L2 := [(5, .int 0), (4, .int 0), (0, .ref (ad 109)), (1, .ref (ad 110)), (2, .ref (ad 119)), (3, .int a3)]) hC (by decide) rfl dL_kilos_4 ?_
  exact g_weak [2, 3, 4, 5, 1, 0] rfl (t_L_kilos_6 hC hr  N a3 0 0 M h)
def f_L_sold (N : Nat) (a1 : Int32) (M : gq_M) : Option (Int32 × gq_M) :=
  gq_g (gq_in a1 40) (gq_l (M 110 a1.toNatClampNeg) fun v2 => some ((v2 / 16384), M))
set_option maxHeartbeats 1000000 in
set_option maxRecDepth 20000 in
theorem t_L_sold {l : Launch} {D : va_G} {cI cZ : ClassId} {ad : Nat → Nat} (N : Nat) (a1 : Int32) (M : gq_M) (v9 : Int32) (M9 : gq_M) (h : f_L_sold N a1 M = some (v9, M9)) : gq_Ci l D cI cZ ad mtL yL_sold cL_sold 2 (some .int) 0 [.ref (ad 110), .int a1] M v9 M9 := by
  refine gq_introI (own := RL) (by decide) rfl (Nat.le_of_ble_eq_true rfl) ?_
  intro p e s m below meth c hC hr
  refine g_cast (L2 := [(0, .ref (ad 110)), (1, .int a1)]) ?_ rfl rfl rfl rfl
  unfold f_L_sold at h
  refine g_aload_n hC 0 rfl rfl dL_sold_0 ?_
  refine g_iload_n hC 1 rfl rfl dL_sold_1 ?_
  obtain ⟨g1, h⟩ := gq_g_i h
  refine g_iald hC arL_110 (gq_in_i g1) dL_sold_2 ?_
  refine g_topi (fun v2 hv2 => ?_)
  replace h := gq_l_i hv2 h
  refine g_sipush (v := 16384) hC (by decide) dL_sold_3 ?_
  refine g_idiv hC (by decide) dL_sold_6 ?_
  exact g_irets hC hr h dL_sold_7
end
