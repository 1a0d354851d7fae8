section
variable {p : Program} {l : Launch} {e : Env} {s : State} {m : MethodId} {args : Array Value} {below : List Frame} {meth : Method} {c : Code} {D : va_G} {A : Nat → Prop} {cI cZ : ClassId} {ad : Nat → Nat}
def f_X9_draw (N : Nat) (a1 : Int32) (M : gq_M) : Option (Int32 × gq_M) :=
  gq_l (gq_up M 0 11 a1) fun M1 => some ((M 0 11), M1)
set_option maxHeartbeats 1000000 in
set_option maxRecDepth 20000 in
theorem t_X9_draw {l : Launch} {D : va_G} {cI cZ : ClassId} {ad : Nat → Nat} (N : Nat) (a1 : Int32) (M : gq_M) (v9 : Int32) (M9 : gq_M) (h : f_X9_draw N a1 M = some (v9, M9)) : gq_Ci l D cI cZ ad mtC yX9_draw cX9_draw 3 (some .int) 0 [.ref (ad 0), .int a1] M v9 M9 := by
  refine gq_introI (own := RX9) (by decide) rfl (Nat.le_of_ble_eq_true rfl) ?_
  intro p e s m below meth c hC hr
  refine g_cast (L2 := [(0, .ref (ad 0)), (1, .int a1)]) ?_ rfl rfl rfl rfl
  unfold f_X9_draw at h
  refine g_aload_n hC 0 rfl rfl dX9_draw_0 ?_
  refine g_getI hC fF_X9_76 lkC_0_11 dX9_draw_1 ?_
  refine g_istore_n (L2 := [(2, .int (M 0 11)), (0, .ref (ad 0)), (1, .int a1)]) hC rfl (by decide) rfl dX9_draw_4 ?_
  refine g_aload_n hC 1 rfl rfl dX9_draw_5 ?_
  refine g_iload_n hC 2 rfl rfl dX9_draw_6 ?_
  refine g_putI hC fG_X9_76 lkC_0_11 dX9_draw_7 ?_
  refine g_topM (fun M1 hM1 => ?_)
  replace h := gq_l_i hM1 h
  refine g_iload_n hC 0 rfl rfl dX9_draw_10 ?_
  exact g_irets hC hr h dX9_draw_11
def f_X9_now (N : Nat) (M : gq_M) : Option (Int32 × gq_M) :=
  some ((M 0 8), M)
set_option maxHeartbeats 1000000 in
set_option maxRecDepth 20000 in
theorem t_X9_now {l : Launch} {D : va_G} {cI cZ : ClassId} {ad : Nat → Nat} (N : Nat) (M : gq_M) (v9 : Int32) (M9 : gq_M) (h : f_X9_now N  M = some (v9, M9)) : gq_Ci l D cI cZ ad mtC yX9_now cX9_now 1 (some .int) 0 [.ref (ad 0)] M v9 M9 := by
  refine gq_introI (own := RX9) (by decide) rfl (Nat.le_of_ble_eq_true rfl) ?_
  intro p e s m below meth c hC hr
  refine g_cast (L2 := [(0, .ref (ad 0))]) ?_ rfl rfl rfl rfl
  unfold f_X9_now at h
  refine g_aload_n hC 0 rfl rfl dX9_now_0 ?_
  refine g_getI hC fF_X9_65 lkC_0_8 dX9_now_1 ?_
  exact g_irets hC hr h dX9_now_4
def f_X9_day (N : Nat) (M : gq_M) : Option (Int32 × gq_M) :=
  some ((M 0 9), M)
set_option maxHeartbeats 1000000 in
set_option maxRecDepth 20000 in
theorem t_X9_day {l : Launch} {D : va_G} {cI cZ : ClassId} {ad : Nat → Nat} (N : Nat) (M : gq_M) (v9 : Int32) (M9 : gq_M) (h : f_X9_day N  M = some (v9, M9)) : gq_Ci l D cI cZ ad mtC yX9_day cX9_day 1 (some .int) 0 [.ref (ad 0)] M v9 M9 := by
  refine gq_introI (own := RX9) (by decide) rfl (Nat.le_of_ble_eq_true rfl) ?_
  intro p e s m below meth c hC hr
  refine g_cast (L2 := [(0, .ref (ad 0))]) ?_ rfl rfl rfl rfl
  unfold f_X9_day at h
  refine g_aload_n hC 0 rfl rfl dX9_day_0 ?_
  refine g_getI hC fF_X9_69 lkC_0_9 dX9_day_1 ?_
  exact g_irets hC hr h dX9_day_4
def f_X9_isOpen (N : Nat) (M : gq_M) : Option (Int32 × gq_M) :=
  gq_g (gq_bb (M 0 10)) (some ((M 0 10), M))
set_option maxHeartbeats 1000000 in
set_option maxRecDepth 20000 in
theorem t_X9_isOpen {l : Launch} {D : va_G} {cI cZ : ClassId} {ad : Nat → Nat} (N : Nat) (M : gq_M) (v9 : Int32) (M9 : gq_M) (h : f_X9_isOpen N  M = some (v9, M9)) : gq_Ci l D cI cZ ad mtC yX9_isOpen cX9_isOpen 1 (some .boolean) 0 [.ref (ad 0)] M v9 M9 := by
  refine gq_introI (own := RX9) (by decide) rfl (Nat.le_of_ble_eq_true rfl) ?_
  intro p e s m below meth c hC hr
  refine g_cast (L2 := [(0, .ref (ad 0))]) ?_ rfl rfl rfl rfl
  unfold f_X9_isOpen at h
  refine g_aload_n hC 0 rfl rfl dX9_isOpen_0 ?_
  refine g_getI hC fF_X9_72 lkC_0_10 dX9_isOpen_1 ?_
  obtain ⟨g1, h⟩ := gq_g_i h
  exact g_zrets hC hr (gq_bb_i g1) h dX9_isOpen_4
def f_X9_countWaitingBoxes_46 (N : Nat) (kh2 : Int32 → gq_M → Option (Int32 × gq_M)) (x1 : Int32) (M : gq_M) : Option (Int32 × gq_M) :=
  kh2 (x1 + 1) M
set_option maxHeartbeats 1000000 in
set_option maxRecDepth 20000 in
theorem t_X9_countWaitingBoxes_46 {N : Nat} {kh2 : Int32 → gq_M → Option (Int32 × gq_M)} {v9 : Int32} {M9 : gq_M} (hC : gq_C p s m args meth c D A cI cZ ad mtC RX9 cX9_countWaitingBoxes 2) (hr : meth.sig.returnType = none) (hk2 : ∀ (x1 : Int32) (M : gq_M), kh2 x1 M = some (v9, M9) → gq_W p l e (gq_rm 2) s m args below meth c D A cI cZ ad mtC 2 (MQ below (gq_Qv D cI cZ ad mtC M9 A) args s 0 0 A) 2 [(0, .ref (ad 0)), (1, .int x1)] [] M 0 0)  : ∀ (x1 : Int32) (M : gq_M), f_X9_countWaitingBoxes_46 N kh2 x1 M = some (v9, M9) → gq_W p l e (gq_rm 2) s m args below meth c D A cI cZ ad mtC 2 (MQ below (gq_Qv D cI cZ ad mtC M9 A) args s 0 0 A) 46 [(0, .ref (ad 0)), (1, .int x1)] [] M 0 0 := by
  intro x1 M h
  unfold f_X9_countWaitingBoxes_46 at h
  refine g_iinc (v := (x1 + 1)) (L2 := [(1, .int (x1 + 1)), (0, .ref (ad 0))]) hC 1 rfl (by first | rfl | decide) (by decide) rfl dX9_countWaitingBoxes_46 ?_
  refine g_goto (tgt := 2) hC (by decide) dX9_countWaitingBoxes_49 ?_
  exact g_weak [1, 0] rfl (hk2 (x1 + 1) M h)
def f_X9_countWaitingBoxes_2_b (N : Nat) (kh2 : Int32 → gq_M → Option (Int32 × gq_M)) (x1 : Int32) (M : gq_M) : Option (Int32 × gq_M) :=
  if (M 34 13) ≤ x1 then (some (0, M)) else (gq_b (f_X1_isWaiting N x1 M) fun v2 M3 => if v2 = 0 then (f_X9_countWaitingBoxes_46 N kh2 x1 M3) else (gq_b (f_X8_at 36 150 N x1 M3) fun v6 M7 => gq_b (f_X8_add 15 8 N v6 1 M7) fun v9 M10 => f_X9_countWaitingBoxes_46 N kh2 x1 M10))
def f_X9_countWaitingBoxes_2 (N : Nat) : Nat → Int32 → gq_M → Option (Int32 × gq_M)
  | 0 => fun _ _ => none
  | n9 + 1 => f_X9_countWaitingBoxes_2_b N  (f_X9_countWaitingBoxes_2 N  n9)
set_option maxHeartbeats 1000000 in
set_option maxRecDepth 20000 in
theorem t_X9_countWaitingBoxes_2_b {N : Nat} {kh2 : Int32 → gq_M → Option (Int32 × gq_M)} {v9 : Int32} {M9 : gq_M} (hC : gq_C p s m args meth c D A cI cZ ad mtC RX9 cX9_countWaitingBoxes 2) (hr : meth.sig.returnType = none)  (hk2 : ∀ (x1 : Int32) (M : gq_M), kh2 x1 M = some (v9, M9) → gq_W p l e (gq_rm 2) s m args below meth c D A cI cZ ad mtC 2 (MQ below (gq_Qv D cI cZ ad mtC M9 A) args s 0 0 A) 2 [(0, .ref (ad 0)), (1, .int x1)] [] M 0 0) : ∀ (x1 : Int32) (M : gq_M), f_X9_countWaitingBoxes_2_b N  kh2 x1 M = some (v9, M9) → gq_W p l e (gq_rm 2) s m args below meth c D A cI cZ ad mtC 2 (MQ below (gq_Qv D cI cZ ad mtC M9 A) args s 0 0 A) 2 [(0, .ref (ad 0)), (1, .int x1)] [] M 0 0 := by
  intro x1 M h
  unfold f_X9_countWaitingBoxes_2_b at h
  refine g_iload_n hC 1 rfl rfl dX9_countWaitingBoxes_2 ?_
  refine g_aload_n hC 0 rfl rfl dX9_countWaitingBoxes_3 ?_
  refine g_getR hC fF_X9_33 lkC_0_3 dX9_countWaitingBoxes_4 ?_
  refine g_getI hC fF_X9_135 lkC_34_13 dX9_countWaitingBoxes_7 ?_
  refine g_icmp_ge (tgt := 52) hC (by decide) dX9_countWaitingBoxes_10 (fun c1 => ?_) (fun c1 => ?_)
  · replace h := gq_t c1 h
    exact g_vrets hC hr h dX9_countWaitingBoxes_52
  · replace h := gq_f c1 h
    refine g_aload_n hC 0 rfl rfl dX9_countWaitingBoxes_13 ?_
    refine g_getR hC fF_X9_33 lkC_0_3 dX9_countWaitingBoxes_14 ?_
    refine g_iload_n hC 1 rfl rfl dX9_countWaitingBoxes_17 ?_
    obtain ⟨v2, M3, c4, h⟩ := gq_b_i h
    refine g_Vi (as := [.int x1]) hC (t_X1_isWaiting N _ _ _ _ c4) mV_X1_isWaiting  wm_X9_333 obC_34 rfl rfl (Nat.le_of_ble_eq_true rfl) ⟨Nat.le_of_ble_eq_true rfl, Nat.le_of_ble_eq_true rfl⟩ ⟨Nat.zero_le _, Nat.zero_le _⟩ dX9_countWaitingBoxes_18 ?_
    refine g_if_eq (tgt := 46) hC (by decide) dX9_countWaitingBoxes_21 (fun c5 => ?_) (fun c5 => ?_)
    · replace h := gq_t c5 h
      exact g_weak [0, 1] rfl (t_X9_countWaitingBoxes_46 hC hr hk2 x1 M3 h)
    · replace h := gq_f c5 h
      refine g_aload_n hC 0 rfl rfl dX9_countWaitingBoxes_24 ?_
      refine g_getR hC fF_X9_10 lkC_0_0 dX9_countWaitingBoxes_25 ?_
      refine g_getR hC fF_X9_337 lkC_1_6 dX9_countWaitingBoxes_28 ?_
      refine g_aload_n hC 0 rfl rfl dX9_countWaitingBoxes_31 ?_
      refine g_getR hC fF_X9_33 lkC_0_3 dX9_countWaitingBoxes_32 ?_
      refine g_getR hC fF_X9_269 lkC_34_0 dX9_countWaitingBoxes_35 ?_
      refine g_iload_n hC 1 rfl rfl dX9_countWaitingBoxes_38 ?_
      obtain ⟨v6, M7, c8, h⟩ := gq_b_i h
      refine g_Vi (as := [.int x1]) hC (t_X8_at lkC_35_0 arC_36 N _ _ _ _ c8) mV_X8_at  wm_X9_200 obC_35 rfl rfl (Nat.le_of_ble_eq_true rfl) ⟨Nat.le_of_ble_eq_true rfl, Nat.le_of_ble_eq_true rfl⟩ ⟨Nat.zero_le _, Nat.zero_le _⟩ dX9_countWaitingBoxes_39 ?_
      refine g_iconst (v := 1) hC (by decide) dX9_countWaitingBoxes_42 ?_
      obtain ⟨v9, M10, c11, h⟩ := gq_b_i h
      refine g_Vv (as := [.int v6, .int 1]) hC (t_X8_add lkC_14_0 arC_15 N _ _ _ _ _ c11) mV_X8_add  wm_X9_252 obC_14 rfl rfl (Nat.le_of_ble_eq_true rfl) ⟨Nat.le_of_ble_eq_true rfl, Nat.le_of_ble_eq_true rfl⟩ ⟨Nat.zero_le _, Nat.zero_le _⟩ dX9_countWaitingBoxes_43 ?_
      exact g_weak [0, 1] rfl (t_X9_countWaitingBoxes_46 hC hr hk2 x1 M10 h)
theorem t_X9_countWaitingBoxes_2 {N : Nat} {v9 : Int32} {M9 : gq_M} (hC : gq_C p s m args meth c D A cI cZ ad mtC RX9 cX9_countWaitingBoxes 2) (hr : meth.sig.returnType = none)  : ∀ (n9 : Nat) (x1 : Int32) (M : gq_M), f_X9_countWaitingBoxes_2 N  n9 x1 M = some (v9, M9) → gq_W p l e (gq_rm 2) s m args below meth c D A cI cZ ad mtC 2 (MQ below (gq_Qv D cI cZ ad mtC M9 A) args s 0 0 A) 2 [(0, .ref (ad 0)), (1, .int x1)] [] M 0 0 := by
  intro n9
  induction n9 with
  | zero => intro x1 M h; cases h
  | succ n9 ih => intro x1 M h; exact t_X9_countWaitingBoxes_2_b hC hr  ih x1 M h
def f_X9_countWaitingBoxes (N : Nat) (M : gq_M) : Option (Int32 × gq_M) :=
  f_X9_countWaitingBoxes_2 N  N 0 M
set_option maxHeartbeats 1000000 in
set_option maxRecDepth 20000 in
theorem t_X9_countWaitingBoxes {l : Launch} {D : va_G} {cI cZ : ClassId} {ad : Nat → Nat} (N : Nat) (M : gq_M) (v9 : Int32) (M9 : gq_M) (h : f_X9_countWaitingBoxes N  M = some (v9, M9)) : gq_Cv l D cI cZ ad mtC yX9_countWaitingBoxes cX9_countWaitingBoxes 2 2 [.ref (ad 0)] M M9 := by
  refine gq_introV (own := RX9) (by decide) rfl (Nat.le_of_ble_eq_true rfl) ?_
  intro p e s m below meth c hC hr
  refine g_cast (L2 := [(0, .ref (ad 0))]) ?_ rfl rfl rfl rfl
  unfold f_X9_countWaitingBoxes at h
  refine g_iconst (v := 0) hC (by decide) dX9_countWaitingBoxes_0 ?_
  refine g_istore_n (L2 := [(1, .int 0), (0, .ref (ad 0))]) hC rfl (by decide) rfl dX9_countWaitingBoxes_1 ?_
  exact g_weak [1, 0] rfl (t_X9_countWaitingBoxes_2 hC hr  N 0 M h)
def f_X9_offerBoat_219 (N : Nat) (kh143 : Int32 → Int32 → gq_M → Option (Int32 × gq_M)) (x1 : Int32) (x2 : Int32) (M : gq_M) : Option (Int32 × gq_M) :=
  kh143 x1 (x2 + 1) M
set_option maxHeartbeats 1000000 in
set_option maxRecDepth 20000 in
theorem t_X9_offerBoat_219 {N : Nat} {kh143 : Int32 → Int32 → gq_M → Option (Int32 × gq_M)} {v9 : Int32} {M9 : gq_M} (hC : gq_C p s m args meth c D A cI cZ ad mtC RX9 cX9_offerBoat 3) (hr : meth.sig.returnType = none) (hk143 : ∀ (x1 : Int32) (x2 : Int32) (M : gq_M), kh143 x1 x2 M = some (v9, M9) → gq_W p l e (gq_rm 3) s m args below meth c D A cI cZ ad mtC 3 (MQ below (gq_Qv D cI cZ ad mtC M9 A) args s 0 0 A) 143 [(0, .ref (ad 0)), (1, .int x1), (2, .int x2)] [] M 0 0)  : ∀ (x1 : Int32) (x2 : Int32) (M : gq_M), f_X9_offerBoat_219 N kh143 x1 x2 M = some (v9, M9) → gq_W p l e (gq_rm 3) s m args below meth c D A cI cZ ad mtC 3 (MQ below (gq_Qv D cI cZ ad mtC M9 A) args s 0 0 A) 219 [(0, .ref (ad 0)), (1, .int x1), (2, .int x2)] [] M 0 0 := by
  intro x1 x2 M h
  unfold f_X9_offerBoat_219 at h
  refine g_iinc (v := (x2 + 1)) (L2 := [(2, .int (x2 + 1)), (0, .ref (ad 0)), (1, .int x1)]) hC 2 rfl (by first | rfl | decide) (by decide) rfl dX9_offerBoat_219 ?_
  refine g_goto (tgt := 143) hC (by decide) dX9_offerBoat_222 ?_
  exact g_weak [1, 2, 0] rfl (hk143 x1 (x2 + 1) M h)
def f_X9_offerBoat_143_b (N : Nat) (kh143 : Int32 → Int32 → gq_M → Option (Int32 × gq_M)) (x1 : Int32) (x2 : Int32) (M : gq_M) : Option (Int32 × gq_M) :=
  if (M 34 13) ≤ x2 then (some (0, M)) else (gq_b (f_X8_at 36 150 N x2 M) fun v37 M38 => if v37 = x1 then (gq_b (f_X1_isWaiting N x2 M38) fun v41 M42 => if v41 = 0 then (f_X9_offerBoat_219 N kh143 x1 x2 M42) else (gq_b (f_X8_at 38 150 N x2 M42) fun v45 M46 => gq_b (f_X6_addBox N v45 x2 M46) fun v48 M49 => gq_b (f_X8_put 46 150 N x2 v48 M49) fun v51 M52 => gq_b (f_X1_move N x2 2 M52) fun v54 M55 => f_X9_offerBoat_219 N kh143 x1 x2 M55)) else (f_X9_offerBoat_219 N kh143 x1 x2 M38))
def f_X9_offerBoat_143 (N : Nat) : Nat → Int32 → Int32 → gq_M → Option (Int32 × gq_M)
  | 0 => fun _ _ _ => none
  | n9 + 1 => f_X9_offerBoat_143_b N  (f_X9_offerBoat_143 N  n9)
set_option maxHeartbeats 1000000 in
set_option maxRecDepth 20000 in
theorem t_X9_offerBoat_143_b {N : Nat} {kh143 : Int32 → Int32 → gq_M → Option (Int32 × gq_M)} {v9 : Int32} {M9 : gq_M} (hC : gq_C p s m args meth c D A cI cZ ad mtC RX9 cX9_offerBoat 3) (hr : meth.sig.returnType = none)  (hk143 : ∀ (x1 : Int32) (x2 : Int32) (M : gq_M), kh143 x1 x2 M = some (v9, M9) → gq_W p l e (gq_rm 3) s m args below meth c D A cI cZ ad mtC 3 (MQ below (gq_Qv D cI cZ ad mtC M9 A) args s 0 0 A) 143 [(0, .ref (ad 0)), (1, .int x1), (2, .int x2)] [] M 0 0) : ∀ (x1 : Int32) (x2 : Int32) (M : gq_M), f_X9_offerBoat_143_b N  kh143 x1 x2 M = some (v9, M9) → gq_W p l e (gq_rm 3) s m args below meth c D A cI cZ ad mtC 3 (MQ below (gq_Qv D cI cZ ad mtC M9 A) args s 0 0 A) 143 [(0, .ref (ad 0)), (1, .int x1), (2, .int x2)] [] M 0 0 := by
  intro x1 x2 M h
  unfold f_X9_offerBoat_143_b at h
  refine g_iload_n hC 2 rfl rfl dX9_offerBoat_143 ?_
  refine g_aload_n hC 0 rfl rfl dX9_offerBoat_144 ?_
  refine g_getR hC fF_X9_33 lkC_0_3 dX9_offerBoat_145 ?_
  refine g_getI hC fF_X9_135 lkC_34_13 dX9_offerBoat_148 ?_
  refine g_icmp_ge (tgt := 225) hC (by decide) dX9_offerBoat_151 (fun c36 => ?_) (fun c36 => ?_)
  · replace h := gq_t c36 h
    exact g_vrets hC hr h dX9_offerBoat_225
  · replace h := gq_f c36 h
    refine g_aload_n hC 0 rfl rfl dX9_offerBoat_154 ?_
    refine g_getR hC fF_X9_33 lkC_0_3 dX9_offerBoat_155 ?_
    refine g_getR hC fF_X9_269 lkC_34_0 dX9_offerBoat_158 ?_
    refine g_iload_n hC 2 rfl rfl dX9_offerBoat_161 ?_
    obtain ⟨v37, M38, c39, h⟩ := gq_b_i h
    refine g_Vi (as := [.int x2]) hC (t_X8_at lkC_35_0 arC_36 N _ _ _ _ c39) mV_X8_at  wm_X9_200 obC_35 rfl rfl (Nat.le_of_ble_eq_true rfl) ⟨Nat.le_of_ble_eq_true rfl, Nat.le_of_ble_eq_true rfl⟩ ⟨Nat.zero_le _, Nat.zero_le _⟩ dX9_offerBoat_162 ?_
    refine g_iload_n hC 1 rfl rfl dX9_offerBoat_165 ?_
    refine g_icmp_ne (tgt := 219) hC (by decide) dX9_offerBoat_166 (fun c40 => ?_) (fun c40 => ?_)
    · replace h := gq_f c40 h
      exact g_weak [0, 1, 2] rfl (t_X9_offerBoat_219 hC hr hk143 x1 x2 M38 h)
    · replace h := gq_t c40 h
      refine g_aload_n hC 0 rfl rfl dX9_offerBoat_169 ?_
      refine g_getR hC fF_X9_33 lkC_0_3 dX9_offerBoat_170 ?_
      refine g_iload_n hC 2 rfl rfl dX9_offerBoat_173 ?_
      obtain ⟨v41, M42, c43, h⟩ := gq_b_i h
      refine g_Vi (as := [.int x2]) hC (t_X1_isWaiting N _ _ _ _ c43) mV_X1_isWaiting  wm_X9_333 obC_34 rfl rfl (Nat.le_of_ble_eq_true rfl) ⟨Nat.le_of_ble_eq_true rfl, Nat.le_of_ble_eq_true rfl⟩ ⟨Nat.zero_le _, Nat.zero_le _⟩ dX9_offerBoat_174 ?_
      refine g_if_eq (tgt := 219) hC (by decide) dX9_offerBoat_177 (fun c44 => ?_) (fun c44 => ?_)
      · replace h := gq_t c44 h
        exact g_weak [0, 1, 2] rfl (t_X9_offerBoat_219 hC hr hk143 x1 x2 M42 h)
      · replace h := gq_f c44 h
        refine g_aload_n hC 0 rfl rfl dX9_offerBoat_180 ?_
        refine g_getR hC fF_X9_33 lkC_0_3 dX9_offerBoat_181 ?_
        refine g_getR hC fF_X9_191 lkC_34_5 dX9_offerBoat_184 ?_
        refine g_iload_n hC 2 rfl rfl dX9_offerBoat_187 ?_
        refine g_aload_n hC 0 rfl rfl dX9_offerBoat_188 ?_
        refine g_getR hC fF_X9_40 lkC_0_4 dX9_offerBoat_189 ?_
        refine g_aload_n hC 0 rfl rfl dX9_offerBoat_192 ?_
        refine g_getR hC fF_X9_33 lkC_0_3 dX9_offerBoat_193 ?_
        refine g_getR hC fF_X9_279 lkC_34_1 dX9_offerBoat_196 ?_
        refine g_iload_n hC 2 rfl rfl dX9_offerBoat_199 ?_
        obtain ⟨v45, M46, c47, h⟩ := gq_b_i h
        refine g_Vi (as := [.int x2]) hC (t_X8_at lkC_37_0 arC_38 N _ _ _ _ c47) mV_X8_at  wm_X9_200 obC_37 rfl rfl (Nat.le_of_ble_eq_true rfl) ⟨Nat.le_of_ble_eq_true rfl, Nat.le_of_ble_eq_true rfl⟩ ⟨Nat.zero_le _, Nat.zero_le _⟩ dX9_offerBoat_200 ?_
        refine g_iload_n hC 2 rfl rfl dX9_offerBoat_203 ?_
        obtain ⟨v48, M49, c50, h⟩ := gq_b_i h
        refine g_Vi (as := [.int v45, .int x2]) hC (t_X6_addBox N _ _ _ _ _ c50) mV_X6_addBox  wm_X9_356 obC_61 rfl rfl (Nat.le_of_ble_eq_true rfl) ⟨Nat.le_of_ble_eq_true rfl, Nat.le_of_ble_eq_true rfl⟩ ⟨Nat.zero_le _, Nat.zero_le _⟩ dX9_offerBoat_204 ?_
        obtain ⟨v51, M52, c53, h⟩ := gq_b_i h
        refine g_Vv (as := [.int x2, .int v48]) hC (t_X8_put lkC_45_0 arC_46 N _ _ _ _ _ c53) mV_X8_put  wm_X9_104 obC_45 rfl rfl (Nat.le_of_ble_eq_true rfl) ⟨Nat.le_of_ble_eq_true rfl, Nat.le_of_ble_eq_true rfl⟩ ⟨Nat.zero_le _, Nat.zero_le _⟩ dX9_offerBoat_207 ?_
        refine g_aload_n hC 0 rfl rfl dX9_offerBoat_210 ?_
        refine g_getR hC fF_X9_33 lkC_0_3 dX9_offerBoat_211 ?_
        refine g_iload_n hC 2 rfl rfl dX9_offerBoat_214 ?_
        refine g_iconst (v := 2) hC (by decide) dX9_offerBoat_215 ?_
        obtain ⟨v54, M55, c56, h⟩ := gq_b_i h
        refine g_Vv (as := [.int x2, .int 2]) hC (t_X1_move N _ _ _ _ _ c56) mV_X1_move  wm_X9_359 obC_34 rfl rfl (Nat.le_of_ble_eq_true rfl) ⟨Nat.le_of_ble_eq_true rfl, Nat.le_of_ble_eq_true rfl⟩ ⟨Nat.zero_le _, Nat.zero_le _⟩ dX9_offerBoat_216 ?_
        exact g_weak [0, 1, 2] rfl (t_X9_offerBoat_219 hC hr hk143 x1 x2 M55 h)
theorem t_X9_offerBoat_143 {N : Nat} {v9 : Int32} {M9 : gq_M} (hC : gq_C p s m args meth c D A cI cZ ad mtC RX9 cX9_offerBoat 3) (hr : meth.sig.returnType = none)  : ∀ (n9 : Nat) (x1 : Int32) (x2 : Int32) (M : gq_M), f_X9_offerBoat_143 N  n9 x1 x2 M = some (v9, M9) → gq_W p l e (gq_rm 3) s m args below meth c D A cI cZ ad mtC 3 (MQ below (gq_Qv D cI cZ ad mtC M9 A) args s 0 0 A) 143 [(0, .ref (ad 0)), (1, .int x1), (2, .int x2)] [] M 0 0 := by
  intro n9
  induction n9 with
  | zero => intro x1 x2 M h; cases h
  | succ n9 ih => intro x1 x2 M h; exact t_X9_offerBoat_143_b hC hr  ih x1 x2 M h
def f_X9_offerBoat_135 (N : Nat) (kh92 : Int32 → Int32 → gq_M → Option (Int32 × gq_M)) (x1 : Int32) (x2 : Int32) (M : gq_M) : Option (Int32 × gq_M) :=
  kh92 x1 (x2 + 1) M
set_option maxHeartbeats 1000000 in
set_option maxRecDepth 20000 in
theorem t_X9_offerBoat_135 {N : Nat} {kh92 : Int32 → Int32 → gq_M → Option (Int32 × gq_M)} {v9 : Int32} {M9 : gq_M} (hC : gq_C p s m args meth c D A cI cZ ad mtC RX9 cX9_offerBoat 3) (hr : meth.sig.returnType = none) (hk92 : ∀ (x1 : Int32) (x2 : Int32) (M : gq_M), kh92 x1 x2 M = some (v9, M9) → gq_W p l e (gq_rm 3) s m args below meth c D A cI cZ ad mtC 3 (MQ below (gq_Qv D cI cZ ad mtC M9 A) args s 0 0 A) 92 [(0, .ref (ad 0)), (1, .int x1), (2, .int x2)] [] M 0 0)  : ∀ (x1 : Int32) (x2 : Int32) (M : gq_M), f_X9_offerBoat_135 N kh92 x1 x2 M = some (v9, M9) → gq_W p l e (gq_rm 3) s m args below meth c D A cI cZ ad mtC 3 (MQ below (gq_Qv D cI cZ ad mtC M9 A) args s 0 0 A) 135 [(0, .ref (ad 0)), (1, .int x1), (2, .int x2)] [] M 0 0 := by
  intro x1 x2 M h
  unfold f_X9_offerBoat_135 at h
  refine g_iinc (v := (x2 + 1)) (L2 := [(2, .int (x2 + 1)), (0, .ref (ad 0)), (1, .int x1)]) hC 2 rfl (by first | rfl | decide) (by decide) rfl dX9_offerBoat_135 ?_
  refine g_goto (tgt := 92) hC (by decide) dX9_offerBoat_138 ?_
  exact g_weak [1, 2, 0] rfl (hk92 x1 (x2 + 1) M h)
def f_X9_offerBoat_92_b (N : Nat) (kh92 : Int32 → Int32 → gq_M → Option (Int32 × gq_M)) (x1 : Int32) (x2 : Int32) (M : gq_M) : Option (Int32 × gq_M) :=
  if 108 ≤ x2 then (f_X9_offerBoat_143 N  N x1 0 M) else (gq_b (f_X8_at 75 108 N x2 M) fun v23 M24 => if v23 ≤ 0 then (f_X9_offerBoat_135 N kh92 x1 x2 M24) else (gq_b (f_X1_kindOf N x2 M24) fun v27 M28 => gq_b (f_X8_at 22 4 N v27 M28) fun v30 M31 => gq_b (f_X6_add N x1 x2 v30 M31) fun v33 M34 => f_X9_offerBoat_135 N kh92 x1 x2 M34))
def f_X9_offerBoat_92 (N : Nat) : Nat → Int32 → Int32 → gq_M → Option (Int32 × gq_M)
  | 0 => fun _ _ _ => none
  | n9 + 1 => f_X9_offerBoat_92_b N  (f_X9_offerBoat_92 N  n9)
set_option maxHeartbeats 1000000 in
set_option maxRecDepth 20000 in
theorem t_X9_offerBoat_92_b {N : Nat} {kh92 : Int32 → Int32 → gq_M → Option (Int32 × gq_M)} {v9 : Int32} {M9 : gq_M} (hC : gq_C p s m args meth c D A cI cZ ad mtC RX9 cX9_offerBoat 3) (hr : meth.sig.returnType = none)  (hk92 : ∀ (x1 : Int32) (x2 : Int32) (M : gq_M), kh92 x1 x2 M = some (v9, M9) → gq_W p l e (gq_rm 3) s m args below meth c D A cI cZ ad mtC 3 (MQ below (gq_Qv D cI cZ ad mtC M9 A) args s 0 0 A) 92 [(0, .ref (ad 0)), (1, .int x1), (2, .int x2)] [] M 0 0) : ∀ (x1 : Int32) (x2 : Int32) (M : gq_M), f_X9_offerBoat_92_b N  kh92 x1 x2 M = some (v9, M9) → gq_W p l e (gq_rm 3) s m args below meth c D A cI cZ ad mtC 3 (MQ below (gq_Qv D cI cZ ad mtC M9 A) args s 0 0 A) 92 [(0, .ref (ad 0)), (1, .int x1), (2, .int x2)] [] M 0 0 := by
  intro x1 x2 M h
  unfold f_X9_offerBoat_92_b at h
  refine g_iload_n hC 2 rfl rfl dX9_offerBoat_92 ?_
  refine g_bipush (v := 108) hC (by decide) dX9_offerBoat_93 ?_
  refine g_icmp_ge (tgt := 141) hC (by decide) dX9_offerBoat_95 (fun c22 => ?_) (fun c22 => ?_)
  · replace h := gq_t c22 h
    refine g_iconst (v := 0) hC (by decide) dX9_offerBoat_141 ?_
    refine g_istore_n (L2 := [(2, .int 0), (0, .ref (ad 0)), (1, .int x1)]) hC rfl (by decide) rfl dX9_offerBoat_142 ?_
    exact g_weak [1, 2, 0] rfl (t_X9_offerBoat_143 hC hr  N x1 0 M h)
  · replace h := gq_f c22 h
    refine g_aload_n hC 0 rfl rfl dX9_offerBoat_98 ?_
    refine g_getR hC fF_X9_40 lkC_0_4 dX9_offerBoat_99 ?_
    refine g_getR hC fF_X9_351 lkC_61_6 dX9_offerBoat_102 ?_
    refine g_iload_n hC 2 rfl rfl dX9_offerBoat_105 ?_
    obtain ⟨v23, M24, c25, h⟩ := gq_b_i h
    refine g_Vi (as := [.int x2]) hC (t_X8_at lkC_74_0 arC_75 N _ _ _ _ c25) mV_X8_at  wm_X9_200 obC_74 rfl rfl (Nat.le_of_ble_eq_true rfl) ⟨Nat.le_of_ble_eq_true rfl, Nat.le_of_ble_eq_true rfl⟩ ⟨Nat.zero_le _, Nat.zero_le _⟩ dX9_offerBoat_106 ?_
    refine g_if_le (tgt := 135) hC (by decide) dX9_offerBoat_109 (fun c26 => ?_) (fun c26 => ?_)
    · replace h := gq_t c26 h
      exact g_weak [0, 1, 2] rfl (t_X9_offerBoat_135 hC hr hk92 x1 x2 M24 h)
    · replace h := gq_f c26 h
      refine g_aload_n hC 0 rfl rfl dX9_offerBoat_112 ?_
      refine g_getR hC fF_X9_40 lkC_0_4 dX9_offerBoat_113 ?_
      refine g_iload_n hC 1 rfl rfl dX9_offerBoat_116 ?_
      refine g_iload_n hC 2 rfl rfl dX9_offerBoat_117 ?_
      refine g_aload_n hC 0 rfl rfl dX9_offerBoat_118 ?_
      refine g_getR hC fF_X9_19 lkC_0_1 dX9_offerBoat_119 ?_
      refine g_getR hC fF_X9_116 lkC_16_2 dX9_offerBoat_122 ?_
      refine g_iload_n hC 2 rfl rfl dX9_offerBoat_125 ?_
      obtain ⟨v27, M28, c29, h⟩ := gq_b_i h
      refine g_Si (as := [.int x2]) hC (t_X1_kindOf N _ _ _ _ c29) mS_X1_kindOf wm_X9_288 rfl rfl (Nat.le_of_ble_eq_true rfl) ⟨Nat.le_of_ble_eq_true rfl, Nat.le_of_ble_eq_true rfl⟩ ⟨Nat.zero_le _, Nat.zero_le _⟩ dX9_offerBoat_126 ?_
      obtain ⟨v30, M31, c32, h⟩ := gq_b_i h
      refine g_Vi (as := [.int v27]) hC (t_X8_at lkC_21_0 arC_22 N _ _ _ _ c32) mV_X8_at  wm_X9_200 obC_21 rfl rfl (Nat.le_of_ble_eq_true rfl) ⟨Nat.le_of_ble_eq_true rfl, Nat.le_of_ble_eq_true rfl⟩ ⟨Nat.zero_le _, Nat.zero_le _⟩ dX9_offerBoat_129 ?_
      obtain ⟨v33, M34, c35, h⟩ := gq_b_i h
      refine g_Vv (as := [.int x1, .int x2, .int v30]) hC (t_X6_add N _ _ _ _ _ _ c35) mV_X6_add  wm_X9_354 obC_61 rfl rfl (Nat.le_of_ble_eq_true rfl) ⟨Nat.le_of_ble_eq_true rfl, Nat.le_of_ble_eq_true rfl⟩ ⟨Nat.zero_le _, Nat.zero_le _⟩ dX9_offerBoat_132 ?_
      exact g_weak [0, 1, 2] rfl (t_X9_offerBoat_135 hC hr hk92 x1 x2 M34 h)
theorem t_X9_offerBoat_92 {N : Nat} {v9 : Int32} {M9 : gq_M} (hC : gq_C p s m args meth c D A cI cZ ad mtC RX9 cX9_offerBoat 3) (hr : meth.sig.returnType = none)  : ∀ (n9 : Nat) (x1 : Int32) (x2 : Int32) (M : gq_M), f_X9_offerBoat_92 N  n9 x1 x2 M = some (v9, M9) → gq_W p l e (gq_rm 3) s m args below meth c D A cI cZ ad mtC 3 (MQ below (gq_Qv D cI cZ ad mtC M9 A) args s 0 0 A) 92 [(0, .ref (ad 0)), (1, .int x1), (2, .int x2)] [] M 0 0 := by
  intro n9
  induction n9 with
  | zero => intro x1 x2 M h; cases h
  | succ n9 ih => intro x1 x2 M h; exact t_X9_offerBoat_92_b hC hr  ih x1 x2 M h
def f_X9_offerBoat_84 (N : Nat) (kh25 : Int32 → Int32 → gq_M → Option (Int32 × gq_M)) (x1 : Int32) (x2 : Int32) (M : gq_M) : Option (Int32 × gq_M) :=
  kh25 x1 (x2 + 1) M
set_option maxHeartbeats 1000000 in
set_option maxRecDepth 20000 in
theorem t_X9_offerBoat_84 {N : Nat} {kh25 : Int32 → Int32 → gq_M → Option (Int32 × gq_M)} {v9 : Int32} {M9 : gq_M} (hC : gq_C p s m args meth c D A cI cZ ad mtC RX9 cX9_offerBoat 3) (hr : meth.sig.returnType = none) (hk25 : ∀ (x1 : Int32) (x2 : Int32) (M : gq_M), kh25 x1 x2 M = some (v9, M9) → gq_W p l e (gq_rm 3) s m args below meth c D A cI cZ ad mtC 3 (MQ below (gq_Qv D cI cZ ad mtC M9 A) args s 0 0 A) 25 [(0, .ref (ad 0)), (1, .int x1), (2, .int x2)] [] M 0 0)  : ∀ (x1 : Int32) (x2 : Int32) (M : gq_M), f_X9_offerBoat_84 N kh25 x1 x2 M = some (v9, M9) → gq_W p l e (gq_rm 3) s m args below meth c D A cI cZ ad mtC 3 (MQ below (gq_Qv D cI cZ ad mtC M9 A) args s 0 0 A) 84 [(0, .ref (ad 0)), (1, .int x1), (2, .int x2)] [] M 0 0 := by
  intro x1 x2 M h
  unfold f_X9_offerBoat_84 at h
  refine g_iinc (v := (x2 + 1)) (L2 := [(2, .int (x2 + 1)), (0, .ref (ad 0)), (1, .int x1)]) hC 2 rfl (by first | rfl | decide) (by decide) rfl dX9_offerBoat_84 ?_
  refine g_goto (tgt := 25) hC (by decide) dX9_offerBoat_87 ?_
  exact g_weak [1, 2, 0] rfl (hk25 x1 (x2 + 1) M h)
def f_X9_offerBoat_25_b (N : Nat) (kh25 : Int32 → Int32 → gq_M → Option (Int32 × gq_M)) (x1 : Int32) (x2 : Int32) (M : gq_M) : Option (Int32 × gq_M) :=
  if (M 34 13) ≤ x2 then (f_X9_offerBoat_92 N  N x1 0 M) else (gq_b (f_X8_at 36 150 N x2 M) fun v8 M9 => if v8 = x1 then (gq_b (f_X1_isWaiting N x2 M9) fun v12 M13 => if v12 = 0 then (f_X9_offerBoat_84 N kh25 x1 x2 M13) else (gq_b (f_X8_at 38 150 N x2 M13) fun v16 M17 => gq_b (f_X8_add 75 108 N v16 1 M17) fun v19 M20 => f_X9_offerBoat_84 N kh25 x1 x2 M20)) else (f_X9_offerBoat_84 N kh25 x1 x2 M9))
def f_X9_offerBoat_25 (N : Nat) : Nat → Int32 → Int32 → gq_M → Option (Int32 × gq_M)
  | 0 => fun _ _ _ => none
  | n9 + 1 => f_X9_offerBoat_25_b N  (f_X9_offerBoat_25 N  n9)
set_option maxHeartbeats 1000000 in
set_option maxRecDepth 20000 in
theorem t_X9_offerBoat_25_b {N : Nat} {kh25 : Int32 → Int32 → gq_M → Option (Int32 × gq_M)} {v9 : Int32} {M9 : gq_M} (hC : gq_C p s m args meth c D A cI cZ ad mtC RX9 cX9_offerBoat 3) (hr : meth.sig.returnType = none)  (hk25 : ∀ (x1 : Int32) (x2 : Int32) (M : gq_M), kh25 x1 x2 M = some (v9, M9) → gq_W p l e (gq_rm 3) s m args below meth c D A cI cZ ad mtC 3 (MQ below (gq_Qv D cI cZ ad mtC M9 A) args s 0 0 A) 25 [(0, .ref (ad 0)), (1, .int x1), (2, .int x2)] [] M 0 0) : ∀ (x1 : Int32) (x2 : Int32) (M : gq_M), f_X9_offerBoat_25_b N  kh25 x1 x2 M = some (v9, M9) → gq_W p l e (gq_rm 3) s m args below meth c D A cI cZ ad mtC 3 (MQ below (gq_Qv D cI cZ ad mtC M9 A) args s 0 0 A) 25 [(0, .ref (ad 0)), (1, .int x1), (2, .int x2)] [] M 0 0 := by
  intro x1 x2 M h
  unfold f_X9_offerBoat_25_b at h
  refine g_iload_n hC 2 rfl rfl dX9_offerBoat_25 ?_
  refine g_aload_n hC 0 rfl rfl dX9_offerBoat_26 ?_
  refine g_getR hC fF_X9_33 lkC_0_3 dX9_offerBoat_27 ?_
  refine g_getI hC fF_X9_135 lkC_34_13 dX9_offerBoat_30 ?_
  refine g_icmp_ge (tgt := 90) hC (by decide) dX9_offerBoat_33 (fun c7 => ?_) (fun c7 => ?_)
  · replace h := gq_t c7 h
    refine g_iconst (v := 0) hC (by decide) dX9_offerBoat_90 ?_
    refine g_istore_n (L2 := [(2, .int 0), (0, .ref (ad 0)), (1, .int x1)]) hC rfl (by decide) rfl dX9_offerBoat_91 ?_
    exact g_weak [1, 2, 0] rfl (t_X9_offerBoat_92 hC hr  N x1 0 M h)
  · replace h := gq_f c7 h
    refine g_aload_n hC 0 rfl rfl dX9_offerBoat_36 ?_
    refine g_getR hC fF_X9_33 lkC_0_3 dX9_offerBoat_37 ?_
    refine g_getR hC fF_X9_269 lkC_34_0 dX9_offerBoat_40 ?_
    refine g_iload_n hC 2 rfl rfl dX9_offerBoat_43 ?_
    obtain ⟨v8, M9, c10, h⟩ := gq_b_i h
    refine g_Vi (as := [.int x2]) hC (t_X8_at lkC_35_0 arC_36 N _ _ _ _ c10) mV_X8_at  wm_X9_200 obC_35 rfl rfl (Nat.le_of_ble_eq_true rfl) ⟨Nat.le_of_ble_eq_true rfl, Nat.le_of_ble_eq_true rfl⟩ ⟨Nat.zero_le _, Nat.zero_le _⟩ dX9_offerBoat_44 ?_
    refine g_iload_n hC 1 rfl rfl dX9_offerBoat_47 ?_
    refine g_icmp_ne (tgt := 84) hC (by decide) dX9_offerBoat_48 (fun c11 => ?_) (fun c11 => ?_)
    · replace h := gq_f c11 h
      exact g_weak [0, 1, 2] rfl (t_X9_offerBoat_84 hC hr hk25 x1 x2 M9 h)
    · replace h := gq_t c11 h
      refine g_aload_n hC 0 rfl rfl dX9_offerBoat_51 ?_
      refine g_getR hC fF_X9_33 lkC_0_3 dX9_offerBoat_52 ?_
      refine g_iload_n hC 2 rfl rfl dX9_offerBoat_55 ?_
      obtain ⟨v12, M13, c14, h⟩ := gq_b_i h
      refine g_Vi (as := [.int x2]) hC (t_X1_isWaiting N _ _ _ _ c14) mV_X1_isWaiting  wm_X9_333 obC_34 rfl rfl (Nat.le_of_ble_eq_true rfl) ⟨Nat.le_of_ble_eq_true rfl, Nat.le_of_ble_eq_true rfl⟩ ⟨Nat.zero_le _, Nat.zero_le _⟩ dX9_offerBoat_56 ?_
      refine g_if_eq (tgt := 84) hC (by decide) dX9_offerBoat_59 (fun c15 => ?_) (fun c15 => ?_)
      · replace h := gq_t c15 h
        exact g_weak [0, 1, 2] rfl (t_X9_offerBoat_84 hC hr hk25 x1 x2 M13 h)
      · replace h := gq_f c15 h
        refine g_aload_n hC 0 rfl rfl dX9_offerBoat_62 ?_
        refine g_getR hC fF_X9_40 lkC_0_4 dX9_offerBoat_63 ?_
        refine g_getR hC fF_X9_351 lkC_61_6 dX9_offerBoat_66 ?_
        refine g_aload_n hC 0 rfl rfl dX9_offerBoat_69 ?_
        refine g_getR hC fF_X9_33 lkC_0_3 dX9_offerBoat_70 ?_
        refine g_getR hC fF_X9_279 lkC_34_1 dX9_offerBoat_73 ?_
        refine g_iload_n hC 2 rfl rfl dX9_offerBoat_76 ?_
        obtain ⟨v16, M17, c18, h⟩ := gq_b_i h
        refine g_Vi (as := [.int x2]) hC (t_X8_at lkC_37_0 arC_38 N _ _ _ _ c18) mV_X8_at  wm_X9_200 obC_37 rfl rfl (Nat.le_of_ble_eq_true rfl) ⟨Nat.le_of_ble_eq_true rfl, Nat.le_of_ble_eq_true rfl⟩ ⟨Nat.zero_le _, Nat.zero_le _⟩ dX9_offerBoat_77 ?_
        refine g_iconst (v := 1) hC (by decide) dX9_offerBoat_80 ?_
        obtain ⟨v19, M20, c21, h⟩ := gq_b_i h
        refine g_Vv (as := [.int v16, .int 1]) hC (t_X8_add lkC_74_0 arC_75 N _ _ _ _ _ c21) mV_X8_add  wm_X9_252 obC_74 rfl rfl (Nat.le_of_ble_eq_true rfl) ⟨Nat.le_of_ble_eq_true rfl, Nat.le_of_ble_eq_true rfl⟩ ⟨Nat.zero_le _, Nat.zero_le _⟩ dX9_offerBoat_81 ?_
        exact g_weak [0, 1, 2] rfl (t_X9_offerBoat_84 hC hr hk25 x1 x2 M20 h)
theorem t_X9_offerBoat_25 {N : Nat} {v9 : Int32} {M9 : gq_M} (hC : gq_C p s m args meth c D A cI cZ ad mtC RX9 cX9_offerBoat 3) (hr : meth.sig.returnType = none)  : ∀ (n9 : Nat) (x1 : Int32) (x2 : Int32) (M : gq_M), f_X9_offerBoat_25 N  n9 x1 x2 M = some (v9, M9) → gq_W p l e (gq_rm 3) s m args below meth c D A cI cZ ad mtC 3 (MQ below (gq_Qv D cI cZ ad mtC M9 A) args s 0 0 A) 25 [(0, .ref (ad 0)), (1, .int x1), (2, .int x2)] [] M 0 0 := by
  intro n9
  induction n9 with
  | zero => intro x1 x2 M h; cases h
  | succ n9 ih => intro x1 x2 M h; exact t_X9_offerBoat_25_b hC hr  ih x1 x2 M h
def f_X9_offerBoat (N : Nat) (a1 : Int32) (M : gq_M) : Option (Int32 × gq_M) :=
  gq_b (f_X8_put 15 8 N a1 0 M) fun v1 M2 => gq_b (f_X8_fill 75 108 N 0 M2) fun v4 M5 => f_X9_offerBoat_25 N  N a1 0 M5
set_option maxHeartbeats 1000000 in
set_option maxRecDepth 20000 in
theorem t_X9_offerBoat {l : Launch} {D : va_G} {cI cZ : ClassId} {ad : Nat → Nat} (N : Nat) (a1 : Int32) (M : gq_M) (v9 : Int32) (M9 : gq_M) (h : f_X9_offerBoat N a1 M = some (v9, M9)) : gq_Cv l D cI cZ ad mtC yX9_offerBoat cX9_offerBoat 3 3 [.ref (ad 0), .int a1] M M9 := by
  refine gq_introV (own := RX9) (by decide) rfl (Nat.le_of_ble_eq_true rfl) ?_
  intro p e s m below meth c hC hr
  refine g_cast (L2 := [(0, .ref (ad 0)), (1, .int a1)]) ?_ rfl rfl rfl rfl
  unfold f_X9_offerBoat at h
  refine g_aload_n hC 0 rfl rfl dX9_offerBoat_0 ?_
  refine g_getR hC fF_X9_10 lkC_0_0 dX9_offerBoat_1 ?_
  refine g_getR hC fF_X9_337 lkC_1_6 dX9_offerBoat_4 ?_
  refine g_iload_n hC 1 rfl rfl dX9_offerBoat_7 ?_
  refine g_iconst (v := 0) hC (by decide) dX9_offerBoat_8 ?_
  obtain ⟨v1, M2, c3, h⟩ := gq_b_i h
  refine g_Vv (as := [.int a1, .int 0]) hC (t_X8_put lkC_14_0 arC_15 N _ _ _ _ _ c3) mV_X8_put  wm_X9_104 obC_14 rfl rfl (Nat.le_of_ble_eq_true rfl) ⟨Nat.le_of_ble_eq_true rfl, Nat.le_of_ble_eq_true rfl⟩ ⟨Nat.zero_le _, Nat.zero_le _⟩ dX9_offerBoat_9 ?_
  refine g_aload_n hC 0 rfl rfl dX9_offerBoat_12 ?_
  refine g_getR hC fF_X9_40 lkC_0_4 dX9_offerBoat_13 ?_
  refine g_getR hC fF_X9_351 lkC_61_6 dX9_offerBoat_16 ?_
  refine g_iconst (v := 0) hC (by decide) dX9_offerBoat_19 ?_
  obtain ⟨v4, M5, c6, h⟩ := gq_b_i h
  refine g_Vv (as := [.int 0]) hC (t_X8_fill lkC_74_0 arC_75 N _ _ _ _ c6) mV_X8_fill  wm_X9_194 obC_74 rfl rfl (Nat.le_of_ble_eq_true rfl) ⟨Nat.le_of_ble_eq_true rfl, Nat.le_of_ble_eq_true rfl⟩ ⟨Nat.zero_le _, Nat.zero_le _⟩ dX9_offerBoat_20 ?_
  refine g_iconst (v := 0) hC (by decide) dX9_offerBoat_23 ?_
  refine g_istore_n (L2 := [(2, .int 0), (0, .ref (ad 0)), (1, .int a1)]) hC rfl (by decide) rfl dX9_offerBoat_24 ?_
  exact g_weak [1, 2, 0] rfl (t_X9_offerBoat_25 hC hr  N a1 0 M5 h)
def f_X9_offerBoats_9_b (N : Nat) (kh9 : Int32 → Int32 → gq_M → Option (Int32 × gq_M)) (x1 : Int32) (x2 : Int32) (M : gq_M) : Option (Int32 × gq_M) :=
  if x2 ≤ 0 then (some (0, M)) else (gq_l (gq_up M 0 11 (((M 0 11) * 1103515245) + 12345)) fun M5 => gq_l ((((M5 0 11) : Int32).toUInt32 >>> ((16 : Int32).toUInt32 &&& Int32.toUInt32 31)).toInt32) fun v6 => gq_g (gq_nz x2) (gq_b (f_X0_findWaiting N x1 (v6 - v6 / x2 * x2) M5) fun v8 M9 => gq_b (f_X9_offerBoat N v8 M9) fun v11 M12 => kh9 x1 (x2 + (-1)) M12))
def f_X9_offerBoats_9 (N : Nat) : Nat → Int32 → Int32 → gq_M → Option (Int32 × gq_M)
  | 0 => fun _ _ _ => none
  | n9 + 1 => f_X9_offerBoats_9_b N  (f_X9_offerBoats_9 N  n9)
set_option maxHeartbeats 1000000 in
set_option maxRecDepth 20000 in
theorem t_X9_offerBoats_9_b {N : Nat} {kh9 : Int32 → Int32 → gq_M → Option (Int32 × gq_M)} {v9 : Int32} {M9 : gq_M} (hC : gq_C p s m args meth c D A cI cZ ad mtC RX9 cX9_offerBoats 3) (hr : meth.sig.returnType = none)  (hk9 : ∀ (x1 : Int32) (x2 : Int32) (M : gq_M), kh9 x1 x2 M = some (v9, M9) → gq_W p l e (gq_rm 4) s m args below meth c D A cI cZ ad mtC 3 (MQ below (gq_Qv D cI cZ ad mtC M9 A) args s 0 0 A) 9 [(0, .ref (ad 0)), (1, .int x1), (2, .int x2)] [] M 0 0) : ∀ (x1 : Int32) (x2 : Int32) (M : gq_M), f_X9_offerBoats_9_b N  kh9 x1 x2 M = some (v9, M9) → gq_W p l e (gq_rm 4) s m args below meth c D A cI cZ ad mtC 3 (MQ below (gq_Qv D cI cZ ad mtC M9 A) args s 0 0 A) 9 [(0, .ref (ad 0)), (1, .int x1), (2, .int x2)] [] M 0 0 := by
  intro x1 x2 M h
  unfold f_X9_offerBoats_9_b at h
  refine g_iload_n hC 2 rfl rfl dX9_offerBoats_9 ?_
  refine g_if_le (tgt := 56) hC (by decide) dX9_offerBoats_10 (fun c4 => ?_) (fun c4 => ?_)
  · replace h := gq_t c4 h
    exact g_vrets hC hr h dX9_offerBoats_56
  · replace h := gq_f c4 h
    refine g_aload_n hC 0 rfl rfl dX9_offerBoats_13 ?_
    refine g_aload_n hC 0 rfl rfl dX9_offerBoats_14 ?_
    refine g_getI hC fF_X9_76 lkC_0_11 dX9_offerBoats_15 ?_
    refine g_ldcw (v := 1103515245) hC wk_X9_343 dX9_offerBoats_18 ?_
    refine g_imul hC dX9_offerBoats_21 ?_
    refine g_sipush (v := 12345) hC (by decide) dX9_offerBoats_22 ?_
    refine g_iadd hC dX9_offerBoats_25 ?_
    refine g_putI hC fG_X9_76 lkC_0_11 dX9_offerBoats_26 ?_
    refine g_topM (fun M5 hM5 => ?_)
    replace h := gq_l_i hM5 h
    refine g_aload_n hC 0 rfl rfl dX9_offerBoats_29 ?_
    refine g_aload_n hC 0 rfl rfl dX9_offerBoats_30 ?_
    refine g_getR hC fF_X9_10 lkC_0_0 dX9_offerBoats_31 ?_
    refine g_iload_n hC 1 rfl rfl dX9_offerBoats_34 ?_
    refine g_aload_n hC 0 rfl rfl dX9_offerBoats_35 ?_
    refine g_getI hC fF_X9_76 lkC_0_11 dX9_offerBoats_36 ?_
    refine g_bipush (v := 16) hC (by decide) dX9_offerBoats_39 ?_
    refine g_iushr hC dX9_offerBoats_41 ?_
    refine g_topi (fun v6 hv6 => ?_)
    replace h := gq_l_i hv6 h
    refine g_iload_n hC 2 rfl rfl dX9_offerBoats_42 ?_
    obtain ⟨g7, h⟩ := gq_g_i h
    refine g_irem hC (gq_nz_i g7) dX9_offerBoats_43 ?_
    obtain ⟨v8, M9, c10, h⟩ := gq_b_i h
    refine g_Vi (as := [.int x1, .int (v6 - v6 / x2 * x2)]) hC (t_X0_findWaiting N _ _ _ _ _ c10) mV_X0_findWaiting  wm_X9_344 obC_1 rfl rfl (Nat.le_of_ble_eq_true rfl) ⟨Nat.le_of_ble_eq_true rfl, Nat.le_of_ble_eq_true rfl⟩ ⟨Nat.zero_le _, Nat.zero_le _⟩ dX9_offerBoats_44 ?_
    obtain ⟨v11, M12, c13, h⟩ := gq_b_i h
    refine g_Vv (as := [.int v8]) hC (t_X9_offerBoat N _ _ _ _ c13) mV_X9_offerBoat  wm_X9_348 obC_0 rfl rfl (Nat.le_of_ble_eq_true rfl) ⟨Nat.le_of_ble_eq_true rfl, Nat.le_of_ble_eq_true rfl⟩ ⟨Nat.zero_le _, Nat.zero_le _⟩ dX9_offerBoats_47 ?_
    refine g_iinc (v := (x2 + (-1))) (L2 := [(2, .int (x2 + (-1))), (0, .ref (ad 0)), (1, .int x1)]) hC 2 rfl (by first | rfl | decide) (by decide) rfl dX9_offerBoats_50 ?_
    refine g_goto (tgt := 9) hC (by decide) dX9_offerBoats_53 ?_
    exact g_weak [1, 2, 0] rfl (hk9 x1 (x2 + (-1)) M12 h)
theorem t_X9_offerBoats_9 {N : Nat} {v9 : Int32} {M9 : gq_M} (hC : gq_C p s m args meth c D A cI cZ ad mtC RX9 cX9_offerBoats 3) (hr : meth.sig.returnType = none)  : ∀ (n9 : Nat) (x1 : Int32) (x2 : Int32) (M : gq_M), f_X9_offerBoats_9 N  n9 x1 x2 M = some (v9, M9) → gq_W p l e (gq_rm 4) s m args below meth c D A cI cZ ad mtC 3 (MQ below (gq_Qv D cI cZ ad mtC M9 A) args s 0 0 A) 9 [(0, .ref (ad 0)), (1, .int x1), (2, .int x2)] [] M 0 0 := by
  intro n9
  induction n9 with
  | zero => intro x1 x2 M h; cases h
  | succ n9 ih => intro x1 x2 M h; exact t_X9_offerBoats_9_b hC hr  ih x1 x2 M h
def f_X9_offerBoats (N : Nat) (a1 : Int32) (M : gq_M) : Option (Int32 × gq_M) :=
  gq_b (f_X0_countWaiting N a1 M) fun v1 M2 => f_X9_offerBoats_9 N  N a1 v1 M2
set_option maxHeartbeats 1000000 in
set_option maxRecDepth 20000 in
theorem t_X9_offerBoats {l : Launch} {D : va_G} {cI cZ : ClassId} {ad : Nat → Nat} (N : Nat) (a1 : Int32) (M : gq_M) (v9 : Int32) (M9 : gq_M) (h : f_X9_offerBoats N a1 M = some (v9, M9)) : gq_Cv l D cI cZ ad mtC yX9_offerBoats cX9_offerBoats 3 4 [.ref (ad 0), .int a1] M M9 := by
  refine gq_introV (own := RX9) (by decide) rfl (Nat.le_of_ble_eq_true rfl) ?_
  intro p e s m below meth c hC hr
  refine g_cast (L2 := [(0, .ref (ad 0)), (1, .int a1)]) ?_ rfl rfl rfl rfl
  unfold f_X9_offerBoats at h
  refine g_aload_n hC 0 rfl rfl dX9_offerBoats_0 ?_
  refine g_getR hC fF_X9_10 lkC_0_0 dX9_offerBoats_1 ?_
  refine g_iload_n hC 1 rfl rfl dX9_offerBoats_4 ?_
  obtain ⟨v1, M2, c3, h⟩ := gq_b_i h
  refine g_Vi (as := [.int a1]) hC (t_X0_countWaiting N _ _ _ _ c3) mV_X0_countWaiting  wm_X9_340 obC_1 rfl rfl (Nat.le_of_ble_eq_true rfl) ⟨Nat.le_of_ble_eq_true rfl, Nat.le_of_ble_eq_true rfl⟩ ⟨Nat.zero_le _, Nat.zero_le _⟩ dX9_offerBoats_5 ?_
  refine g_istore_n (L2 := [(2, .int v1), (0, .ref (ad 0)), (1, .int a1)]) hC rfl (by decide) rfl dX9_offerBoats_8 ?_
  exact g_weak [1, 2, 0] rfl (t_X9_offerBoats_9 hC hr  N a1 v1 M2 h)
def f_X9_withdraw (N : Nat) (a1 : Int32) (M : gq_M) : Option (Int32 × gq_M) :=
  gq_b (f_X8_at 36 150 N a1 M) fun v1 M2 => gq_b (f_X8_at 40 150 N a1 M2) fun v4 M5 => gq_b (f_X8_at 9 8 N v1 M5) fun v7 M8 => if v7 < v4 then (gq_b (f_X1_canBeCarried N a1 M8) fun v11 M12 => if v11 = 0 then (gq_b (f_X1_move N a1 7 M12) fun v15 M16 => some (0, M16)) else (gq_b (f_X1_move N a1 6 M12) fun v18 M19 => gq_b (f_X1_age N a1 M19) fun v21 M22 => some (0, M22))) else (gq_b (f_X8_add 9 8 N v1 (-v4) M8) fun v24 M25 => gq_b (f_X8_add 13 8 N v1 (v4 * 20) M25) fun v27 M28 => gq_b (f_X1_move N a1 5 M28) fun v30 M31 => some (0, M31))
set_option maxHeartbeats 1000000 in
set_option maxRecDepth 20000 in
theorem t_X9_withdraw {l : Launch} {D : va_G} {cI cZ : ClassId} {ad : Nat → Nat} (N : Nat) (a1 : Int32) (M : gq_M) (v9 : Int32) (M9 : gq_M) (h : f_X9_withdraw N a1 M = some (v9, M9)) : gq_Cv l D cI cZ ad mtC yX9_withdraw cX9_withdraw 4 2 [.ref (ad 0), .int a1] M M9 := by
  refine gq_introV (own := RX9) (by decide) rfl (Nat.le_of_ble_eq_true rfl) ?_
  intro p e s m below meth c hC hr
  refine g_cast (L2 := [(0, .ref (ad 0)), (1, .int a1)]) ?_ rfl rfl rfl rfl
  unfold f_X9_withdraw at h
  refine g_aload_n hC 0 rfl rfl dX9_withdraw_0 ?_
  refine g_getR hC fF_X9_33 lkC_0_3 dX9_withdraw_1 ?_
  refine g_getR hC fF_X9_269 lkC_34_0 dX9_withdraw_4 ?_
  refine g_iload_n hC 1 rfl rfl dX9_withdraw_7 ?_
  obtain ⟨v1, M2, c3, h⟩ := gq_b_i h
  refine g_Vi (as := [.int a1]) hC (t_X8_at lkC_35_0 arC_36 N _ _ _ _ c3) mV_X8_at  wm_X9_200 obC_35 rfl rfl (Nat.le_of_ble_eq_true rfl) ⟨Nat.le_of_ble_eq_true rfl, Nat.le_of_ble_eq_true rfl⟩ ⟨Nat.zero_le _, Nat.zero_le _⟩ dX9_withdraw_8 ?_
  refine g_istore_n (L2 := [(2, .int v1), (0, .ref (ad 0)), (1, .int a1)]) hC rfl (by decide) rfl dX9_withdraw_11 ?_
  refine g_aload_n hC 1 rfl rfl dX9_withdraw_12 ?_
  refine g_getR hC fF_X9_33 lkC_0_3 dX9_withdraw_13 ?_
  refine g_getR hC fF_X9_307 lkC_34_2 dX9_withdraw_16 ?_
  refine g_iload_n hC 2 rfl rfl dX9_withdraw_19 ?_
  obtain ⟨v4, M5, c6, h⟩ := gq_b_i h
  refine g_Vi (as := [.int a1]) hC (t_X8_at lkC_39_0 arC_40 N _ _ _ _ c6) mV_X8_at  wm_X9_200 obC_39 rfl rfl (Nat.le_of_ble_eq_true rfl) ⟨Nat.le_of_ble_eq_true rfl, Nat.le_of_ble_eq_true rfl⟩ ⟨Nat.zero_le _, Nat.zero_le _⟩ dX9_withdraw_20 ?_
  refine g_istore_n (L2 := [(3, .int v4), (2, .int v1), (0, .ref (ad 0)), (1, .int a1)]) hC rfl (by decide) rfl dX9_withdraw_23 ?_
  refine g_aload_n hC 2 rfl rfl dX9_withdraw_24 ?_
  refine g_getR hC fF_X9_10 lkC_0_0 dX9_withdraw_25 ?_
  refine g_getR hC fF_X9_107 lkC_1_3 dX9_withdraw_28 ?_
  refine g_iload_n hC 1 rfl rfl dX9_withdraw_31 ?_
  obtain ⟨v7, M8, c9, h⟩ := gq_b_i h
  refine g_Vi (as := [.int v1]) hC (t_X8_at lkC_8_0 arC_9 N _ _ _ _ c9) mV_X8_at  wm_X9_200 obC_8 rfl rfl (Nat.le_of_ble_eq_true rfl) ⟨Nat.le_of_ble_eq_true rfl, Nat.le_of_ble_eq_true rfl⟩ ⟨Nat.zero_le _, Nat.zero_le _⟩ dX9_withdraw_32 ?_
  refine g_iload_n hC 0 rfl rfl dX9_withdraw_35 ?_
  refine g_icmp_lt (tgt := 79) hC (by decide) dX9_withdraw_36 (fun c10 => ?_) (fun c10 => ?_)
  · replace h := gq_t c10 h
    refine g_aload_n hC 2 rfl rfl dX9_withdraw_79 ?_
    refine g_getR hC fF_X9_33 lkC_0_3 dX9_withdraw_80 ?_
    refine g_iload_n hC 3 rfl rfl dX9_withdraw_83 ?_
    obtain ⟨v11, M12, c13, h⟩ := gq_b_i h
    refine g_Vi (as := [.int a1]) hC (t_X1_canBeCarried N _ _ _ _ c13) mV_X1_canBeCarried  wm_X9_411 obC_34 rfl rfl (Nat.le_of_ble_eq_true rfl) ⟨Nat.le_of_ble_eq_true rfl, Nat.le_of_ble_eq_true rfl⟩ ⟨Nat.zero_le _, Nat.zero_le _⟩ dX9_withdraw_84 ?_
    refine g_if_eq (tgt := 111) hC (by decide) dX9_withdraw_87 (fun c14 => ?_) (fun c14 => ?_)
    · replace h := gq_t c14 h
      refine g_aload_n hC 2 rfl rfl dX9_withdraw_111 ?_
      refine g_getR hC fF_X9_33 lkC_0_3 dX9_withdraw_112 ?_
      refine g_iload_n hC 3 rfl rfl dX9_withdraw_115 ?_
      refine g_bipush (v := 7) hC (by decide) dX9_withdraw_116 ?_
      obtain ⟨v15, M16, c17, h⟩ := gq_b_i h
      refine g_Vv (as := [.int a1, .int 7]) hC (t_X1_move N _ _ _ _ _ c17) mV_X1_move  wm_X9_359 obC_34 rfl rfl (Nat.le_of_ble_eq_true rfl) ⟨Nat.le_of_ble_eq_true rfl, Nat.le_of_ble_eq_true rfl⟩ ⟨Nat.zero_le _, Nat.zero_le _⟩ dX9_withdraw_118 ?_
      exact g_vrets hC hr h dX9_withdraw_121
    · replace h := gq_f c14 h
      refine g_aload_n hC 2 rfl rfl dX9_withdraw_90 ?_
      refine g_getR hC fF_X9_33 lkC_0_3 dX9_withdraw_91 ?_
      refine g_iload_n hC 3 rfl rfl dX9_withdraw_94 ?_
      refine g_bipush (v := 6) hC (by decide) dX9_withdraw_95 ?_
      obtain ⟨v18, M19, c20, h⟩ := gq_b_i h
      refine g_Vv (as := [.int a1, .int 6]) hC (t_X1_move N _ _ _ _ _ c20) mV_X1_move  wm_X9_359 obC_34 rfl rfl (Nat.le_of_ble_eq_true rfl) ⟨Nat.le_of_ble_eq_true rfl, Nat.le_of_ble_eq_true rfl⟩ ⟨Nat.zero_le _, Nat.zero_le _⟩ dX9_withdraw_97 ?_
      refine g_aload_n hC 2 rfl rfl dX9_withdraw_100 ?_
      refine g_getR hC fF_X9_33 lkC_0_3 dX9_withdraw_101 ?_
      refine g_iload_n hC 3 rfl rfl dX9_withdraw_104 ?_
      obtain ⟨v21, M22, c23, h⟩ := gq_b_i h
      refine g_Vv (as := [.int a1]) hC (t_X1_age N _ _ _ _ c23) mV_X1_age  wm_X9_414 obC_34 rfl rfl (Nat.le_of_ble_eq_true rfl) ⟨Nat.le_of_ble_eq_true rfl, Nat.le_of_ble_eq_true rfl⟩ ⟨Nat.zero_le _, Nat.zero_le _⟩ dX9_withdraw_105 ?_
      refine g_goto (tgt := 121) hC (by decide) dX9_withdraw_108 ?_
      exact g_vrets hC hr h dX9_withdraw_121
  · replace h := gq_f c10 h
    refine g_aload_n hC 2 rfl rfl dX9_withdraw_39 ?_
    refine g_getR hC fF_X9_10 lkC_0_0 dX9_withdraw_40 ?_
    refine g_getR hC fF_X9_107 lkC_1_3 dX9_withdraw_43 ?_
    refine g_iload_n hC 1 rfl rfl dX9_withdraw_46 ?_
    refine g_iload_n hC 0 rfl rfl dX9_withdraw_47 ?_
    refine g_ineg hC dX9_withdraw_48 ?_
    obtain ⟨v24, M25, c26, h⟩ := gq_b_i h
    refine g_Vv (as := [.int v1, .int (-v4)]) hC (t_X8_add lkC_8_0 arC_9 N _ _ _ _ _ c26) mV_X8_add  wm_X9_252 obC_8 rfl rfl (Nat.le_of_ble_eq_true rfl) ⟨Nat.le_of_ble_eq_true rfl, Nat.le_of_ble_eq_true rfl⟩ ⟨Nat.zero_le _, Nat.zero_le _⟩ dX9_withdraw_49 ?_
    refine g_aload_n hC 2 rfl rfl dX9_withdraw_52 ?_
    refine g_getR hC fF_X9_10 lkC_0_0 dX9_withdraw_53 ?_
    refine g_getR hC fF_X9_266 lkC_1_5 dX9_withdraw_56 ?_
    refine g_iload_n hC 1 rfl rfl dX9_withdraw_59 ?_
    refine g_iload_n hC 0 rfl rfl dX9_withdraw_60 ?_
    refine g_bipush (v := 20) hC (by decide) dX9_withdraw_61 ?_
    refine g_imul hC dX9_withdraw_63 ?_
    obtain ⟨v27, M28, c29, h⟩ := gq_b_i h
    refine g_Vv (as := [.int v1, .int (v4 * 20)]) hC (t_X8_add lkC_12_0 arC_13 N _ _ _ _ _ c29) mV_X8_add  wm_X9_252 obC_12 rfl rfl (Nat.le_of_ble_eq_true rfl) ⟨Nat.le_of_ble_eq_true rfl, Nat.le_of_ble_eq_true rfl⟩ ⟨Nat.zero_le _, Nat.zero_le _⟩ dX9_withdraw_64 ?_
    refine g_aload_n hC 2 rfl rfl dX9_withdraw_67 ?_
    refine g_getR hC fF_X9_33 lkC_0_3 dX9_withdraw_68 ?_
    refine g_iload_n hC 3 rfl rfl dX9_withdraw_71 ?_
    refine g_iconst (v := 5) hC (by decide) dX9_withdraw_72 ?_
    obtain ⟨v30, M31, c32, h⟩ := gq_b_i h
    refine g_Vv (as := [.int a1, .int 5]) hC (t_X1_move N _ _ _ _ _ c32) mV_X1_move  wm_X9_359 obC_34 rfl rfl (Nat.le_of_ble_eq_true rfl) ⟨Nat.le_of_ble_eq_true rfl, Nat.le_of_ble_eq_true rfl⟩ ⟨Nat.zero_le _, Nat.zero_le _⟩ dX9_withdraw_73 ?_
    refine g_goto (tgt := 121) hC (by decide) dX9_withdraw_76 ?_
    exact g_vrets hC hr h dX9_withdraw_121
def f_X9_withdrawRest_11_b (N : Nat) (kh11 : Int32 → Int32 → Int32 → gq_M → Option (Int32 × gq_M)) (x1 : Int32) (x2 : Int32) (x3 : Int32) (M : gq_M) : Option (Int32 × gq_M) :=
  if x2 ≤ x3 then (gq_b (f_X8_add 69 150 N x1 x2 M) fun v5 M6 => some (x2, M6)) else (gq_b (f_X6_boxAt N x1 x3 M) fun v8 M9 => gq_b (f_X9_withdraw N v8 M9) fun v11 M12 => kh11 x1 x2 (x3 + 1) M12)
def f_X9_withdrawRest_11 (N : Nat) : Nat → Int32 → Int32 → Int32 → gq_M → Option (Int32 × gq_M)
  | 0 => fun _ _ _ _ => none
  | n9 + 1 => f_X9_withdrawRest_11_b N  (f_X9_withdrawRest_11 N  n9)
set_option maxHeartbeats 1000000 in
set_option maxRecDepth 20000 in
theorem t_X9_withdrawRest_11_b {N : Nat} {kh11 : Int32 → Int32 → Int32 → gq_M → Option (Int32 × gq_M)} {v9 : Int32} {M9 : gq_M} (hC : gq_C p s m args meth c D A cI cZ ad mtC RX9 cX9_withdrawRest 4) (hr : meth.sig.returnType = (some .int))  (hk11 : ∀ (x1 : Int32) (x2 : Int32) (x3 : Int32) (M : gq_M), kh11 x1 x2 x3 M = some (v9, M9) → gq_W p l e (gq_rm 3) s m args below meth c D A cI cZ ad mtC 4 (MQ below (gq_Qi D cI cZ ad mtC v9 M9 A) args s 0 0 A) 11 [(0, .ref (ad 0)), (1, .int x1), (2, .int x2), (3, .int x3)] [] M 0 0) : ∀ (x1 : Int32) (x2 : Int32) (x3 : Int32) (M : gq_M), f_X9_withdrawRest_11_b N  kh11 x1 x2 x3 M = some (v9, M9) → gq_W p l e (gq_rm 3) s m args below meth c D A cI cZ ad mtC 4 (MQ below (gq_Qi D cI cZ ad mtC v9 M9 A) args s 0 0 A) 11 [(0, .ref (ad 0)), (1, .int x1), (2, .int x2), (3, .int x3)] [] M 0 0 := by
  intro x1 x2 x3 M h
  unfold f_X9_withdrawRest_11_b at h
  refine g_iload_n hC 3 rfl rfl dX9_withdrawRest_11 ?_
  refine g_iload_n hC 2 rfl rfl dX9_withdrawRest_12 ?_
  refine g_icmp_ge (tgt := 35) hC (by decide) dX9_withdrawRest_13 (fun c4 => ?_) (fun c4 => ?_)
  · replace h := gq_t c4 h
    refine g_aload_n hC 0 rfl rfl dX9_withdrawRest_35 ?_
    refine g_getR hC fF_X9_40 lkC_0_4 dX9_withdrawRest_36 ?_
    refine g_getR hC fF_X9_405 lkC_61_3 dX9_withdrawRest_39 ?_
    refine g_iload_n hC 1 rfl rfl dX9_withdrawRest_42 ?_
    refine g_iload_n hC 2 rfl rfl dX9_withdrawRest_43 ?_
    obtain ⟨v5, M6, c7, h⟩ := gq_b_i h
    refine g_Vv (as := [.int x1, .int x2]) hC (t_X8_add lkC_68_0 arC_69 N _ _ _ _ _ c7) mV_X8_add  wm_X9_252 obC_68 rfl rfl (Nat.le_of_ble_eq_true rfl) ⟨Nat.le_of_ble_eq_true rfl, Nat.le_of_ble_eq_true rfl⟩ ⟨Nat.zero_le _, Nat.zero_le _⟩ dX9_withdrawRest_44 ?_
    refine g_iload_n hC 2 rfl rfl dX9_withdrawRest_47 ?_
    exact g_irets hC hr h dX9_withdrawRest_48
  · replace h := gq_f c4 h
    refine g_aload_n hC 0 rfl rfl dX9_withdrawRest_16 ?_
    refine g_aload_n hC 0 rfl rfl dX9_withdrawRest_17 ?_
    refine g_getR hC fF_X9_40 lkC_0_4 dX9_withdrawRest_18 ?_
    refine g_iload_n hC 1 rfl rfl dX9_withdrawRest_21 ?_
    refine g_iload_n hC 3 rfl rfl dX9_withdrawRest_22 ?_
    obtain ⟨v8, M9, c10, h⟩ := gq_b_i h
    refine g_Vi (as := [.int x1, .int x3]) hC (t_X6_boxAt N _ _ _ _ _ c10) mV_X6_boxAt  wm_X9_389 obC_61 rfl rfl (Nat.le_of_ble_eq_true rfl) ⟨Nat.le_of_ble_eq_true rfl, Nat.le_of_ble_eq_true rfl⟩ ⟨Nat.zero_le _, Nat.zero_le _⟩ dX9_withdrawRest_23 ?_
    obtain ⟨v11, M12, c13, h⟩ := gq_b_i h
    refine g_Vv (as := [.int v8]) hC (t_X9_withdraw N _ _ _ _ c13) mV_X9_withdraw  wm_X9_408 obC_0 rfl rfl (Nat.le_of_ble_eq_true rfl) ⟨Nat.le_of_ble_eq_true rfl, Nat.le_of_ble_eq_true rfl⟩ ⟨Nat.zero_le _, Nat.zero_le _⟩ dX9_withdrawRest_26 ?_
    refine g_iinc (v := (x3 + 1)) (L2 := [(3, .int (x3 + 1)), (0, .ref (ad 0)), (1, .int x1), (2, .int x2)]) hC 3 rfl (by first | rfl | decide) (by decide) rfl dX9_withdrawRest_29 ?_
    refine g_goto (tgt := 11) hC (by decide) dX9_withdrawRest_32 ?_
    exact g_weak [1, 2, 3, 0] rfl (hk11 x1 x2 (x3 + 1) M12 h)
theorem t_X9_withdrawRest_11 {N : Nat} {v9 : Int32} {M9 : gq_M} (hC : gq_C p s m args meth c D A cI cZ ad mtC RX9 cX9_withdrawRest 4) (hr : meth.sig.returnType = (some .int))  : ∀ (n9 : Nat) (x1 : Int32) (x2 : Int32) (x3 : Int32) (M : gq_M), f_X9_withdrawRest_11 N  n9 x1 x2 x3 M = some (v9, M9) → gq_W p l e (gq_rm 3) s m args below meth c D A cI cZ ad mtC 4 (MQ below (gq_Qi D cI cZ ad mtC v9 M9 A) args s 0 0 A) 11 [(0, .ref (ad 0)), (1, .int x1), (2, .int x2), (3, .int x3)] [] M 0 0 := by
  intro n9
  induction n9 with
  | zero => intro x1 x2 x3 M h; cases h
  | succ n9 ih => intro x1 x2 x3 M h; exact t_X9_withdrawRest_11_b hC hr  ih x1 x2 x3 M h
def f_X9_withdrawRest (N : Nat) (a1 : Int32) (M : gq_M) : Option (Int32 × gq_M) :=
  gq_b (f_X6_left N a1 M) fun v1 M2 => f_X9_withdrawRest_11 N  N a1 v1 0 M2
set_option maxHeartbeats 1000000 in
set_option maxRecDepth 20000 in
theorem t_X9_withdrawRest {l : Launch} {D : va_G} {cI cZ : ClassId} {ad : Nat → Nat} (N : Nat) (a1 : Int32) (M : gq_M) (v9 : Int32) (M9 : gq_M) (h : f_X9_withdrawRest N a1 M = some (v9, M9)) : gq_Ci l D cI cZ ad mtC yX9_withdrawRest cX9_withdrawRest 4 (some .int) 3 [.ref (ad 0), .int a1] M v9 M9 := by
  refine gq_introI (own := RX9) (by decide) rfl (Nat.le_of_ble_eq_true rfl) ?_
  intro p e s m below meth c hC hr
  refine g_cast (L2 := [(0, .ref (ad 0)), (1, .int a1)]) ?_ rfl rfl rfl rfl
  unfold f_X9_withdrawRest at h
  refine g_aload_n hC 0 rfl rfl dX9_withdrawRest_0 ?_
  refine g_getR hC fF_X9_40 lkC_0_4 dX9_withdrawRest_1 ?_
  refine g_iload_n hC 1 rfl rfl dX9_withdrawRest_4 ?_
  obtain ⟨v1, M2, c3, h⟩ := gq_b_i h
  refine g_Vi (as := [.int a1]) hC (t_X6_left N _ _ _ _ c3) mV_X6_left  wm_X9_217 obC_61 rfl rfl (Nat.le_of_ble_eq_true rfl) ⟨Nat.le_of_ble_eq_true rfl, Nat.le_of_ble_eq_true rfl⟩ ⟨Nat.zero_le _, Nat.zero_le _⟩ dX9_withdrawRest_5 ?_
  refine g_istore_n (L2 := [(2, .int v1), (0, .ref (ad 0)), (1, .int a1)]) hC rfl (by decide) rfl dX9_withdrawRest_8 ?_
  refine g_iconst (v := 0) hC (by decide) dX9_withdrawRest_9 ?_
  refine g_istore_n (L2 := [(3, .int 0), (2, .int v1), (0, .ref (ad 0)), (1, .int a1)]) hC rfl (by decide) rfl dX9_withdrawRest_10 ?_
  exact g_weak [2, 3, 1, 0] rfl (t_X9_withdrawRest_11 hC hr  N a1 v1 0 M2 h)
def f_X9_bringToClock_53 (N : Nat) (s1 : Int32) (s2 : Int32) (M : gq_M) : Option (Int32 × gq_M) :=
  gq_b (f_X8_put 82 3 N s1 s2 M) fun v14 M15 => some (0, M15)
set_option maxHeartbeats 1000000 in
set_option maxRecDepth 20000 in
theorem t_X9_bringToClock_53 {N : Nat} {v9 : Int32} {M9 : gq_M} (hC : gq_C p s m args meth c D A cI cZ ad mtC RX9 cX9_bringToClock 3) (hr : meth.sig.returnType = none)   : ∀ (s1 : Int32) (s2 : Int32) (M : gq_M), f_X9_bringToClock_53 N  s1 s2 M = some (v9, M9) → gq_W p l e (gq_rm 1) s m args below meth c D A cI cZ ad mtC 3 (MQ below (gq_Qv D cI cZ ad mtC M9 A) args s 0 0 A) 53 [] [.int s2, .int s1, .ref (ad 81)] M 0 0 := by
  intro s1 s2 M h
  unfold f_X9_bringToClock_53 at h
  obtain ⟨v14, M15, c16, h⟩ := gq_b_i h
  refine g_Vv (as := [.int s1, .int s2]) hC (t_X8_put lkC_81_0 arC_82 N _ _ _ _ _ c16) mV_X8_put  wm_X9_104 obC_81 rfl rfl (Nat.le_of_ble_eq_true rfl) ⟨Nat.le_of_ble_eq_true rfl, Nat.le_of_ble_eq_true rfl⟩ ⟨Nat.zero_le _, Nat.zero_le _⟩ dX9_bringToClock_53 ?_
  exact g_vrets hC hr h dX9_bringToClock_56
def f_X9_bringToClock (N : Nat) (a1 : Int32) (a2 : Int32) (M : gq_M) : Option (Int32 × gq_M) :=
  gq_b (f_X8_put 80 3 N a1 a2 M) fun v1 M2 => if a2 = (-1) then (f_X9_bringToClock_53 N  a1 0 M2) else (gq_b (f_X8_at 65 150 N a2 M2) fun v5 M6 => gq_b (f_X1_kindOf N v5 M6) fun v8 M9 => gq_b (f_X8_at 18 4 N v8 M9) fun v11 M12 => f_X9_bringToClock_53 N  a1 v11 M12)
set_option maxHeartbeats 1000000 in
set_option maxRecDepth 20000 in
theorem t_X9_bringToClock {l : Launch} {D : va_G} {cI cZ : ClassId} {ad : Nat → Nat} (N : Nat) (a1 : Int32) (a2 : Int32) (M : gq_M) (v9 : Int32) (M9 : gq_M) (h : f_X9_bringToClock N a1 a2 M = some (v9, M9)) : gq_Cv l D cI cZ ad mtC yX9_bringToClock cX9_bringToClock 3 1 [.ref (ad 0), .int a1, .int a2] M M9 := by
  refine gq_introV (own := RX9) (by decide) rfl (Nat.le_of_ble_eq_true rfl) ?_
  intro p e s m below meth c hC hr
  refine g_cast (L2 := [(0, .ref (ad 0)), (1, .int a1), (2, .int a2)]) ?_ rfl rfl rfl rfl
  unfold f_X9_bringToClock at h
  refine g_aload_n hC 0 rfl rfl dX9_bringToClock_0 ?_
  refine g_getR hC fF_X9_47 lkC_0_5 dX9_bringToClock_1 ?_
  refine g_getR hC fF_X9_216 lkC_76_1 dX9_bringToClock_4 ?_
  refine g_iload_n hC 1 rfl rfl dX9_bringToClock_7 ?_
  refine g_iload_n hC 2 rfl rfl dX9_bringToClock_8 ?_
  obtain ⟨v1, M2, c3, h⟩ := gq_b_i h
  refine g_Vv (as := [.int a1, .int a2]) hC (t_X8_put lkC_79_0 arC_80 N _ _ _ _ _ c3) mV_X8_put  wm_X9_104 obC_79 rfl rfl (Nat.le_of_ble_eq_true rfl) ⟨Nat.le_of_ble_eq_true rfl, Nat.le_of_ble_eq_true rfl⟩ ⟨Nat.zero_le _, Nat.zero_le _⟩ dX9_bringToClock_9 ?_
  refine g_aload_n hC 0 rfl rfl dX9_bringToClock_12 ?_
  refine g_getR hC fF_X9_47 lkC_0_5 dX9_bringToClock_13 ?_
  refine g_getR hC fF_X9_206 lkC_76_2 dX9_bringToClock_16 ?_
  refine g_iload_n hC 1 rfl rfl dX9_bringToClock_19 ?_
  refine g_iload_n hC 2 rfl rfl dX9_bringToClock_20 ?_
  refine g_iconst (v := (-1)) hC (by decide) dX9_bringToClock_21 ?_
  refine g_icmp_ne (tgt := 29) hC (by decide) dX9_bringToClock_22 (fun c4 => ?_) (fun c4 => ?_)
  · replace h := gq_f c4 h
    refine g_aload_n hC 0 rfl rfl dX9_bringToClock_29 ?_
    refine g_getR hC fF_X9_19 lkC_0_1 dX9_bringToClock_30 ?_
    refine g_getR hC fF_X9_110 lkC_16_0 dX9_bringToClock_33 ?_
    refine g_aload_n hC 0 rfl rfl dX9_bringToClock_36 ?_
    refine g_getR hC fF_X9_40 lkC_0_4 dX9_bringToClock_37 ?_
    refine g_getR hC fF_X9_287 lkC_61_1 dX9_bringToClock_40 ?_
    refine g_iload_n hC 2 rfl rfl dX9_bringToClock_43 ?_
    obtain ⟨v5, M6, c7, h⟩ := gq_b_i h
    refine g_Vi (as := [.int a2]) hC (t_X8_at lkC_64_0 arC_65 N _ _ _ _ c7) mV_X8_at  wm_X9_200 obC_64 rfl rfl (Nat.le_of_ble_eq_true rfl) ⟨Nat.le_of_ble_eq_true rfl, Nat.le_of_ble_eq_true rfl⟩ ⟨Nat.zero_le _, Nat.zero_le _⟩ dX9_bringToClock_44 ?_
    obtain ⟨v8, M9, c10, h⟩ := gq_b_i h
    refine g_Si (as := [.int v5]) hC (t_X1_kindOf N _ _ _ _ c10) mS_X1_kindOf wm_X9_288 rfl rfl (Nat.le_of_ble_eq_true rfl) ⟨Nat.le_of_ble_eq_true rfl, Nat.le_of_ble_eq_true rfl⟩ ⟨Nat.zero_le _, Nat.zero_le _⟩ dX9_bringToClock_47 ?_
    obtain ⟨v11, M12, c13, h⟩ := gq_b_i h
    refine g_Vi (as := [.int v8]) hC (t_X8_at lkC_17_0 arC_18 N _ _ _ _ c13) mV_X8_at  wm_X9_200 obC_17 rfl rfl (Nat.le_of_ble_eq_true rfl) ⟨Nat.le_of_ble_eq_true rfl, Nat.le_of_ble_eq_true rfl⟩ ⟨Nat.zero_le _, Nat.zero_le _⟩ dX9_bringToClock_50 ?_
    exact g_weak [] rfl (t_X9_bringToClock_53 hC hr  a1 v11 M12 h)
  · replace h := gq_t c4 h
    refine g_iconst (v := 0) hC (by decide) dX9_bringToClock_25 ?_
    refine g_goto (tgt := 53) hC (by decide) dX9_bringToClock_26 ?_
    exact g_weak [] rfl (t_X9_bringToClock_53 hC hr  a1 0 M2 h)
def f_X9_beginRound_28 (N : Nat) (x1 : Int32) (s1 : Int32) (s2 : Int32) (M : gq_M) : Option (Int32 × gq_M) :=
  gq_b (f_X8_put 78 3 N s1 s2 M) fun v5 M6 => gq_b (f_X8_put 84 3 N x1 (-1) M6) fun v8 M9 => gq_b (f_X7_forget N x1 M9) fun v11 M12 => some (0, M12)
set_option maxHeartbeats 1000000 in
set_option maxRecDepth 20000 in
theorem t_X9_beginRound_28 {N : Nat} {v9 : Int32} {M9 : gq_M} (hC : gq_C p s m args meth c D A cI cZ ad mtC RX9 cX9_beginRound 2) (hr : meth.sig.returnType = none)   : ∀ (x1 : Int32) (s1 : Int32) (s2 : Int32) (M : gq_M), f_X9_beginRound_28 N  x1 s1 s2 M = some (v9, M9) → gq_W p l e (gq_rm 2) s m args below meth c D A cI cZ ad mtC 2 (MQ below (gq_Qv D cI cZ ad mtC M9 A) args s 0 0 A) 28 [(0, .ref (ad 0)), (1, .int x1)] [.int s2, .int s1, .ref (ad 77)] M 0 0 := by
  intro x1 s1 s2 M h
  unfold f_X9_beginRound_28 at h
  obtain ⟨v5, M6, c7, h⟩ := gq_b_i h
  refine g_Vv (as := [.int s1, .int s2]) hC (t_X8_put lkC_77_0 arC_78 N _ _ _ _ _ c7) mV_X8_put  wm_X9_104 obC_77 rfl rfl (Nat.le_of_ble_eq_true rfl) ⟨Nat.le_of_ble_eq_true rfl, Nat.le_of_ble_eq_true rfl⟩ ⟨Nat.zero_le _, Nat.zero_le _⟩ dX9_beginRound_28 ?_
  refine g_aload_n hC 0 rfl rfl dX9_beginRound_31 ?_
  refine g_getR hC fF_X9_47 lkC_0_5 dX9_beginRound_32 ?_
  refine g_getR hC fF_X9_213 lkC_76_3 dX9_beginRound_35 ?_
  refine g_iload_n hC 1 rfl rfl dX9_beginRound_38 ?_
  refine g_iconst (v := (-1)) hC (by decide) dX9_beginRound_39 ?_
  obtain ⟨v8, M9, c10, h⟩ := gq_b_i h
  refine g_Vv (as := [.int x1, .int (-1)]) hC (t_X8_put lkC_83_0 arC_84 N _ _ _ _ _ c10) mV_X8_put  wm_X9_104 obC_83 rfl rfl (Nat.le_of_ble_eq_true rfl) ⟨Nat.le_of_ble_eq_true rfl, Nat.le_of_ble_eq_true rfl⟩ ⟨Nat.zero_le _, Nat.zero_le _⟩ dX9_beginRound_40 ?_
  refine g_aload_n hC 0 rfl rfl dX9_beginRound_43 ?_
  refine g_getR hC fF_X9_54 lkC_0_6 dX9_beginRound_44 ?_
  refine g_iload_n hC 1 rfl rfl dX9_beginRound_47 ?_
  obtain ⟨v11, M12, c13, h⟩ := gq_b_i h
  refine g_Vv (as := [.int x1]) hC (t_X7_forget N _ _ _ _ c13) mV_X7_forget  wm_X9_399 obC_93 rfl rfl (Nat.le_of_ble_eq_true rfl) ⟨Nat.le_of_ble_eq_true rfl, Nat.le_of_ble_eq_true rfl⟩ ⟨Nat.zero_le _, Nat.zero_le _⟩ dX9_beginRound_48 ?_
  exact g_vrets hC hr h dX9_beginRound_51
def f_X9_beginRound (N : Nat) (a1 : Int32) (M : gq_M) : Option (Int32 × gq_M) :=
  gq_b (f_X8_at 80 3 N a1 M) fun v1 M2 => if v1 = (-1) then (f_X9_beginRound_28 N  a1 a1 0 M2) else (f_X9_beginRound_28 N  a1 a1 1 M2)
set_option maxHeartbeats 1000000 in
set_option maxRecDepth 20000 in
theorem t_X9_beginRound {l : Launch} {D : va_G} {cI cZ : ClassId} {ad : Nat → Nat} (N : Nat) (a1 : Int32) (M : gq_M) (v9 : Int32) (M9 : gq_M) (h : f_X9_beginRound N a1 M = some (v9, M9)) : gq_Cv l D cI cZ ad mtC yX9_beginRound cX9_beginRound 2 2 [.ref (ad 0), .int a1] M M9 := by
  refine gq_introV (own := RX9) (by decide) rfl (Nat.le_of_ble_eq_true rfl) ?_
  intro p e s m below meth c hC hr
  refine g_cast (L2 := [(0, .ref (ad 0)), (1, .int a1)]) ?_ rfl rfl rfl rfl
  unfold f_X9_beginRound at h
  refine g_aload_n hC 0 rfl rfl dX9_beginRound_0 ?_
  refine g_getR hC fF_X9_47 lkC_0_5 dX9_beginRound_1 ?_
  refine g_getR hC fF_X9_197 lkC_76_0 dX9_beginRound_4 ?_
  refine g_iload_n hC 1 rfl rfl dX9_beginRound_7 ?_
  refine g_aload_n hC 0 rfl rfl dX9_beginRound_8 ?_
  refine g_getR hC fF_X9_47 lkC_0_5 dX9_beginRound_9 ?_
  refine g_getR hC fF_X9_216 lkC_76_1 dX9_beginRound_12 ?_
  refine g_iload_n hC 1 rfl rfl dX9_beginRound_15 ?_
  obtain ⟨v1, M2, c3, h⟩ := gq_b_i h
  refine g_Vi (as := [.int a1]) hC (t_X8_at lkC_79_0 arC_80 N _ _ _ _ c3) mV_X8_at  wm_X9_200 obC_79 rfl rfl (Nat.le_of_ble_eq_true rfl) ⟨Nat.le_of_ble_eq_true rfl, Nat.le_of_ble_eq_true rfl⟩ ⟨Nat.zero_le _, Nat.zero_le _⟩ dX9_beginRound_16 ?_
  refine g_iconst (v := (-1)) hC (by decide) dX9_beginRound_19 ?_
  refine g_icmp_ne (tgt := 27) hC (by decide) dX9_beginRound_20 (fun c4 => ?_) (fun c4 => ?_)
  · replace h := gq_f c4 h
    refine g_iconst (v := 1) hC (by decide) dX9_beginRound_27 ?_
    exact g_weak [0, 1] rfl (t_X9_beginRound_28 hC hr  a1 a1 1 M2 h)
  · replace h := gq_t c4 h
    refine g_iconst (v := 0) hC (by decide) dX9_beginRound_23 ?_
    refine g_goto (tgt := 28) hC (by decide) dX9_beginRound_24 ?_
    exact g_weak [0, 1] rfl (t_X9_beginRound_28 hC hr  a1 a1 0 M2 h)
def f_X9_goOn_49 (N : Nat) (x1 : Int32) (M : gq_M) : Option (Int32 × gq_M) :=
  gq_b (f_X9_beginRound N x1 M) fun v17 M18 => some (0, M18)
set_option maxHeartbeats 1000000 in
set_option maxRecDepth 20000 in
theorem t_X9_goOn_49 {N : Nat} {v9 : Int32} {M9 : gq_M} (hC : gq_C p s m args meth c D A cI cZ ad mtC RX9 cX9_goOn 3) (hr : meth.sig.returnType = none)   : ∀ (x1 : Int32) (M : gq_M), f_X9_goOn_49 N  x1 M = some (v9, M9) → gq_W p l e (gq_rm 3) s m args below meth c D A cI cZ ad mtC 3 (MQ below (gq_Qv D cI cZ ad mtC M9 A) args s 0 0 A) 49 [(0, .ref (ad 0)), (1, .int x1)] [] M 0 0 := by
  intro x1 M h
  unfold f_X9_goOn_49 at h
  refine g_aload_n hC 0 rfl rfl dX9_goOn_49 ?_
  refine g_iload_n hC 1 rfl rfl dX9_goOn_50 ?_
  obtain ⟨v17, M18, c19, h⟩ := gq_b_i h
  refine g_Vv (as := [.int x1]) hC (t_X9_beginRound N _ _ _ _ c19) mV_X9_beginRound  wm_X9_180 obC_0 rfl rfl (Nat.le_of_ble_eq_true rfl) ⟨Nat.le_of_ble_eq_true rfl, Nat.le_of_ble_eq_true rfl⟩ ⟨Nat.zero_le _, Nat.zero_le _⟩ dX9_goOn_51 ?_
  exact g_vrets hC hr h dX9_goOn_54
def f_X9_goOn (N : Nat) (a1 : Int32) (M : gq_M) : Option (Int32 × gq_M) :=
  gq_b (f_X8_at 80 3 N a1 M) fun v1 M2 => gq_b (f_X6_left N v1 M2) fun v4 M5 => if v4 = 0 then (gq_b (f_X8_add 86 3 N a1 (-1) M5) fun v8 M9 => gq_b (f_X6_nextIn N a1 v1 M9) fun v11 M12 => gq_b (f_X9_bringToClock N a1 v11 M12) fun v14 M15 => f_X9_goOn_49 N  a1 M15) else (f_X9_goOn_49 N  a1 M5)
set_option maxHeartbeats 1000000 in
set_option maxRecDepth 20000 in
theorem t_X9_goOn {l : Launch} {D : va_G} {cI cZ : ClassId} {ad : Nat → Nat} (N : Nat) (a1 : Int32) (M : gq_M) (v9 : Int32) (M9 : gq_M) (h : f_X9_goOn N a1 M = some (v9, M9)) : gq_Cv l D cI cZ ad mtC yX9_goOn cX9_goOn 3 3 [.ref (ad 0), .int a1] M M9 := by
  refine gq_introV (own := RX9) (by decide) rfl (Nat.le_of_ble_eq_true rfl) ?_
  intro p e s m below meth c hC hr
  refine g_cast (L2 := [(0, .ref (ad 0)), (1, .int a1)]) ?_ rfl rfl rfl rfl
  unfold f_X9_goOn at h
  refine g_aload_n hC 0 rfl rfl dX9_goOn_0 ?_
  refine g_getR hC fF_X9_47 lkC_0_5 dX9_goOn_1 ?_
  refine g_getR hC fF_X9_216 lkC_76_1 dX9_goOn_4 ?_
  refine g_iload_n hC 1 rfl rfl dX9_goOn_7 ?_
  obtain ⟨v1, M2, c3, h⟩ := gq_b_i h
  refine g_Vi (as := [.int a1]) hC (t_X8_at lkC_79_0 arC_80 N _ _ _ _ c3) mV_X8_at  wm_X9_200 obC_79 rfl rfl (Nat.le_of_ble_eq_true rfl) ⟨Nat.le_of_ble_eq_true rfl, Nat.le_of_ble_eq_true rfl⟩ ⟨Nat.zero_le _, Nat.zero_le _⟩ dX9_goOn_8 ?_
  refine g_istore_n (L2 := [(2, .int v1), (0, .ref (ad 0)), (1, .int a1)]) hC rfl (by decide) rfl dX9_goOn_11 ?_
  refine g_aload_n hC 1 rfl rfl dX9_goOn_12 ?_
  refine g_getR hC fF_X9_40 lkC_0_4 dX9_goOn_13 ?_
  refine g_iload_n hC 0 rfl rfl dX9_goOn_16 ?_
  obtain ⟨v4, M5, c6, h⟩ := gq_b_i h
  refine g_Vi (as := [.int v1]) hC (t_X6_left N _ _ _ _ c6) mV_X6_left  wm_X9_217 obC_61 rfl rfl (Nat.le_of_ble_eq_true rfl) ⟨Nat.le_of_ble_eq_true rfl, Nat.le_of_ble_eq_true rfl⟩ ⟨Nat.zero_le _, Nat.zero_le _⟩ dX9_goOn_17 ?_
  refine g_if_ne (tgt := 49) hC (by decide) dX9_goOn_20 (fun c7 => ?_) (fun c7 => ?_)
  · replace h := gq_f c7 h
    exact g_weak [1, 2] rfl (t_X9_goOn_49 hC hr  a1 M5 h)
  · replace h := gq_t c7 h
    refine g_aload_n hC 1 rfl rfl dX9_goOn_23 ?_
    refine g_getR hC fF_X9_47 lkC_0_5 dX9_goOn_24 ?_
    refine g_getR hC fF_X9_167 lkC_76_4 dX9_goOn_27 ?_
    refine g_iload_n hC 2 rfl rfl dX9_goOn_30 ?_
    refine g_iconst (v := (-1)) hC (by decide) dX9_goOn_31 ?_
    obtain ⟨v8, M9, c10, h⟩ := gq_b_i h
    refine g_Vv (as := [.int a1, .int (-1)]) hC (t_X8_add lkC_85_0 arC_86 N _ _ _ _ _ c10) mV_X8_add  wm_X9_252 obC_85 rfl rfl (Nat.le_of_ble_eq_true rfl) ⟨Nat.le_of_ble_eq_true rfl, Nat.le_of_ble_eq_true rfl⟩ ⟨Nat.zero_le _, Nat.zero_le _⟩ dX9_goOn_32 ?_
    refine g_aload_n hC 1 rfl rfl dX9_goOn_35 ?_
    refine g_iload_n hC 2 rfl rfl dX9_goOn_36 ?_
    refine g_aload_n hC 1 rfl rfl dX9_goOn_37 ?_
    refine g_getR hC fF_X9_40 lkC_0_4 dX9_goOn_38 ?_
    refine g_iload_n hC 2 rfl rfl dX9_goOn_41 ?_
    refine g_iload_n hC 0 rfl rfl dX9_goOn_42 ?_
    obtain ⟨v11, M12, c13, h⟩ := gq_b_i h
    refine g_Vi (as := [.int a1, .int v1]) hC (t_X6_nextIn N _ _ _ _ _ c13) mV_X6_nextIn  wm_X9_174 obC_61 rfl rfl (Nat.le_of_ble_eq_true rfl) ⟨Nat.le_of_ble_eq_true rfl, Nat.le_of_ble_eq_true rfl⟩ ⟨Nat.zero_le _, Nat.zero_le _⟩ dX9_goOn_43 ?_
    obtain ⟨v14, M15, c16, h⟩ := gq_b_i h
    refine g_Vv (as := [.int a1, .int v11]) hC (t_X9_bringToClock N _ _ _ _ _ c16) mV_X9_bringToClock  wm_X9_177 obC_0 rfl rfl (Nat.le_of_ble_eq_true rfl) ⟨Nat.le_of_ble_eq_true rfl, Nat.le_of_ble_eq_true rfl⟩ ⟨Nat.zero_le _, Nat.zero_le _⟩ dX9_goOn_46 ?_
    exact g_weak [1, 2] rfl (t_X9_goOn_49 hC hr  a1 M15 h)
def f_X9_tickFalling (N : Nat) (a1 : Int32) (M : gq_M) : Option (Int32 × gq_M) :=
  gq_b (f_X7_isAnyHeard N a1 (M 0 8) M) fun v1 M2 => if v1 = 0 then (gq_b (f_X8_at 90 3 N a1 M2) fun v5 M6 => gq_b (f_X8_add 82 3 N a1 (-v5) M6) fun v8 M9 => gq_b (f_X8_at 80 3 N a1 M9) fun v11 M12 => gq_b (f_X8_at 82 3 N a1 M12) fun v14 M15 => gq_b (f_X8_at 65 150 N v11 M15) fun v17 M18 => gq_b (f_X4_minimumOf N v17 M18) fun v20 M21 => if v20 ≤ v14 then (some (0, M21)) else (gq_b (f_X9_withdrawRest N v11 M21) fun v24 M25 => gq_b (f_X9_goOn N a1 M25) fun v27 M28 => some (0, M28))) else (gq_b (f_X8_put 78 3 N a1 2 M2) fun v30 M31 => gq_b (f_X2_greatestDelay N  M31) fun v33 M34 => gq_b (f_X8_put 88 3 N a1 ((M31 0 8) + v33) M34) fun v36 M37 => some (0, M37))
set_option maxHeartbeats 1000000 in
set_option maxRecDepth 20000 in
theorem t_X9_tickFalling {l : Launch} {D : va_G} {cI cZ : ClassId} {ad : Nat → Nat} (N : Nat) (a1 : Int32) (M : gq_M) (v9 : Int32) (M9 : gq_M) (h : f_X9_tickFalling N a1 M = some (v9, M9)) : gq_Cv l D cI cZ ad mtC yX9_tickFalling cX9_tickFalling 3 4 [.ref (ad 0), .int a1] M M9 := by
  refine gq_introV (own := RX9) (by decide) rfl (Nat.le_of_ble_eq_true rfl) ?_
  intro p e s m below meth c hC hr
  refine g_cast (L2 := [(0, .ref (ad 0)), (1, .int a1)]) ?_ rfl rfl rfl rfl
  unfold f_X9_tickFalling at h
  refine g_aload_n hC 0 rfl rfl dX9_tickFalling_0 ?_
  refine g_getR hC fF_X9_54 lkC_0_6 dX9_tickFalling_1 ?_
  refine g_iload_n hC 1 rfl rfl dX9_tickFalling_4 ?_
  refine g_aload_n hC 0 rfl rfl dX9_tickFalling_5 ?_
  refine g_getI hC fF_X9_65 lkC_0_8 dX9_tickFalling_6 ?_
  obtain ⟨v1, M2, c3, h⟩ := gq_b_i h
  refine g_Vi (as := [.int a1, .int (M 0 8)]) hC (t_X7_isAnyHeard N _ _ _ _ _ c3) mV_X7_isAnyHeard  wm_X9_371 obC_93 rfl rfl (Nat.le_of_ble_eq_true rfl) ⟨Nat.le_of_ble_eq_true rfl, Nat.le_of_ble_eq_true rfl⟩ ⟨Nat.zero_le _, Nat.zero_le _⟩ dX9_tickFalling_9 ?_
  refine g_if_eq (tgt := 51) hC (by decide) dX9_tickFalling_12 (fun c4 => ?_) (fun c4 => ?_)
  · replace h := gq_t c4 h
    refine g_aload_n hC 0 rfl rfl dX9_tickFalling_51 ?_
    refine g_getR hC fF_X9_47 lkC_0_5 dX9_tickFalling_52 ?_
    refine g_getR hC fF_X9_206 lkC_76_2 dX9_tickFalling_55 ?_
    refine g_iload_n hC 1 rfl rfl dX9_tickFalling_58 ?_
    refine g_aload_n hC 0 rfl rfl dX9_tickFalling_59 ?_
    refine g_getR hC fF_X9_47 lkC_0_5 dX9_tickFalling_60 ?_
    refine g_getR hC fF_X9_119 lkC_76_6 dX9_tickFalling_63 ?_
    refine g_iload_n hC 1 rfl rfl dX9_tickFalling_66 ?_
    obtain ⟨v5, M6, c7, h⟩ := gq_b_i h
    refine g_Vi (as := [.int a1]) hC (t_X8_at lkC_89_0 arC_90 N _ _ _ _ c7) mV_X8_at  wm_X9_200 obC_89 rfl rfl (Nat.le_of_ble_eq_true rfl) ⟨Nat.le_of_ble_eq_true rfl, Nat.le_of_ble_eq_true rfl⟩ ⟨Nat.zero_le _, Nat.zero_le _⟩ dX9_tickFalling_67 ?_
    refine g_ineg hC dX9_tickFalling_70 ?_
    obtain ⟨v8, M9, c10, h⟩ := gq_b_i h
    refine g_Vv (as := [.int a1, .int (-v5)]) hC (t_X8_add lkC_81_0 arC_82 N _ _ _ _ _ c10) mV_X8_add  wm_X9_252 obC_81 rfl rfl (Nat.le_of_ble_eq_true rfl) ⟨Nat.le_of_ble_eq_true rfl, Nat.le_of_ble_eq_true rfl⟩ ⟨Nat.zero_le _, Nat.zero_le _⟩ dX9_tickFalling_71 ?_
    refine g_aload_n hC 0 rfl rfl dX9_tickFalling_74 ?_
    refine g_getR hC fF_X9_47 lkC_0_5 dX9_tickFalling_75 ?_
    refine g_getR hC fF_X9_216 lkC_76_1 dX9_tickFalling_78 ?_
    refine g_iload_n hC 1 rfl rfl dX9_tickFalling_81 ?_
    obtain ⟨v11, M12, c13, h⟩ := gq_b_i h
    refine g_Vi (as := [.int a1]) hC (t_X8_at lkC_79_0 arC_80 N _ _ _ _ c13) mV_X8_at  wm_X9_200 obC_79 rfl rfl (Nat.le_of_ble_eq_true rfl) ⟨Nat.le_of_ble_eq_true rfl, Nat.le_of_ble_eq_true rfl⟩ ⟨Nat.zero_le _, Nat.zero_le _⟩ dX9_tickFalling_82 ?_
    refine g_istore_n (L2 := [(2, .int v11), (0, .ref (ad 0)), (1, .int a1)]) hC rfl (by decide) rfl dX9_tickFalling_85 ?_
    refine g_aload_n hC 1 rfl rfl dX9_tickFalling_86 ?_
    refine g_getR hC fF_X9_47 lkC_0_5 dX9_tickFalling_87 ?_
    refine g_getR hC fF_X9_206 lkC_76_2 dX9_tickFalling_90 ?_
    refine g_iload_n hC 2 rfl rfl dX9_tickFalling_93 ?_
    obtain ⟨v14, M15, c16, h⟩ := gq_b_i h
    refine g_Vi (as := [.int a1]) hC (t_X8_at lkC_81_0 arC_82 N _ _ _ _ c16) mV_X8_at  wm_X9_200 obC_81 rfl rfl (Nat.le_of_ble_eq_true rfl) ⟨Nat.le_of_ble_eq_true rfl, Nat.le_of_ble_eq_true rfl⟩ ⟨Nat.zero_le _, Nat.zero_le _⟩ dX9_tickFalling_94 ?_
    refine g_aload_n hC 1 rfl rfl dX9_tickFalling_97 ?_
    refine g_getR hC fF_X9_19 lkC_0_1 dX9_tickFalling_98 ?_
    refine g_aload_n hC 1 rfl rfl dX9_tickFalling_101 ?_
    refine g_getR hC fF_X9_40 lkC_0_4 dX9_tickFalling_102 ?_
    refine g_getR hC fF_X9_287 lkC_61_1 dX9_tickFalling_105 ?_
    refine g_iload_n hC 0 rfl rfl dX9_tickFalling_108 ?_
    obtain ⟨v17, M18, c19, h⟩ := gq_b_i h
    refine g_Vi (as := [.int v11]) hC (t_X8_at lkC_64_0 arC_65 N _ _ _ _ c19) mV_X8_at  wm_X9_200 obC_64 rfl rfl (Nat.le_of_ble_eq_true rfl) ⟨Nat.le_of_ble_eq_true rfl, Nat.le_of_ble_eq_true rfl⟩ ⟨Nat.zero_le _, Nat.zero_le _⟩ dX9_tickFalling_109 ?_
    obtain ⟨v20, M21, c22, h⟩ := gq_b_i h
    refine g_Vi (as := [.int v17]) hC (t_X4_minimumOf N _ _ _ _ c22) mV_X4_minimumOf  wm_X9_380 obC_16 rfl rfl (Nat.le_of_ble_eq_true rfl) ⟨Nat.le_of_ble_eq_true rfl, Nat.le_of_ble_eq_true rfl⟩ ⟨Nat.zero_le _, Nat.zero_le _⟩ dX9_tickFalling_112 ?_
    refine g_icmp_ge (tgt := 129) hC (by decide) dX9_tickFalling_115 (fun c23 => ?_) (fun c23 => ?_)
    · replace h := gq_t c23 h
      exact g_vrets hC hr h dX9_tickFalling_129
    · replace h := gq_f c23 h
      refine g_aload_n hC 1 rfl rfl dX9_tickFalling_118 ?_
      refine g_iload_n hC 0 rfl rfl dX9_tickFalling_119 ?_
      obtain ⟨v24, M25, c26, h⟩ := gq_b_i h
      refine g_Vi (as := [.int v11]) hC (t_X9_withdrawRest N _ _ _ _ c26) mV_X9_withdrawRest  wm_X9_185 obC_0 rfl rfl (Nat.le_of_ble_eq_true rfl) ⟨Nat.le_of_ble_eq_true rfl, Nat.le_of_ble_eq_true rfl⟩ ⟨Nat.zero_le _, Nat.zero_le _⟩ dX9_tickFalling_120 ?_
      refine g_pop hC rfl dX9_tickFalling_123 ?_
      refine g_aload_n hC 1 rfl rfl dX9_tickFalling_124 ?_
      refine g_iload_n hC 2 rfl rfl dX9_tickFalling_125 ?_
      obtain ⟨v27, M28, c29, h⟩ := gq_b_i h
      refine g_Vv (as := [.int a1]) hC (t_X9_goOn N _ _ _ _ c29) mV_X9_goOn  wm_X9_229 obC_0 rfl rfl (Nat.le_of_ble_eq_true rfl) ⟨Nat.le_of_ble_eq_true rfl, Nat.le_of_ble_eq_true rfl⟩ ⟨Nat.zero_le _, Nat.zero_le _⟩ dX9_tickFalling_126 ?_
      exact g_vrets hC hr h dX9_tickFalling_129
  · replace h := gq_f c4 h
    refine g_aload_n hC 0 rfl rfl dX9_tickFalling_15 ?_
    refine g_getR hC fF_X9_47 lkC_0_5 dX9_tickFalling_16 ?_
    refine g_getR hC fF_X9_197 lkC_76_0 dX9_tickFalling_19 ?_
    refine g_iload_n hC 1 rfl rfl dX9_tickFalling_22 ?_
    refine g_iconst (v := 2) hC (by decide) dX9_tickFalling_23 ?_
    obtain ⟨v30, M31, c32, h⟩ := gq_b_i h
    refine g_Vv (as := [.int a1, .int 2]) hC (t_X8_put lkC_77_0 arC_78 N _ _ _ _ _ c32) mV_X8_put  wm_X9_104 obC_77 rfl rfl (Nat.le_of_ble_eq_true rfl) ⟨Nat.le_of_ble_eq_true rfl, Nat.le_of_ble_eq_true rfl⟩ ⟨Nat.zero_le _, Nat.zero_le _⟩ dX9_tickFalling_24 ?_
    refine g_aload_n hC 0 rfl rfl dX9_tickFalling_27 ?_
    refine g_getR hC fF_X9_47 lkC_0_5 dX9_tickFalling_28 ?_
    refine g_getR hC fF_X9_374 lkC_76_5 dX9_tickFalling_31 ?_
    refine g_iload_n hC 1 rfl rfl dX9_tickFalling_34 ?_
    refine g_aload_n hC 0 rfl rfl dX9_tickFalling_35 ?_
    refine g_getI hC fF_X9_65 lkC_0_8 dX9_tickFalling_36 ?_
    refine g_aload_n hC 0 rfl rfl dX9_tickFalling_39 ?_
    refine g_getR hC fF_X9_26 lkC_0_2 dX9_tickFalling_40 ?_
    obtain ⟨v33, M34, c35, h⟩ := gq_b_i h
    refine g_Vi (as := []) hC (t_X2_greatestDelay N  _ _ _ c35) mV_X2_greatestDelay  wm_X9_377 obC_23 rfl rfl (Nat.le_of_ble_eq_true rfl) ⟨Nat.le_of_ble_eq_true rfl, Nat.le_of_ble_eq_true rfl⟩ ⟨Nat.zero_le _, Nat.zero_le _⟩ dX9_tickFalling_43 ?_
    refine g_iadd hC dX9_tickFalling_46 ?_
    obtain ⟨v36, M37, c38, h⟩ := gq_b_i h
    refine g_Vv (as := [.int a1, .int ((M31 0 8) + v33)]) hC (t_X8_put lkC_87_0 arC_88 N _ _ _ _ _ c38) mV_X8_put  wm_X9_104 obC_87 rfl rfl (Nat.le_of_ble_eq_true rfl) ⟨Nat.le_of_ble_eq_true rfl, Nat.le_of_ble_eq_true rfl⟩ ⟨Nat.zero_le _, Nat.zero_le _⟩ dX9_tickFalling_47 ?_
    exact g_vrets hC hr h dX9_tickFalling_50
def f_X9_findWinner_111 (N : Nat) (kh35 : Int32 → Int32 → Int32 → Int32 → gq_M → Option (Int32 × gq_M)) (x1 : Int32) (x2 : Int32) (x3 : Int32) (x4 : Int32) (M : gq_M) : Option (Int32 × gq_M) :=
  kh35 x1 x2 x3 (x4 + 1) M
set_option maxHeartbeats 1000000 in
set_option maxRecDepth 20000 in
theorem t_X9_findWinner_111 {N : Nat} {kh35 : Int32 → Int32 → Int32 → Int32 → gq_M → Option (Int32 × gq_M)} {v9 : Int32} {M9 : gq_M} (hC : gq_C p s m args meth c D A cI cZ ad mtC RX9 cX9_findWinner 5) (hr : meth.sig.returnType = (some .int)) (hk35 : ∀ (x1 : Int32) (x2 : Int32) (x3 : Int32) (x4 : Int32) (M : gq_M), kh35 x1 x2 x3 x4 M = some (v9, M9) → gq_W p l e (gq_rm 3) s m args below meth c D A cI cZ ad mtC 5 (MQ below (gq_Qi D cI cZ ad mtC v9 M9 A) args s 0 0 A) 35 [(0, .ref (ad 0)), (1, .int x1), (2, .int x2), (3, .int x3), (4, .int x4)] [] M 0 0)  : ∀ (x1 : Int32) (x2 : Int32) (x3 : Int32) (x4 : Int32) (M : gq_M), f_X9_findWinner_111 N kh35 x1 x2 x3 x4 M = some (v9, M9) → gq_W p l e (gq_rm 3) s m args below meth c D A cI cZ ad mtC 5 (MQ below (gq_Qi D cI cZ ad mtC v9 M9 A) args s 0 0 A) 111 [(0, .ref (ad 0)), (1, .int x1), (2, .int x2), (3, .int x3), (4, .int x4)] [] M 0 0 := by
  intro x1 x2 x3 x4 M h
  unfold f_X9_findWinner_111 at h
  refine g_iinc (v := (x4 + 1)) (L2 := [(4, .int (x4 + 1)), (0, .ref (ad 0)), (1, .int x1), (2, .int x2), (3, .int x3)]) hC 4 rfl (by first | rfl | decide) (by decide) rfl dX9_findWinner_111 ?_
  refine g_goto (tgt := 35) hC (by decide) dX9_findWinner_114 ?_
  exact g_weak [1, 2, 3, 4, 0] rfl (hk35 x1 x2 x3 (x4 + 1) M h)
def f_X9_findWinner_108 (N : Nat) (kh35 : Int32 → Int32 → Int32 → Int32 → gq_M → Option (Int32 × gq_M)) (x1 : Int32) (x2 : Int32) (x4 : Int32) (M : gq_M) : Option (Int32 × gq_M) :=
  f_X9_findWinner_111 N kh35 x1 x2 x4 x4 M
set_option maxHeartbeats 1000000 in
set_option maxRecDepth 20000 in
theorem t_X9_findWinner_108 {N : Nat} {kh35 : Int32 → Int32 → Int32 → Int32 → gq_M → Option (Int32 × gq_M)} {v9 : Int32} {M9 : gq_M} (hC : gq_C p s m args meth c D A cI cZ ad mtC RX9 cX9_findWinner 5) (hr : meth.sig.returnType = (some .int)) (hk35 : ∀ (x1 : Int32) (x2 : Int32) (x3 : Int32) (x4 : Int32) (M : gq_M), kh35 x1 x2 x3 x4 M = some (v9, M9) → gq_W p l e (gq_rm 3) s m args below meth c D A cI cZ ad mtC 5 (MQ below (gq_Qi D cI cZ ad mtC v9 M9 A) args s 0 0 A) 35 [(0, .ref (ad 0)), (1, .int x1), (2, .int x2), (3, .int x3), (4, .int x4)] [] M 0 0)  : ∀ (x1 : Int32) (x2 : Int32) (x4 : Int32) (M : gq_M), f_X9_findWinner_108 N kh35 x1 x2 x4 M = some (v9, M9) → gq_W p l e (gq_rm 3) s m args below meth c D A cI cZ ad mtC 5 (MQ below (gq_Qi D cI cZ ad mtC v9 M9 A) args s 0 0 A) 108 [(0, .ref (ad 0)), (1, .int x1), (2, .int x2), (4, .int x4)] [] M 0 0 := by
  intro x1 x2 x4 M h
  unfold f_X9_findWinner_108 at h
  refine g_iload hC 3 rfl dX9_findWinner_108 ?_
  refine g_istore_n (L2 := [(3, .int x4), (0, .ref (ad 0)), (1, .int x1), (2, .int x2), (4, .int x4)]) hC rfl (by decide) rfl dX9_findWinner_110 ?_
  exact g_weak [1, 2, 3, 0, 4] rfl (t_X9_findWinner_111 hC hr hk35 x1 x2 x4 x4 M h)
def f_X9_findWinner_35_b (N : Nat) (kh35 : Int32 → Int32 → Int32 → Int32 → gq_M → Option (Int32 × gq_M)) (x1 : Int32) (x2 : Int32) (x3 : Int32) (x4 : Int32) (M : gq_M) : Option (Int32 × gq_M) :=
  if 8 ≤ x4 then (some (x3, M)) else (gq_b (f_X7_isHeard N x1 x4 (M 0 8) M) fun v11 M12 => if v11 = 0 then (f_X9_findWinner_111 N kh35 x1 x2 x3 x4 M12) else (gq_b (f_X7_priceOf N x1 x4 M12) fun v15 M16 => gq_b (f_X2_leftOf N x4 M16) fun v18 M19 => if (x2 * v15) ≤ v18 then (if x3 = (-1) then (f_X9_findWinner_108 N kh35 x1 x2 x4 M19) else (gq_b (f_X7_isAhead N x1 x4 x3 M19) fun v23 M24 => if v23 = 0 then (f_X9_findWinner_111 N kh35 x1 x2 x3 x4 M24) else (f_X9_findWinner_108 N kh35 x1 x2 x4 M24))) else (f_X9_findWinner_111 N kh35 x1 x2 x3 x4 M19)))
def f_X9_findWinner_35 (N : Nat) : Nat → Int32 → Int32 → Int32 → Int32 → gq_M → Option (Int32 × gq_M)
  | 0 => fun _ _ _ _ _ => none
  | n9 + 1 => f_X9_findWinner_35_b N  (f_X9_findWinner_35 N  n9)
set_option maxHeartbeats 1000000 in
set_option maxRecDepth 20000 in
theorem t_X9_findWinner_35_b {N : Nat} {kh35 : Int32 → Int32 → Int32 → Int32 → gq_M → Option (Int32 × gq_M)} {v9 : Int32} {M9 : gq_M} (hC : gq_C p s m args meth c D A cI cZ ad mtC RX9 cX9_findWinner 5) (hr : meth.sig.returnType = (some .int))  (hk35 : ∀ (x1 : Int32) (x2 : Int32) (x3 : Int32) (x4 : Int32) (M : gq_M), kh35 x1 x2 x3 x4 M = some (v9, M9) → gq_W p l e (gq_rm 3) s m args below meth c D A cI cZ ad mtC 5 (MQ below (gq_Qi D cI cZ ad mtC v9 M9 A) args s 0 0 A) 35 [(0, .ref (ad 0)), (1, .int x1), (2, .int x2), (3, .int x3), (4, .int x4)] [] M 0 0) : ∀ (x1 : Int32) (x2 : Int32) (x3 : Int32) (x4 : Int32) (M : gq_M), f_X9_findWinner_35_b N  kh35 x1 x2 x3 x4 M = some (v9, M9) → gq_W p l e (gq_rm 3) s m args below meth c D A cI cZ ad mtC 5 (MQ below (gq_Qi D cI cZ ad mtC v9 M9 A) args s 0 0 A) 35 [(0, .ref (ad 0)), (1, .int x1), (2, .int x2), (3, .int x3), (4, .int x4)] [] M 0 0 := by
  intro x1 x2 x3 x4 M h
  unfold f_X9_findWinner_35_b at h
  refine g_iload hC 4 rfl dX9_findWinner_35 ?_
  refine g_bipush (v := 8) hC (by decide) dX9_findWinner_37 ?_
  refine g_icmp_ge (tgt := 117) hC (by decide) dX9_findWinner_39 (fun c10 => ?_) (fun c10 => ?_)
  · replace h := gq_t c10 h
    refine g_iload_n hC 3 rfl rfl dX9_findWinner_117 ?_
    exact g_irets hC hr h dX9_findWinner_118
  · replace h := gq_f c10 h
    refine g_aload_n hC 0 rfl rfl dX9_findWinner_42 ?_
    refine g_getR hC fF_X9_54 lkC_0_6 dX9_findWinner_43 ?_
    refine g_iload_n hC 1 rfl rfl dX9_findWinner_46 ?_
    refine g_iload hC 4 rfl dX9_findWinner_47 ?_
    refine g_aload_n hC 0 rfl rfl dX9_findWinner_49 ?_
    refine g_getI hC fF_X9_65 lkC_0_8 dX9_findWinner_50 ?_
    obtain ⟨v11, M12, c13, h⟩ := gq_b_i h
    refine g_Vi (as := [.int x1, .int x4, .int (M 0 8)]) hC (t_X7_isHeard N _ _ _ _ _ _ c13) mV_X7_isHeard  wm_X9_392 obC_93 rfl rfl (Nat.le_of_ble_eq_true rfl) ⟨Nat.le_of_ble_eq_true rfl, Nat.le_of_ble_eq_true rfl⟩ ⟨Nat.zero_le _, Nat.zero_le _⟩ dX9_findWinner_53 ?_
    refine g_if_ne (tgt := 62) hC (by decide) dX9_findWinner_56 (fun c14 => ?_) (fun c14 => ?_)
    · replace h := gq_f c14 h
      refine g_iload_n hC 2 rfl rfl dX9_findWinner_62 ?_
      refine g_aload_n hC 0 rfl rfl dX9_findWinner_63 ?_
      refine g_getR hC fF_X9_54 lkC_0_6 dX9_findWinner_64 ?_
      refine g_iload_n hC 1 rfl rfl dX9_findWinner_67 ?_
      refine g_iload hC 4 rfl dX9_findWinner_68 ?_
      obtain ⟨v15, M16, c17, h⟩ := gq_b_i h
      refine g_Vi (as := [.int x1, .int x4]) hC (t_X7_priceOf N _ _ _ _ _ c17) mV_X7_priceOf  wm_X9_386 obC_93 rfl rfl (Nat.le_of_ble_eq_true rfl) ⟨Nat.le_of_ble_eq_true rfl, Nat.le_of_ble_eq_true rfl⟩ ⟨Nat.zero_le _, Nat.zero_le _⟩ dX9_findWinner_70 ?_
      refine g_imul hC dX9_findWinner_73 ?_
      refine g_aload_n hC 0 rfl rfl dX9_findWinner_74 ?_
      refine g_getR hC fF_X9_26 lkC_0_2 dX9_findWinner_75 ?_
      refine g_iload hC 4 rfl dX9_findWinner_78 ?_
      obtain ⟨v18, M19, c20, h⟩ := gq_b_i h
      refine g_Vi (as := [.int x4]) hC (t_X2_leftOf N _ _ _ _ c20) mV_X2_leftOf  wm_X9_223 obC_23 rfl rfl (Nat.le_of_ble_eq_true rfl) ⟨Nat.le_of_ble_eq_true rfl, Nat.le_of_ble_eq_true rfl⟩ ⟨Nat.zero_le _, Nat.zero_le _⟩ dX9_findWinner_80 ?_
      refine g_icmp_le (tgt := 89) hC (by decide) dX9_findWinner_83 (fun c21 => ?_) (fun c21 => ?_)
      · replace h := gq_t c21 h
        refine g_iload_n hC 3 rfl rfl dX9_findWinner_89 ?_
        refine g_iconst (v := (-1)) hC (by decide) dX9_findWinner_90 ?_
        refine g_icmp_eq (tgt := 108) hC (by decide) dX9_findWinner_91 (fun c22 => ?_) (fun c22 => ?_)
        · replace h := gq_t c22 h
          exact g_weak [0, 1, 2, 4] rfl (t_X9_findWinner_108 hC hr hk35 x1 x2 x4 M19 h)
        · replace h := gq_f c22 h
          refine g_aload_n hC 0 rfl rfl dX9_findWinner_94 ?_
          refine g_getR hC fF_X9_54 lkC_0_6 dX9_findWinner_95 ?_
          refine g_iload_n hC 1 rfl rfl dX9_findWinner_98 ?_
          refine g_iload hC 4 rfl dX9_findWinner_99 ?_
          refine g_iload_n hC 3 rfl rfl dX9_findWinner_101 ?_
          obtain ⟨v23, M24, c25, h⟩ := gq_b_i h
          refine g_Vi (as := [.int x1, .int x4, .int x3]) hC (t_X7_isAhead N _ _ _ _ _ _ c25) mV_X7_isAhead  wm_X9_396 obC_93 rfl rfl (Nat.le_of_ble_eq_true rfl) ⟨Nat.le_of_ble_eq_true rfl, Nat.le_of_ble_eq_true rfl⟩ ⟨Nat.zero_le _, Nat.zero_le _⟩ dX9_findWinner_102 ?_
          refine g_if_eq (tgt := 111) hC (by decide) dX9_findWinner_105 (fun c26 => ?_) (fun c26 => ?_)
          · replace h := gq_t c26 h
            exact g_weak [0, 1, 2, 3, 4] rfl (t_X9_findWinner_111 hC hr hk35 x1 x2 x3 x4 M24 h)
          · replace h := gq_f c26 h
            exact g_weak [0, 1, 2, 4] rfl (t_X9_findWinner_108 hC hr hk35 x1 x2 x4 M24 h)
      · replace h := gq_f c21 h
        refine g_goto (tgt := 111) hC (by decide) dX9_findWinner_86 ?_
        exact g_weak [0, 1, 2, 3, 4] rfl (t_X9_findWinner_111 hC hr hk35 x1 x2 x3 x4 M19 h)
    · replace h := gq_t c14 h
      refine g_goto (tgt := 111) hC (by decide) dX9_findWinner_59 ?_
      exact g_weak [0, 1, 2, 3, 4] rfl (t_X9_findWinner_111 hC hr hk35 x1 x2 x3 x4 M12 h)
theorem t_X9_findWinner_35 {N : Nat} {v9 : Int32} {M9 : gq_M} (hC : gq_C p s m args meth c D A cI cZ ad mtC RX9 cX9_findWinner 5) (hr : meth.sig.returnType = (some .int))  : ∀ (n9 : Nat) (x1 : Int32) (x2 : Int32) (x3 : Int32) (x4 : Int32) (M : gq_M), f_X9_findWinner_35 N  n9 x1 x2 x3 x4 M = some (v9, M9) → gq_W p l e (gq_rm 3) s m args below meth c D A cI cZ ad mtC 5 (MQ below (gq_Qi D cI cZ ad mtC v9 M9 A) args s 0 0 A) 35 [(0, .ref (ad 0)), (1, .int x1), (2, .int x2), (3, .int x3), (4, .int x4)] [] M 0 0 := by
  intro n9
  induction n9 with
  | zero => intro x1 x2 x3 x4 M h; cases h
  | succ n9 ih => intro x1 x2 x3 x4 M h; exact t_X9_findWinner_35_b hC hr  ih x1 x2 x3 x4 M h
def f_X9_findWinner (N : Nat) (a1 : Int32) (M : gq_M) : Option (Int32 × gq_M) :=
  gq_b (f_X8_at 80 3 N a1 M) fun v1 M2 => gq_b (f_X6_boxAt N v1 0 M2) fun v4 M5 => gq_b (f_X8_at 40 150 N v4 M5) fun v7 M8 => f_X9_findWinner_35 N  N a1 v7 (-1) 0 M8
set_option maxHeartbeats 1000000 in
set_option maxRecDepth 20000 in
theorem t_X9_findWinner {l : Launch} {D : va_G} {cI cZ : ClassId} {ad : Nat → Nat} (N : Nat) (a1 : Int32) (M : gq_M) (v9 : Int32) (M9 : gq_M) (h : f_X9_findWinner N a1 M = some (v9, M9)) : gq_Ci l D cI cZ ad mtC yX9_findWinner cX9_findWinner 5 (some .int) 3 [.ref (ad 0), .int a1] M v9 M9 := by
  refine gq_introI (own := RX9) (by decide) rfl (Nat.le_of_ble_eq_true rfl) ?_
  intro p e s m below meth c hC hr
  refine g_cast (L2 := [(0, .ref (ad 0)), (1, .int a1)]) ?_ rfl rfl rfl rfl
  unfold f_X9_findWinner at h
  refine g_aload_n hC 0 rfl rfl dX9_findWinner_0 ?_
  refine g_getR hC fF_X9_33 lkC_0_3 dX9_findWinner_1 ?_
  refine g_getR hC fF_X9_307 lkC_34_2 dX9_findWinner_4 ?_
  refine g_aload_n hC 0 rfl rfl dX9_findWinner_7 ?_
  refine g_getR hC fF_X9_40 lkC_0_4 dX9_findWinner_8 ?_
  refine g_aload_n hC 0 rfl rfl dX9_findWinner_11 ?_
  refine g_getR hC fF_X9_47 lkC_0_5 dX9_findWinner_12 ?_
  refine g_getR hC fF_X9_216 lkC_76_1 dX9_findWinner_15 ?_
  refine g_iload_n hC 1 rfl rfl dX9_findWinner_18 ?_
  obtain ⟨v1, M2, c3, h⟩ := gq_b_i h
  refine g_Vi (as := [.int a1]) hC (t_X8_at lkC_79_0 arC_80 N _ _ _ _ c3) mV_X8_at  wm_X9_200 obC_79 rfl rfl (Nat.le_of_ble_eq_true rfl) ⟨Nat.le_of_ble_eq_true rfl, Nat.le_of_ble_eq_true rfl⟩ ⟨Nat.zero_le _, Nat.zero_le _⟩ dX9_findWinner_19 ?_
  refine g_iconst (v := 0) hC (by decide) dX9_findWinner_22 ?_
  obtain ⟨v4, M5, c6, h⟩ := gq_b_i h
  refine g_Vi (as := [.int v1, .int 0]) hC (t_X6_boxAt N _ _ _ _ _ c6) mV_X6_boxAt  wm_X9_389 obC_61 rfl rfl (Nat.le_of_ble_eq_true rfl) ⟨Nat.le_of_ble_eq_true rfl, Nat.le_of_ble_eq_true rfl⟩ ⟨Nat.zero_le _, Nat.zero_le _⟩ dX9_findWinner_23 ?_
  obtain ⟨v7, M8, c9, h⟩ := gq_b_i h
  refine g_Vi (as := [.int v4]) hC (t_X8_at lkC_39_0 arC_40 N _ _ _ _ c9) mV_X8_at  wm_X9_200 obC_39 rfl rfl (Nat.le_of_ble_eq_true rfl) ⟨Nat.le_of_ble_eq_true rfl, Nat.le_of_ble_eq_true rfl⟩ ⟨Nat.zero_le _, Nat.zero_le _⟩ dX9_findWinner_26 ?_
  refine g_istore_n (L2 := [(2, .int v7), (0, .ref (ad 0)), (1, .int a1)]) hC rfl (by decide) rfl dX9_findWinner_29 ?_
  refine g_iconst (v := (-1)) hC (by decide) dX9_findWinner_30 ?_
  refine g_istore_n (L2 := [(3, .int (-1)), (2, .int v7), (0, .ref (ad 0)), (1, .int a1)]) hC rfl (by decide) rfl dX9_findWinner_31 ?_
  refine g_iconst (v := 0) hC (by decide) dX9_findWinner_32 ?_
  refine g_istore (L2 := [(4, .int 0), (3, .int (-1)), (2, .int v7), (0, .ref (ad 0)), (1, .int a1)]) hC (by decide) rfl dX9_findWinner_33 ?_
  exact g_weak [3, 4, 2, 1, 0] rfl (t_X9_findWinner_35 hC hr  N a1 v7 (-1) 0 M8 h)
def f_X9_tickStanding (N : Nat) (a1 : Int32) (M : gq_M) : Option (Int32 × gq_M) :=
  gq_b (f_X8_at 88 3 N a1 M) fun v1 M2 => if v1 ≤ (M 0 8) then (gq_b (f_X9_findWinner N a1 M2) fun v5 M6 => if v5 = (-1) then (gq_b (f_X9_beginRound N a1 M6) fun v24 M25 => some (0, M25)) else (gq_b (f_X8_put 78 3 N a1 3 M6) fun v9 M10 => gq_b (f_X8_put 84 3 N a1 v5 M10) fun v12 M13 => gq_b (f_X7_priceOf N a1 v5 M13) fun v15 M16 => gq_b (f_X8_put 82 3 N a1 v15 M16) fun v18 M19 => gq_b (f_X8_put 88 3 N a1 ((M19 0 8) + 3) M19) fun v21 M22 => some (0, M22))) else (some (0, M2))
set_option maxHeartbeats 1000000 in
set_option maxRecDepth 20000 in
theorem t_X9_tickStanding {l : Launch} {D : va_G} {cI cZ : ClassId} {ad : Nat → Nat} (N : Nat) (a1 : Int32) (M : gq_M) (v9 : Int32) (M9 : gq_M) (h : f_X9_tickStanding N a1 M = some (v9, M9)) : gq_Cv l D cI cZ ad mtC yX9_tickStanding cX9_tickStanding 3 4 [.ref (ad 0), .int a1] M M9 := by
  refine gq_introV (own := RX9) (by decide) rfl (Nat.le_of_ble_eq_true rfl) ?_
  intro p e s m below meth c hC hr
  refine g_cast (L2 := [(0, .ref (ad 0)), (1, .int a1)]) ?_ rfl rfl rfl rfl
  unfold f_X9_tickStanding at h
  refine g_aload_n hC 0 rfl rfl dX9_tickStanding_0 ?_
  refine g_getI hC fF_X9_65 lkC_0_8 dX9_tickStanding_1 ?_
  refine g_aload_n hC 0 rfl rfl dX9_tickStanding_4 ?_
  refine g_getR hC fF_X9_47 lkC_0_5 dX9_tickStanding_5 ?_
  refine g_getR hC fF_X9_374 lkC_76_5 dX9_tickStanding_8 ?_
  refine g_iload_n hC 1 rfl rfl dX9_tickStanding_11 ?_
  obtain ⟨v1, M2, c3, h⟩ := gq_b_i h
  refine g_Vi (as := [.int a1]) hC (t_X8_at lkC_87_0 arC_88 N _ _ _ _ c3) mV_X8_at  wm_X9_200 obC_87 rfl rfl (Nat.le_of_ble_eq_true rfl) ⟨Nat.le_of_ble_eq_true rfl, Nat.le_of_ble_eq_true rfl⟩ ⟨Nat.zero_le _, Nat.zero_le _⟩ dX9_tickStanding_12 ?_
  refine g_icmp_ge (tgt := 19) hC (by decide) dX9_tickStanding_15 (fun c4 => ?_) (fun c4 => ?_)
  · replace h := gq_t c4 h
    refine g_aload_n hC 0 rfl rfl dX9_tickStanding_19 ?_
    refine g_iload_n hC 1 rfl rfl dX9_tickStanding_20 ?_
    obtain ⟨v5, M6, c7, h⟩ := gq_b_i h
    refine g_Vi (as := [.int a1]) hC (t_X9_findWinner N _ _ _ _ c7) mV_X9_findWinner  wm_X9_383 obC_0 rfl rfl (Nat.le_of_ble_eq_true rfl) ⟨Nat.le_of_ble_eq_true rfl, Nat.le_of_ble_eq_true rfl⟩ ⟨Nat.zero_le _, Nat.zero_le _⟩ dX9_tickStanding_21 ?_
    refine g_istore_n (L2 := [(2, .int v5), (0, .ref (ad 0)), (1, .int a1)]) hC rfl (by decide) rfl dX9_tickStanding_24 ?_
    refine g_iload_n hC 0 rfl rfl dX9_tickStanding_25 ?_
    refine g_iconst (v := (-1)) hC (by decide) dX9_tickStanding_26 ?_
    refine g_icmp_ne (tgt := 36) hC (by decide) dX9_tickStanding_27 (fun c8 => ?_) (fun c8 => ?_)
    · replace h := gq_f c8 h
      refine g_aload_n hC 1 rfl rfl dX9_tickStanding_36 ?_
      refine g_getR hC fF_X9_47 lkC_0_5 dX9_tickStanding_37 ?_
      refine g_getR hC fF_X9_197 lkC_76_0 dX9_tickStanding_40 ?_
      refine g_iload_n hC 2 rfl rfl dX9_tickStanding_43 ?_
      refine g_iconst (v := 3) hC (by decide) dX9_tickStanding_44 ?_
      obtain ⟨v9, M10, c11, h⟩ := gq_b_i h
      refine g_Vv (as := [.int a1, .int 3]) hC (t_X8_put lkC_77_0 arC_78 N _ _ _ _ _ c11) mV_X8_put  wm_X9_104 obC_77 rfl rfl (Nat.le_of_ble_eq_true rfl) ⟨Nat.le_of_ble_eq_true rfl, Nat.le_of_ble_eq_true rfl⟩ ⟨Nat.zero_le _, Nat.zero_le _⟩ dX9_tickStanding_45 ?_
      refine g_aload_n hC 1 rfl rfl dX9_tickStanding_48 ?_
      refine g_getR hC fF_X9_47 lkC_0_5 dX9_tickStanding_49 ?_
      refine g_getR hC fF_X9_213 lkC_76_3 dX9_tickStanding_52 ?_
      refine g_iload_n hC 2 rfl rfl dX9_tickStanding_55 ?_
      refine g_iload_n hC 0 rfl rfl dX9_tickStanding_56 ?_
      obtain ⟨v12, M13, c14, h⟩ := gq_b_i h
      refine g_Vv (as := [.int a1, .int v5]) hC (t_X8_put lkC_83_0 arC_84 N _ _ _ _ _ c14) mV_X8_put  wm_X9_104 obC_83 rfl rfl (Nat.le_of_ble_eq_true rfl) ⟨Nat.le_of_ble_eq_true rfl, Nat.le_of_ble_eq_true rfl⟩ ⟨Nat.zero_le _, Nat.zero_le _⟩ dX9_tickStanding_57 ?_
      refine g_aload_n hC 1 rfl rfl dX9_tickStanding_60 ?_
      refine g_getR hC fF_X9_47 lkC_0_5 dX9_tickStanding_61 ?_
      refine g_getR hC fF_X9_206 lkC_76_2 dX9_tickStanding_64 ?_
      refine g_iload_n hC 2 rfl rfl dX9_tickStanding_67 ?_
      refine g_aload_n hC 1 rfl rfl dX9_tickStanding_68 ?_
      refine g_getR hC fF_X9_54 lkC_0_6 dX9_tickStanding_69 ?_
      refine g_iload_n hC 2 rfl rfl dX9_tickStanding_72 ?_
      refine g_iload_n hC 0 rfl rfl dX9_tickStanding_73 ?_
      obtain ⟨v15, M16, c17, h⟩ := gq_b_i h
      refine g_Vi (as := [.int a1, .int v5]) hC (t_X7_priceOf N _ _ _ _ _ c17) mV_X7_priceOf  wm_X9_386 obC_93 rfl rfl (Nat.le_of_ble_eq_true rfl) ⟨Nat.le_of_ble_eq_true rfl, Nat.le_of_ble_eq_true rfl⟩ ⟨Nat.zero_le _, Nat.zero_le _⟩ dX9_tickStanding_74 ?_
      obtain ⟨v18, M19, c20, h⟩ := gq_b_i h
      refine g_Vv (as := [.int a1, .int v15]) hC (t_X8_put lkC_81_0 arC_82 N _ _ _ _ _ c20) mV_X8_put  wm_X9_104 obC_81 rfl rfl (Nat.le_of_ble_eq_true rfl) ⟨Nat.le_of_ble_eq_true rfl, Nat.le_of_ble_eq_true rfl⟩ ⟨Nat.zero_le _, Nat.zero_le _⟩ dX9_tickStanding_77 ?_
      refine g_aload_n hC 1 rfl rfl dX9_tickStanding_80 ?_
      refine g_getR hC fF_X9_47 lkC_0_5 dX9_tickStanding_81 ?_
      refine g_getR hC fF_X9_374 lkC_76_5 dX9_tickStanding_84 ?_
      refine g_iload_n hC 2 rfl rfl dX9_tickStanding_87 ?_
      refine g_aload_n hC 1 rfl rfl dX9_tickStanding_88 ?_
      refine g_getI hC fF_X9_65 lkC_0_8 dX9_tickStanding_89 ?_
      refine g_iconst (v := 3) hC (by decide) dX9_tickStanding_92 ?_
      refine g_iadd hC dX9_tickStanding_93 ?_
      obtain ⟨v21, M22, c23, h⟩ := gq_b_i h
      refine g_Vv (as := [.int a1, .int ((M19 0 8) + 3)]) hC (t_X8_put lkC_87_0 arC_88 N _ _ _ _ _ c23) mV_X8_put  wm_X9_104 obC_87 rfl rfl (Nat.le_of_ble_eq_true rfl) ⟨Nat.le_of_ble_eq_true rfl, Nat.le_of_ble_eq_true rfl⟩ ⟨Nat.zero_le _, Nat.zero_le _⟩ dX9_tickStanding_94 ?_
      exact g_vrets hC hr h dX9_tickStanding_97
    · replace h := gq_t c8 h
      refine g_aload_n hC 1 rfl rfl dX9_tickStanding_30 ?_
      refine g_iload_n hC 2 rfl rfl dX9_tickStanding_31 ?_
      obtain ⟨v24, M25, c26, h⟩ := gq_b_i h
      refine g_Vv (as := [.int a1]) hC (t_X9_beginRound N _ _ _ _ c26) mV_X9_beginRound  wm_X9_180 obC_0 rfl rfl (Nat.le_of_ble_eq_true rfl) ⟨Nat.le_of_ble_eq_true rfl, Nat.le_of_ble_eq_true rfl⟩ ⟨Nat.zero_le _, Nat.zero_le _⟩ dX9_tickStanding_32 ?_
      exact g_vrets hC hr h dX9_tickStanding_35
  · replace h := gq_f c4 h
    exact g_vrets hC hr h dX9_tickStanding_18
def f_X9_costOfFirst_18_b (N : Nat) (kh18 : Int32 → Int32 → Int32 → Int32 → Int32 → gq_M → Option (Int32 × gq_M)) (x1 : Int32) (x2 : Int32) (x3 : Int32) (x4 : Int32) (x5 : Int32) (M : gq_M) : Option (Int32 × gq_M) :=
  if x2 ≤ x5 then (gq_b (f_X8_at 82 3 N x1 M) fun v5 M6 => some ((x4 * v5), M6)) else (gq_b (f_X6_boxAt N x3 x5 M) fun v8 M9 => gq_b (f_X8_at 40 150 N v8 M9) fun v11 M12 => kh18 x1 x2 x3 (x4 + v11) (x5 + 1) M12)
def f_X9_costOfFirst_18 (N : Nat) : Nat → Int32 → Int32 → Int32 → Int32 → Int32 → gq_M → Option (Int32 × gq_M)
  | 0 => fun _ _ _ _ _ _ => none
  | n9 + 1 => f_X9_costOfFirst_18_b N  (f_X9_costOfFirst_18 N  n9)
set_option maxHeartbeats 1000000 in
set_option maxRecDepth 20000 in
theorem t_X9_costOfFirst_18_b {N : Nat} {kh18 : Int32 → Int32 → Int32 → Int32 → Int32 → gq_M → Option (Int32 × gq_M)} {v9 : Int32} {M9 : gq_M} (hC : gq_C p s m args meth c D A cI cZ ad mtC RX9 cX9_costOfFirst 6) (hr : meth.sig.returnType = (some .int))  (hk18 : ∀ (x1 : Int32) (x2 : Int32) (x3 : Int32) (x4 : Int32) (x5 : Int32) (M : gq_M), kh18 x1 x2 x3 x4 x5 M = some (v9, M9) → gq_W p l e (gq_rm 2) s m args below meth c D A cI cZ ad mtC 6 (MQ below (gq_Qi D cI cZ ad mtC v9 M9 A) args s 0 0 A) 18 [(0, .ref (ad 0)), (1, .int x1), (2, .int x2), (3, .int x3), (4, .int x4), (5, .int x5)] [] M 0 0) : ∀ (x1 : Int32) (x2 : Int32) (x3 : Int32) (x4 : Int32) (x5 : Int32) (M : gq_M), f_X9_costOfFirst_18_b N  kh18 x1 x2 x3 x4 x5 M = some (v9, M9) → gq_W p l e (gq_rm 2) s m args below meth c D A cI cZ ad mtC 6 (MQ below (gq_Qi D cI cZ ad mtC v9 M9 A) args s 0 0 A) 18 [(0, .ref (ad 0)), (1, .int x1), (2, .int x2), (3, .int x3), (4, .int x4), (5, .int x5)] [] M 0 0 := by
  intro x1 x2 x3 x4 x5 M h
  unfold f_X9_costOfFirst_18_b at h
  refine g_iload hC 5 rfl dX9_costOfFirst_18 ?_
  refine g_iload_n hC 2 rfl rfl dX9_costOfFirst_20 ?_
  refine g_icmp_ge (tgt := 55) hC (by decide) dX9_costOfFirst_21 (fun c4 => ?_) (fun c4 => ?_)
  · replace h := gq_t c4 h
    refine g_iload hC 4 rfl dX9_costOfFirst_55 ?_
    refine g_aload_n hC 0 rfl rfl dX9_costOfFirst_57 ?_
    refine g_getR hC fF_X9_47 lkC_0_5 dX9_costOfFirst_58 ?_
    refine g_getR hC fF_X9_206 lkC_76_2 dX9_costOfFirst_61 ?_
    refine g_iload_n hC 1 rfl rfl dX9_costOfFirst_64 ?_
    obtain ⟨v5, M6, c7, h⟩ := gq_b_i h
    refine g_Vi (as := [.int x1]) hC (t_X8_at lkC_81_0 arC_82 N _ _ _ _ c7) mV_X8_at  wm_X9_200 obC_81 rfl rfl (Nat.le_of_ble_eq_true rfl) ⟨Nat.le_of_ble_eq_true rfl, Nat.le_of_ble_eq_true rfl⟩ ⟨Nat.zero_le _, Nat.zero_le _⟩ dX9_costOfFirst_65 ?_
    refine g_imul hC dX9_costOfFirst_68 ?_
    exact g_irets hC hr h dX9_costOfFirst_69
  · replace h := gq_f c4 h
    refine g_iload hC 4 rfl dX9_costOfFirst_24 ?_
    refine g_aload_n hC 0 rfl rfl dX9_costOfFirst_26 ?_
    refine g_getR hC fF_X9_33 lkC_0_3 dX9_costOfFirst_27 ?_
    refine g_getR hC fF_X9_307 lkC_34_2 dX9_costOfFirst_30 ?_
    refine g_aload_n hC 0 rfl rfl dX9_costOfFirst_33 ?_
    refine g_getR hC fF_X9_40 lkC_0_4 dX9_costOfFirst_34 ?_
    refine g_iload_n hC 3 rfl rfl dX9_costOfFirst_37 ?_
    refine g_iload hC 5 rfl dX9_costOfFirst_38 ?_
    obtain ⟨v8, M9, c10, h⟩ := gq_b_i h
    refine g_Vi (as := [.int x3, .int x5]) hC (t_X6_boxAt N _ _ _ _ _ c10) mV_X6_boxAt  wm_X9_389 obC_61 rfl rfl (Nat.le_of_ble_eq_true rfl) ⟨Nat.le_of_ble_eq_true rfl, Nat.le_of_ble_eq_true rfl⟩ ⟨Nat.zero_le _, Nat.zero_le _⟩ dX9_costOfFirst_40 ?_
    obtain ⟨v11, M12, c13, h⟩ := gq_b_i h
    refine g_Vi (as := [.int v8]) hC (t_X8_at lkC_39_0 arC_40 N _ _ _ _ c13) mV_X8_at  wm_X9_200 obC_39 rfl rfl (Nat.le_of_ble_eq_true rfl) ⟨Nat.le_of_ble_eq_true rfl, Nat.le_of_ble_eq_true rfl⟩ ⟨Nat.zero_le _, Nat.zero_le _⟩ dX9_costOfFirst_43 ?_
    refine g_iadd hC dX9_costOfFirst_46 ?_
    refine g_istore (L2 := [(4, .int (x4 + v11)), (0, .ref (ad 0)), (1, .int x1), (2, .int x2), (3, .int x3), (5, .int x5)]) hC (by decide) rfl dX9_costOfFirst_47 ?_
    refine g_iinc (v := (x5 + 1)) (L2 := [(5, .int (x5 + 1)), (4, .int (x4 + v11)), (0, .ref (ad 0)), (1, .int x1), (2, .int x2), (3, .int x3)]) hC 5 rfl (by first | rfl | decide) (by decide) rfl dX9_costOfFirst_49 ?_
    refine g_goto (tgt := 18) hC (by decide) dX9_costOfFirst_52 ?_
    exact g_weak [2, 3, 4, 5, 1, 0] rfl (hk18 x1 x2 x3 (x4 + v11) (x5 + 1) M12 h)
theorem t_X9_costOfFirst_18 {N : Nat} {v9 : Int32} {M9 : gq_M} (hC : gq_C p s m args meth c D A cI cZ ad mtC RX9 cX9_costOfFirst 6) (hr : meth.sig.returnType = (some .int))  : ∀ (n9 : Nat) (x1 : Int32) (x2 : Int32) (x3 : Int32) (x4 : Int32) (x5 : Int32) (M : gq_M), f_X9_costOfFirst_18 N  n9 x1 x2 x3 x4 x5 M = some (v9, M9) → gq_W p l e (gq_rm 2) s m args below meth c D A cI cZ ad mtC 6 (MQ below (gq_Qi D cI cZ ad mtC v9 M9 A) args s 0 0 A) 18 [(0, .ref (ad 0)), (1, .int x1), (2, .int x2), (3, .int x3), (4, .int x4), (5, .int x5)] [] M 0 0 := by
  intro n9
  induction n9 with
  | zero => intro x1 x2 x3 x4 x5 M h; cases h
  | succ n9 ih => intro x1 x2 x3 x4 x5 M h; exact t_X9_costOfFirst_18_b hC hr  ih x1 x2 x3 x4 x5 M h
def f_X9_costOfFirst (N : Nat) (a1 : Int32) (a2 : Int32) (M : gq_M) : Option (Int32 × gq_M) :=
  gq_b (f_X8_at 80 3 N a1 M) fun v1 M2 => f_X9_costOfFirst_18 N  N a1 a2 v1 0 0 M2
set_option maxHeartbeats 1000000 in
set_option maxRecDepth 20000 in
theorem t_X9_costOfFirst {l : Launch} {D : va_G} {cI cZ : ClassId} {ad : Nat → Nat} (N : Nat) (a1 : Int32) (a2 : Int32) (M : gq_M) (v9 : Int32) (M9 : gq_M) (h : f_X9_costOfFirst N a1 a2 M = some (v9, M9)) : gq_Ci l D cI cZ ad mtC yX9_costOfFirst cX9_costOfFirst 6 (some .int) 2 [.ref (ad 0), .int a1, .int a2] M v9 M9 := by
  refine gq_introI (own := RX9) (by decide) rfl (Nat.le_of_ble_eq_true rfl) ?_
  intro p e s m below meth c hC hr
  refine g_cast (L2 := [(0, .ref (ad 0)), (1, .int a1), (2, .int a2)]) ?_ rfl rfl rfl rfl
  unfold f_X9_costOfFirst at h
  refine g_aload_n hC 0 rfl rfl dX9_costOfFirst_0 ?_
  refine g_getR hC fF_X9_47 lkC_0_5 dX9_costOfFirst_1 ?_
  refine g_getR hC fF_X9_216 lkC_76_1 dX9_costOfFirst_4 ?_
  refine g_iload_n hC 1 rfl rfl dX9_costOfFirst_7 ?_
  obtain ⟨v1, M2, c3, h⟩ := gq_b_i h
  refine g_Vi (as := [.int a1]) hC (t_X8_at lkC_79_0 arC_80 N _ _ _ _ c3) mV_X8_at  wm_X9_200 obC_79 rfl rfl (Nat.le_of_ble_eq_true rfl) ⟨Nat.le_of_ble_eq_true rfl, Nat.le_of_ble_eq_true rfl⟩ ⟨Nat.zero_le _, Nat.zero_le _⟩ dX9_costOfFirst_8 ?_
  refine g_istore_n (L2 := [(3, .int v1), (0, .ref (ad 0)), (1, .int a1), (2, .int a2)]) hC rfl (by decide) rfl dX9_costOfFirst_11 ?_
  refine g_iconst (v := 0) hC (by decide) dX9_costOfFirst_12 ?_
  refine g_istore (L2 := [(4, .int 0), (3, .int v1), (0, .ref (ad 0)), (1, .int a1), (2, .int a2)]) hC (by decide) rfl dX9_costOfFirst_13 ?_
  refine g_iconst (v := 0) hC (by decide) dX9_costOfFirst_15 ?_
  refine g_istore (L2 := [(5, .int 0), (4, .int 0), (3, .int v1), (0, .ref (ad 0)), (1, .int a1), (2, .int a2)]) hC (by decide) rfl dX9_costOfFirst_16 ?_
  exact g_weak [3, 4, 5, 2, 1, 0] rfl (t_X9_costOfFirst_18 hC hr  N a1 a2 v1 0 0 M2 h)
def f_X9_sellFirst_41_b (N : Nat) (kh41 : Int32 → Int32 → Int32 → Int32 → Int32 → gq_M → Option (Int32 × gq_M)) (x2 : Int32) (x3 : Int32) (x4 : Int32) (x5 : Int32) (x6 : Int32) (M : gq_M) : Option (Int32 × gq_M) :=
  if x2 ≤ x6 then (gq_b (f_X8_add 69 150 N x3 x2 M) fun v11 M12 => some (0, M12)) else (gq_b (f_X6_boxAt N x3 x6 M) fun v14 M15 => gq_b (f_X8_at 40 150 N v14 M15) fun v17 M18 => gq_b (f_X1_sell N v14 x4 x5 M18) fun v20 M21 => gq_b (f_X8_put 52 150 N v14 (M21 0 8) M21) fun v23 M24 => gq_b (f_X8_put 54 150 N v14 (M24 0 9) M24) fun v26 M27 => gq_b (f_X8_add 29 8 N x4 (v17 * x5) M27) fun v29 M30 => gq_b (f_X8_add 31 8 N x4 1 M30) fun v32 M33 => gq_b (f_X8_at 36 150 N v14 M33) fun v35 M36 => gq_b (f_X8_add 13 8 N v35 (v17 * x5) M36) fun v38 M39 => kh41 x2 x3 x4 x5 (x6 + 1) M39)
def f_X9_sellFirst_41 (N : Nat) : Nat → Int32 → Int32 → Int32 → Int32 → Int32 → gq_M → Option (Int32 × gq_M)
  | 0 => fun _ _ _ _ _ _ => none
  | n9 + 1 => f_X9_sellFirst_41_b N  (f_X9_sellFirst_41 N  n9)
set_option maxHeartbeats 1000000 in
set_option maxRecDepth 20000 in
theorem t_X9_sellFirst_41_b {N : Nat} {kh41 : Int32 → Int32 → Int32 → Int32 → Int32 → gq_M → Option (Int32 × gq_M)} {v9 : Int32} {M9 : gq_M} (hC : gq_C p s m args meth c D A cI cZ ad mtC RX9 cX9_sellFirst 9) (hr : meth.sig.returnType = none)  (hk41 : ∀ (x2 : Int32) (x3 : Int32) (x4 : Int32) (x5 : Int32) (x6 : Int32) (M : gq_M), kh41 x2 x3 x4 x5 x6 M = some (v9, M9) → gq_W p l e (gq_rm 3) s m args below meth c D A cI cZ ad mtC 9 (MQ below (gq_Qv D cI cZ ad mtC M9 A) args s 0 0 A) 41 [(0, .ref (ad 0)), (2, .int x2), (3, .int x3), (4, .int x4), (5, .int x5), (6, .int x6)] [] M 0 0) : ∀ (x2 : Int32) (x3 : Int32) (x4 : Int32) (x5 : Int32) (x6 : Int32) (M : gq_M), f_X9_sellFirst_41_b N  kh41 x2 x3 x4 x5 x6 M = some (v9, M9) → gq_W p l e (gq_rm 3) s m args below meth c D A cI cZ ad mtC 9 (MQ below (gq_Qv D cI cZ ad mtC M9 A) args s 0 0 A) 41 [(0, .ref (ad 0)), (2, .int x2), (3, .int x3), (4, .int x4), (5, .int x5), (6, .int x6)] [] M 0 0 := by
  intro x2 x3 x4 x5 x6 M h
  unfold f_X9_sellFirst_41_b at h
  refine g_iload hC 5 rfl dX9_sellFirst_41 ?_
  refine g_iload_n hC 1 rfl rfl dX9_sellFirst_43 ?_
  refine g_icmp_ge (tgt := 178) hC (by decide) dX9_sellFirst_44 (fun c10 => ?_) (fun c10 => ?_)
  · replace h := gq_t c10 h
    refine g_aload_n hC 0 rfl rfl dX9_sellFirst_178 ?_
    refine g_getR hC fF_X9_40 lkC_0_4 dX9_sellFirst_179 ?_
    refine g_getR hC fF_X9_405 lkC_61_3 dX9_sellFirst_182 ?_
    refine g_iload_n hC 2 rfl rfl dX9_sellFirst_185 ?_
    refine g_iload_n hC 1 rfl rfl dX9_sellFirst_186 ?_
    obtain ⟨v11, M12, c13, h⟩ := gq_b_i h
    refine g_Vv (as := [.int x3, .int x2]) hC (t_X8_add lkC_68_0 arC_69 N _ _ _ _ _ c13) mV_X8_add  wm_X9_252 obC_68 rfl rfl (Nat.le_of_ble_eq_true rfl) ⟨Nat.le_of_ble_eq_true rfl, Nat.le_of_ble_eq_true rfl⟩ ⟨Nat.zero_le _, Nat.zero_le _⟩ dX9_sellFirst_187 ?_
    exact g_vrets hC hr h dX9_sellFirst_190
  · replace h := gq_f c10 h
    refine g_aload_n hC 0 rfl rfl dX9_sellFirst_47 ?_
    refine g_getR hC fF_X9_40 lkC_0_4 dX9_sellFirst_48 ?_
    refine g_iload_n hC 2 rfl rfl dX9_sellFirst_51 ?_
    refine g_iload hC 5 rfl dX9_sellFirst_52 ?_
    obtain ⟨v14, M15, c16, h⟩ := gq_b_i h
    refine g_Vi (as := [.int x3, .int x6]) hC (t_X6_boxAt N _ _ _ _ _ c16) mV_X6_boxAt  wm_X9_389 obC_61 rfl rfl (Nat.le_of_ble_eq_true rfl) ⟨Nat.le_of_ble_eq_true rfl, Nat.le_of_ble_eq_true rfl⟩ ⟨Nat.zero_le _, Nat.zero_le _⟩ dX9_sellFirst_54 ?_
    refine g_istore (L2 := [(7, .int v14), (0, .ref (ad 0)), (2, .int x2), (3, .int x3), (4, .int x4), (5, .int x5), (6, .int x6)]) hC (by decide) rfl dX9_sellFirst_57 ?_
    refine g_aload_n hC 1 rfl rfl dX9_sellFirst_59 ?_
    refine g_getR hC fF_X9_33 lkC_0_3 dX9_sellFirst_60 ?_
    refine g_getR hC fF_X9_307 lkC_34_2 dX9_sellFirst_63 ?_
    refine g_iload hC 0 rfl dX9_sellFirst_66 ?_
    obtain ⟨v17, M18, c19, h⟩ := gq_b_i h
    refine g_Vi (as := [.int v14]) hC (t_X8_at lkC_39_0 arC_40 N _ _ _ _ c19) mV_X8_at  wm_X9_200 obC_39 rfl rfl (Nat.le_of_ble_eq_true rfl) ⟨Nat.le_of_ble_eq_true rfl, Nat.le_of_ble_eq_true rfl⟩ ⟨Nat.zero_le _, Nat.zero_le _⟩ dX9_sellFirst_68 ?_
    refine g_iload hC 5 rfl dX9_sellFirst_71 ?_
    refine g_imul hC dX9_sellFirst_73 ?_
    refine g_istore (L2 := [(8, .int (v17 * x5)), (7, .int v14), (0, .ref (ad 0)), (2, .int x2), (3, .int x3), (4, .int x4), (5, .int x5), (6, .int x6)]) hC (by decide) rfl dX9_sellFirst_74 ?_
    refine g_aload_n hC 2 rfl rfl dX9_sellFirst_76 ?_
    refine g_getR hC fF_X9_33 lkC_0_3 dX9_sellFirst_77 ?_
    refine g_iload hC 1 rfl dX9_sellFirst_80 ?_
    refine g_iload hC 5 rfl dX9_sellFirst_82 ?_
    refine g_iload hC 6 rfl dX9_sellFirst_84 ?_
    obtain ⟨v20, M21, c22, h⟩ := gq_b_i h
    refine g_Vv (as := [.int v14, .int x4, .int x5]) hC (t_X1_sell N _ _ _ _ _ _ c22) mV_X1_sell  wm_X9_402 obC_34 rfl rfl (Nat.le_of_ble_eq_true rfl) ⟨Nat.le_of_ble_eq_true rfl, Nat.le_of_ble_eq_true rfl⟩ ⟨Nat.zero_le _, Nat.zero_le _⟩ dX9_sellFirst_86 ?_
    refine g_aload_n hC 2 rfl rfl dX9_sellFirst_89 ?_
    refine g_getR hC fF_X9_33 lkC_0_3 dX9_sellFirst_90 ?_
    refine g_getR hC fF_X9_260 lkC_34_8 dX9_sellFirst_93 ?_
    refine g_iload hC 1 rfl dX9_sellFirst_96 ?_
    refine g_aload_n hC 2 rfl rfl dX9_sellFirst_98 ?_
    refine g_getI hC fF_X9_65 lkC_0_8 dX9_sellFirst_99 ?_
    obtain ⟨v23, M24, c25, h⟩ := gq_b_i h
    refine g_Vv (as := [.int v14, .int (M21 0 8)]) hC (t_X8_put lkC_51_0 arC_52 N _ _ _ _ _ c25) mV_X8_put  wm_X9_104 obC_51 rfl rfl (Nat.le_of_ble_eq_true rfl) ⟨Nat.le_of_ble_eq_true rfl, Nat.le_of_ble_eq_true rfl⟩ ⟨Nat.zero_le _, Nat.zero_le _⟩ dX9_sellFirst_102 ?_
    refine g_aload_n hC 2 rfl rfl dX9_sellFirst_105 ?_
    refine g_getR hC fF_X9_33 lkC_0_3 dX9_sellFirst_106 ?_
    refine g_getR hC fF_X9_310 lkC_34_9 dX9_sellFirst_109 ?_
    refine g_iload hC 1 rfl dX9_sellFirst_112 ?_
    refine g_aload_n hC 2 rfl rfl dX9_sellFirst_114 ?_
    refine g_getI hC fF_X9_69 lkC_0_9 dX9_sellFirst_115 ?_
    obtain ⟨v26, M27, c28, h⟩ := gq_b_i h
    refine g_Vv (as := [.int v14, .int (M24 0 9)]) hC (t_X8_put lkC_53_0 arC_54 N _ _ _ _ _ c28) mV_X8_put  wm_X9_104 obC_53 rfl rfl (Nat.le_of_ble_eq_true rfl) ⟨Nat.le_of_ble_eq_true rfl, Nat.le_of_ble_eq_true rfl⟩ ⟨Nat.zero_le _, Nat.zero_le _⟩ dX9_sellFirst_118 ?_
    refine g_aload_n hC 2 rfl rfl dX9_sellFirst_121 ?_
    refine g_getR hC fF_X9_26 lkC_0_2 dX9_sellFirst_122 ?_
    refine g_getR hC fF_X9_241 lkC_23_2 dX9_sellFirst_125 ?_
    refine g_iload hC 5 rfl dX9_sellFirst_128 ?_
    refine g_iload hC 0 rfl dX9_sellFirst_130 ?_
    obtain ⟨v29, M30, c31, h⟩ := gq_b_i h
    refine g_Vv (as := [.int x4, .int (v17 * x5)]) hC (t_X8_add lkC_28_0 arC_29 N _ _ _ _ _ c31) mV_X8_add  wm_X9_252 obC_28 rfl rfl (Nat.le_of_ble_eq_true rfl) ⟨Nat.le_of_ble_eq_true rfl, Nat.le_of_ble_eq_true rfl⟩ ⟨Nat.zero_le _, Nat.zero_le _⟩ dX9_sellFirst_132 ?_
    refine g_aload_n hC 2 rfl rfl dX9_sellFirst_135 ?_
    refine g_getR hC fF_X9_26 lkC_0_2 dX9_sellFirst_136 ?_
    refine g_getR hC fF_X9_295 lkC_23_3 dX9_sellFirst_139 ?_
    refine g_iload hC 5 rfl dX9_sellFirst_142 ?_
    refine g_iconst (v := 1) hC (by decide) dX9_sellFirst_144 ?_
    obtain ⟨v32, M33, c34, h⟩ := gq_b_i h
    refine g_Vv (as := [.int x4, .int 1]) hC (t_X8_add lkC_30_0 arC_31 N _ _ _ _ _ c34) mV_X8_add  wm_X9_252 obC_30 rfl rfl (Nat.le_of_ble_eq_true rfl) ⟨Nat.le_of_ble_eq_true rfl, Nat.le_of_ble_eq_true rfl⟩ ⟨Nat.zero_le _, Nat.zero_le _⟩ dX9_sellFirst_145 ?_
    refine g_aload_n hC 2 rfl rfl dX9_sellFirst_148 ?_
    refine g_getR hC fF_X9_10 lkC_0_0 dX9_sellFirst_149 ?_
    refine g_getR hC fF_X9_266 lkC_1_5 dX9_sellFirst_152 ?_
    refine g_aload_n hC 2 rfl rfl dX9_sellFirst_155 ?_
    refine g_getR hC fF_X9_33 lkC_0_3 dX9_sellFirst_156 ?_
    refine g_getR hC fF_X9_269 lkC_34_0 dX9_sellFirst_159 ?_
    refine g_iload hC 1 rfl dX9_sellFirst_162 ?_
    obtain ⟨v35, M36, c37, h⟩ := gq_b_i h
    refine g_Vi (as := [.int v14]) hC (t_X8_at lkC_35_0 arC_36 N _ _ _ _ c37) mV_X8_at  wm_X9_200 obC_35 rfl rfl (Nat.le_of_ble_eq_true rfl) ⟨Nat.le_of_ble_eq_true rfl, Nat.le_of_ble_eq_true rfl⟩ ⟨Nat.zero_le _, Nat.zero_le _⟩ dX9_sellFirst_164 ?_
    refine g_iload hC 0 rfl dX9_sellFirst_167 ?_
    obtain ⟨v38, M39, c40, h⟩ := gq_b_i h
    refine g_Vv (as := [.int v35, .int (v17 * x5)]) hC (t_X8_add lkC_12_0 arC_13 N _ _ _ _ _ c40) mV_X8_add  wm_X9_252 obC_12 rfl rfl (Nat.le_of_ble_eq_true rfl) ⟨Nat.le_of_ble_eq_true rfl, Nat.le_of_ble_eq_true rfl⟩ ⟨Nat.zero_le _, Nat.zero_le _⟩ dX9_sellFirst_169 ?_
    refine g_iinc (v := (x6 + 1)) (L2 := [(6, .int (x6 + 1)), (8, .int (v17 * x5)), (7, .int v14), (0, .ref (ad 0)), (2, .int x2), (3, .int x3), (4, .int x4), (5, .int x5)]) hC 7 rfl (by first | rfl | decide) (by decide) rfl dX9_sellFirst_172 ?_
    refine g_goto (tgt := 41) hC (by decide) dX9_sellFirst_175 ?_
    exact g_weak [3, 4, 5, 6, 7, 0] rfl (hk41 x2 x3 x4 x5 (x6 + 1) M39 h)
theorem t_X9_sellFirst_41 {N : Nat} {v9 : Int32} {M9 : gq_M} (hC : gq_C p s m args meth c D A cI cZ ad mtC RX9 cX9_sellFirst 9) (hr : meth.sig.returnType = none)  : ∀ (n9 : Nat) (x2 : Int32) (x3 : Int32) (x4 : Int32) (x5 : Int32) (x6 : Int32) (M : gq_M), f_X9_sellFirst_41 N  n9 x2 x3 x4 x5 x6 M = some (v9, M9) → gq_W p l e (gq_rm 3) s m args below meth c D A cI cZ ad mtC 9 (MQ below (gq_Qv D cI cZ ad mtC M9 A) args s 0 0 A) 41 [(0, .ref (ad 0)), (2, .int x2), (3, .int x3), (4, .int x4), (5, .int x5), (6, .int x6)] [] M 0 0 := by
  intro n9
  induction n9 with
  | zero => intro x2 x3 x4 x5 x6 M h; cases h
  | succ n9 ih => intro x2 x3 x4 x5 x6 M h; exact t_X9_sellFirst_41_b hC hr  ih x2 x3 x4 x5 x6 M h
def f_X9_sellFirst (N : Nat) (a1 : Int32) (a2 : Int32) (M : gq_M) : Option (Int32 × gq_M) :=
  gq_b (f_X8_at 80 3 N a1 M) fun v1 M2 => gq_b (f_X8_at 84 3 N a1 M2) fun v4 M5 => gq_b (f_X8_at 82 3 N a1 M5) fun v7 M8 => f_X9_sellFirst_41 N  N a2 v1 v4 v7 0 M8
set_option maxHeartbeats 1000000 in
set_option maxRecDepth 20000 in
theorem t_X9_sellFirst {l : Launch} {D : va_G} {cI cZ : ClassId} {ad : Nat → Nat} (N : Nat) (a1 : Int32) (a2 : Int32) (M : gq_M) (v9 : Int32) (M9 : gq_M) (h : f_X9_sellFirst N a1 a2 M = some (v9, M9)) : gq_Cv l D cI cZ ad mtC yX9_sellFirst cX9_sellFirst 9 3 [.ref (ad 0), .int a1, .int a2] M M9 := by
  refine gq_introV (own := RX9) (by decide) rfl (Nat.le_of_ble_eq_true rfl) ?_
  intro p e s m below meth c hC hr
  refine g_cast (L2 := [(0, .ref (ad 0)), (1, .int a1), (2, .int a2)]) ?_ rfl rfl rfl rfl
  unfold f_X9_sellFirst at h
  refine g_aload_n hC 0 rfl rfl dX9_sellFirst_0 ?_
  refine g_getR hC fF_X9_47 lkC_0_5 dX9_sellFirst_1 ?_
  refine g_getR hC fF_X9_216 lkC_76_1 dX9_sellFirst_4 ?_
  refine g_iload_n hC 1 rfl rfl dX9_sellFirst_7 ?_
  obtain ⟨v1, M2, c3, h⟩ := gq_b_i h
  refine g_Vi (as := [.int a1]) hC (t_X8_at lkC_79_0 arC_80 N _ _ _ _ c3) mV_X8_at  wm_X9_200 obC_79 rfl rfl (Nat.le_of_ble_eq_true rfl) ⟨Nat.le_of_ble_eq_true rfl, Nat.le_of_ble_eq_true rfl⟩ ⟨Nat.zero_le _, Nat.zero_le _⟩ dX9_sellFirst_8 ?_
  refine g_istore_n (L2 := [(3, .int v1), (0, .ref (ad 0)), (1, .int a1), (2, .int a2)]) hC rfl (by decide) rfl dX9_sellFirst_11 ?_
  refine g_aload_n hC 1 rfl rfl dX9_sellFirst_12 ?_
  refine g_getR hC fF_X9_47 lkC_0_5 dX9_sellFirst_13 ?_
  refine g_getR hC fF_X9_213 lkC_76_3 dX9_sellFirst_16 ?_
  refine g_iload_n hC 2 rfl rfl dX9_sellFirst_19 ?_
  obtain ⟨v4, M5, c6, h⟩ := gq_b_i h
  refine g_Vi (as := [.int a1]) hC (t_X8_at lkC_83_0 arC_84 N _ _ _ _ c6) mV_X8_at  wm_X9_200 obC_83 rfl rfl (Nat.le_of_ble_eq_true rfl) ⟨Nat.le_of_ble_eq_true rfl, Nat.le_of_ble_eq_true rfl⟩ ⟨Nat.zero_le _, Nat.zero_le _⟩ dX9_sellFirst_20 ?_
  refine g_istore (L2 := [(4, .int v4), (3, .int v1), (0, .ref (ad 0)), (1, .int a1), (2, .int a2)]) hC (by decide) rfl dX9_sellFirst_23 ?_
  refine g_aload_n hC 2 rfl rfl dX9_sellFirst_25 ?_
  refine g_getR hC fF_X9_47 lkC_0_5 dX9_sellFirst_26 ?_
  refine g_getR hC fF_X9_206 lkC_76_2 dX9_sellFirst_29 ?_
  refine g_iload_n hC 3 rfl rfl dX9_sellFirst_32 ?_
  obtain ⟨v7, M8, c9, h⟩ := gq_b_i h
  refine g_Vi (as := [.int a1]) hC (t_X8_at lkC_81_0 arC_82 N _ _ _ _ c9) mV_X8_at  wm_X9_200 obC_81 rfl rfl (Nat.le_of_ble_eq_true rfl) ⟨Nat.le_of_ble_eq_true rfl, Nat.le_of_ble_eq_true rfl⟩ ⟨Nat.zero_le _, Nat.zero_le _⟩ dX9_sellFirst_33 ?_
  refine g_istore (L2 := [(5, .int v7), (4, .int v4), (3, .int v1), (0, .ref (ad 0)), (1, .int a1), (2, .int a2)]) hC (by decide) rfl dX9_sellFirst_36 ?_
  refine g_iconst (v := 0) hC (by decide) dX9_sellFirst_38 ?_
  refine g_istore (L2 := [(6, .int 0), (5, .int v7), (4, .int v4), (3, .int v1), (0, .ref (ad 0)), (1, .int a1), (2, .int a2)]) hC (by decide) rfl dX9_sellFirst_39 ?_
  exact g_weak [4, 6, 3, 2, 1, 0] rfl (t_X9_sellFirst_41 hC hr  N a2 v1 v4 v7 0 M8 h)
def f_X9_tickTaking_52 (N : Nat) (x1 : Int32) (M : gq_M) : Option (Int32 × gq_M) :=
  gq_b (f_X9_goOn N x1 M) fun v18 M19 => some (0, M19)
set_option maxHeartbeats 1000000 in
set_option maxRecDepth 20000 in
theorem t_X9_tickTaking_52 {N : Nat} {v9 : Int32} {M9 : gq_M} (hC : gq_C p s m args meth c D A cI cZ ad mtC RX9 cX9_tickTaking 2) (hr : meth.sig.returnType = none)   : ∀ (x1 : Int32) (M : gq_M), f_X9_tickTaking_52 N  x1 M = some (v9, M9) → gq_W p l e (gq_rm 4) s m args below meth c D A cI cZ ad mtC 2 (MQ below (gq_Qv D cI cZ ad mtC M9 A) args s 0 0 A) 52 [(0, .ref (ad 0)), (1, .int x1)] [] M 0 0 := by
  intro x1 M h
  unfold f_X9_tickTaking_52 at h
  refine g_aload_n hC 0 rfl rfl dX9_tickTaking_52 ?_
  refine g_iload_n hC 1 rfl rfl dX9_tickTaking_53 ?_
  obtain ⟨v18, M19, c20, h⟩ := gq_b_i h
  refine g_Vv (as := [.int x1]) hC (t_X9_goOn N _ _ _ _ c20) mV_X9_goOn  wm_X9_229 obC_0 rfl rfl (Nat.le_of_ble_eq_true rfl) ⟨Nat.le_of_ble_eq_true rfl, Nat.le_of_ble_eq_true rfl⟩ ⟨Nat.zero_le _, Nat.zero_le _⟩ dX9_tickTaking_54 ?_
  exact g_vrets hC hr h dX9_tickTaking_57
def f_X9_tickTaking (N : Nat) (a1 : Int32) (M : gq_M) : Option (Int32 × gq_M) :=
  gq_b (f_X8_at 88 3 N a1 M) fun v1 M2 => if v1 ≤ (M 0 8) then (gq_b (f_X9_costOfFirst N a1 1 M2) fun v5 M6 => gq_b (f_X8_at 84 3 N a1 M6) fun v8 M9 => gq_b (f_X2_leftOf N v8 M9) fun v11 M12 => if v11 < v5 then (f_X9_tickTaking_52 N  a1 M12) else (gq_b (f_X9_sellFirst N a1 1 M12) fun v15 M16 => f_X9_tickTaking_52 N  a1 M16)) else (some (0, M2))
set_option maxHeartbeats 1000000 in
set_option maxRecDepth 20000 in
theorem t_X9_tickTaking {l : Launch} {D : va_G} {cI cZ : ClassId} {ad : Nat → Nat} (N : Nat) (a1 : Int32) (M : gq_M) (v9 : Int32) (M9 : gq_M) (h : f_X9_tickTaking N a1 M = some (v9, M9)) : gq_Cv l D cI cZ ad mtC yX9_tickTaking cX9_tickTaking 2 4 [.ref (ad 0), .int a1] M M9 := by
  refine gq_introV (own := RX9) (by decide) rfl (Nat.le_of_ble_eq_true rfl) ?_
  intro p e s m below meth c hC hr
  refine g_cast (L2 := [(0, .ref (ad 0)), (1, .int a1)]) ?_ rfl rfl rfl rfl
  unfold f_X9_tickTaking at h
  refine g_aload_n hC 0 rfl rfl dX9_tickTaking_0 ?_
  refine g_getI hC fF_X9_65 lkC_0_8 dX9_tickTaking_1 ?_
  refine g_aload_n hC 0 rfl rfl dX9_tickTaking_4 ?_
  refine g_getR hC fF_X9_47 lkC_0_5 dX9_tickTaking_5 ?_
  refine g_getR hC fF_X9_374 lkC_76_5 dX9_tickTaking_8 ?_
  refine g_iload_n hC 1 rfl rfl dX9_tickTaking_11 ?_
  obtain ⟨v1, M2, c3, h⟩ := gq_b_i h
  refine g_Vi (as := [.int a1]) hC (t_X8_at lkC_87_0 arC_88 N _ _ _ _ c3) mV_X8_at  wm_X9_200 obC_87 rfl rfl (Nat.le_of_ble_eq_true rfl) ⟨Nat.le_of_ble_eq_true rfl, Nat.le_of_ble_eq_true rfl⟩ ⟨Nat.zero_le _, Nat.zero_le _⟩ dX9_tickTaking_12 ?_
  refine g_icmp_ge (tgt := 19) hC (by decide) dX9_tickTaking_15 (fun c4 => ?_) (fun c4 => ?_)
  · replace h := gq_t c4 h
    refine g_aload_n hC 0 rfl rfl dX9_tickTaking_19 ?_
    refine g_iload_n hC 1 rfl rfl dX9_tickTaking_20 ?_
    refine g_iconst (v := 1) hC (by decide) dX9_tickTaking_21 ?_
    obtain ⟨v5, M6, c7, h⟩ := gq_b_i h
    refine g_Vi (as := [.int a1, .int 1]) hC (t_X9_costOfFirst N _ _ _ _ _ c7) mV_X9_costOfFirst  wm_X9_220 obC_0 rfl rfl (Nat.le_of_ble_eq_true rfl) ⟨Nat.le_of_ble_eq_true rfl, Nat.le_of_ble_eq_true rfl⟩ ⟨Nat.zero_le _, Nat.zero_le _⟩ dX9_tickTaking_22 ?_
    refine g_aload_n hC 0 rfl rfl dX9_tickTaking_25 ?_
    refine g_getR hC fF_X9_26 lkC_0_2 dX9_tickTaking_26 ?_
    refine g_aload_n hC 0 rfl rfl dX9_tickTaking_29 ?_
    refine g_getR hC fF_X9_47 lkC_0_5 dX9_tickTaking_30 ?_
    refine g_getR hC fF_X9_213 lkC_76_3 dX9_tickTaking_33 ?_
    refine g_iload_n hC 1 rfl rfl dX9_tickTaking_36 ?_
    obtain ⟨v8, M9, c10, h⟩ := gq_b_i h
    refine g_Vi (as := [.int a1]) hC (t_X8_at lkC_83_0 arC_84 N _ _ _ _ c10) mV_X8_at  wm_X9_200 obC_83 rfl rfl (Nat.le_of_ble_eq_true rfl) ⟨Nat.le_of_ble_eq_true rfl, Nat.le_of_ble_eq_true rfl⟩ ⟨Nat.zero_le _, Nat.zero_le _⟩ dX9_tickTaking_37 ?_
    obtain ⟨v11, M12, c13, h⟩ := gq_b_i h
    refine g_Vi (as := [.int v8]) hC (t_X2_leftOf N _ _ _ _ c13) mV_X2_leftOf  wm_X9_223 obC_23 rfl rfl (Nat.le_of_ble_eq_true rfl) ⟨Nat.le_of_ble_eq_true rfl, Nat.le_of_ble_eq_true rfl⟩ ⟨Nat.zero_le _, Nat.zero_le _⟩ dX9_tickTaking_40 ?_
    refine g_icmp_gt (tgt := 52) hC (by decide) dX9_tickTaking_43 (fun c14 => ?_) (fun c14 => ?_)
    · replace h := gq_t c14 h
      exact g_weak [0, 1] rfl (t_X9_tickTaking_52 hC hr  a1 M12 h)
    · replace h := gq_f c14 h
      refine g_aload_n hC 0 rfl rfl dX9_tickTaking_46 ?_
      refine g_iload_n hC 1 rfl rfl dX9_tickTaking_47 ?_
      refine g_iconst (v := 1) hC (by decide) dX9_tickTaking_48 ?_
      obtain ⟨v15, M16, c17, h⟩ := gq_b_i h
      refine g_Vv (as := [.int a1, .int 1]) hC (t_X9_sellFirst N _ _ _ _ _ c17) mV_X9_sellFirst  wm_X9_226 obC_0 rfl rfl (Nat.le_of_ble_eq_true rfl) ⟨Nat.le_of_ble_eq_true rfl, Nat.le_of_ble_eq_true rfl⟩ ⟨Nat.zero_le _, Nat.zero_le _⟩ dX9_tickTaking_49 ?_
      exact g_weak [0, 1] rfl (t_X9_tickTaking_52 hC hr  a1 M16 h)
  · replace h := gq_f c4 h
    exact g_vrets hC hr h dX9_tickTaking_18
def f_X9_tickHalls_84 (N : Nat) (kh2 : Int32 → gq_M → Option (Int32 × gq_M)) (x1 : Int32) (M : gq_M) : Option (Int32 × gq_M) :=
  kh2 (x1 + 1) M
set_option maxHeartbeats 1000000 in
set_option maxRecDepth 20000 in
theorem t_X9_tickHalls_84 {N : Nat} {kh2 : Int32 → gq_M → Option (Int32 × gq_M)} {v9 : Int32} {M9 : gq_M} (hC : gq_C p s m args meth c D A cI cZ ad mtC RX9 cX9_tickHalls 2) (hr : meth.sig.returnType = none) (hk2 : ∀ (x1 : Int32) (M : gq_M), kh2 x1 M = some (v9, M9) → gq_W p l e (gq_rm 5) s m args below meth c D A cI cZ ad mtC 2 (MQ below (gq_Qv D cI cZ ad mtC M9 A) args s 0 0 A) 2 [(0, .ref (ad 0)), (1, .int x1)] [] M 0 0)  : ∀ (x1 : Int32) (M : gq_M), f_X9_tickHalls_84 N kh2 x1 M = some (v9, M9) → gq_W p l e (gq_rm 5) s m args below meth c D A cI cZ ad mtC 2 (MQ below (gq_Qv D cI cZ ad mtC M9 A) args s 0 0 A) 84 [(0, .ref (ad 0)), (1, .int x1)] [] M 0 0 := by
  intro x1 M h
  unfold f_X9_tickHalls_84 at h
  refine g_iinc (v := (x1 + 1)) (L2 := [(1, .int (x1 + 1)), (0, .ref (ad 0))]) hC 1 rfl (by first | rfl | decide) (by decide) rfl dX9_tickHalls_84 ?_
  refine g_goto (tgt := 2) hC (by decide) dX9_tickHalls_87 ?_
  exact g_weak [1, 0] rfl (hk2 (x1 + 1) M h)
def f_X9_tickHalls_2_b (N : Nat) (kh2 : Int32 → gq_M → Option (Int32 × gq_M)) (x1 : Int32) (M : gq_M) : Option (Int32 × gq_M) :=
  if 3 ≤ x1 then (some (0, M)) else (gq_b (f_X8_at 92 3 N x1 M) fun v2 M3 => if v2 = 0 then (f_X9_tickHalls_84 N kh2 x1 M3) else (gq_b (f_X8_at 78 3 N x1 M3) fun v6 M7 => if v6 = 1 then (gq_b (f_X9_tickFalling N x1 M7) fun v10 M11 => f_X9_tickHalls_84 N kh2 x1 M11) else if v6 = 2 then (gq_b (f_X9_tickStanding N x1 M7) fun v14 M15 => f_X9_tickHalls_84 N kh2 x1 M15) else if v6 = 3 then (gq_b (f_X9_tickTaking N x1 M7) fun v18 M19 => f_X9_tickHalls_84 N kh2 x1 M19) else (f_X9_tickHalls_84 N kh2 x1 M7)))
def f_X9_tickHalls_2 (N : Nat) : Nat → Int32 → gq_M → Option (Int32 × gq_M)
  | 0 => fun _ _ => none
  | n9 + 1 => f_X9_tickHalls_2_b N  (f_X9_tickHalls_2 N  n9)
set_option maxHeartbeats 1000000 in
set_option maxRecDepth 20000 in
theorem t_X9_tickHalls_2_b {N : Nat} {kh2 : Int32 → gq_M → Option (Int32 × gq_M)} {v9 : Int32} {M9 : gq_M} (hC : gq_C p s m args meth c D A cI cZ ad mtC RX9 cX9_tickHalls 2) (hr : meth.sig.returnType = none)  (hk2 : ∀ (x1 : Int32) (M : gq_M), kh2 x1 M = some (v9, M9) → gq_W p l e (gq_rm 5) s m args below meth c D A cI cZ ad mtC 2 (MQ below (gq_Qv D cI cZ ad mtC M9 A) args s 0 0 A) 2 [(0, .ref (ad 0)), (1, .int x1)] [] M 0 0) : ∀ (x1 : Int32) (M : gq_M), f_X9_tickHalls_2_b N  kh2 x1 M = some (v9, M9) → gq_W p l e (gq_rm 5) s m args below meth c D A cI cZ ad mtC 2 (MQ below (gq_Qv D cI cZ ad mtC M9 A) args s 0 0 A) 2 [(0, .ref (ad 0)), (1, .int x1)] [] M 0 0 := by
  intro x1 M h
  unfold f_X9_tickHalls_2_b at h
  refine g_iload_n hC 1 rfl rfl dX9_tickHalls_2 ?_
  refine g_iconst (v := 3) hC (by decide) dX9_tickHalls_3 ?_
  refine g_icmp_ge (tgt := 90) hC (by decide) dX9_tickHalls_4 (fun c1 => ?_) (fun c1 => ?_)
  · replace h := gq_t c1 h
    exact g_vrets hC hr h dX9_tickHalls_90
  · replace h := gq_f c1 h
    refine g_aload_n hC 0 rfl rfl dX9_tickHalls_7 ?_
    refine g_getR hC fF_X9_47 lkC_0_5 dX9_tickHalls_8 ?_
    refine g_getR hC fF_X9_129 lkC_76_7 dX9_tickHalls_11 ?_
    refine g_iload_n hC 1 rfl rfl dX9_tickHalls_14 ?_
    obtain ⟨v2, M3, c4, h⟩ := gq_b_i h
    refine g_Vi (as := [.int x1]) hC (t_X8_at lkC_91_0 arC_92 N _ _ _ _ c4) mV_X8_at  wm_X9_200 obC_91 rfl rfl (Nat.le_of_ble_eq_true rfl) ⟨Nat.le_of_ble_eq_true rfl, Nat.le_of_ble_eq_true rfl⟩ ⟨Nat.zero_le _, Nat.zero_le _⟩ dX9_tickHalls_15 ?_
    refine g_if_ne (tgt := 24) hC (by decide) dX9_tickHalls_18 (fun c5 => ?_) (fun c5 => ?_)
    · replace h := gq_f c5 h
      refine g_aload_n hC 0 rfl rfl dX9_tickHalls_24 ?_
      refine g_getR hC fF_X9_47 lkC_0_5 dX9_tickHalls_25 ?_
      refine g_getR hC fF_X9_197 lkC_76_0 dX9_tickHalls_28 ?_
      refine g_iload_n hC 1 rfl rfl dX9_tickHalls_31 ?_
      obtain ⟨v6, M7, c8, h⟩ := gq_b_i h
      refine g_Vi (as := [.int x1]) hC (t_X8_at lkC_77_0 arC_78 N _ _ _ _ c8) mV_X8_at  wm_X9_200 obC_77 rfl rfl (Nat.le_of_ble_eq_true rfl) ⟨Nat.le_of_ble_eq_true rfl, Nat.le_of_ble_eq_true rfl⟩ ⟨Nat.zero_le _, Nat.zero_le _⟩ dX9_tickHalls_32 ?_
      rcases gq_or h with ⟨c9, h⟩ | ⟨c9, h⟩
      · refine g_tsIn (tgt := 60) hC (by rw [c9]; decide) (by rw [c9]; decide) (by rw [c9]; rfl) (by decide) dX9_tickHalls_35 ?_
        refine g_aload_n hC 0 rfl rfl dX9_tickHalls_60 ?_
        refine g_iload_n hC 1 rfl rfl dX9_tickHalls_61 ?_
        obtain ⟨v10, M11, c12, h⟩ := gq_b_i h
        refine g_Vv (as := [.int x1]) hC (t_X9_tickFalling N _ _ _ _ c12) mV_X9_tickFalling  wm_X9_362 obC_0 rfl rfl (Nat.le_of_ble_eq_true rfl) ⟨Nat.le_of_ble_eq_true rfl, Nat.le_of_ble_eq_true rfl⟩ ⟨Nat.zero_le _, Nat.zero_le _⟩ dX9_tickHalls_62 ?_
        refine g_goto (tgt := 84) hC (by decide) dX9_tickHalls_65 ?_
        exact g_weak [0, 1] rfl (t_X9_tickHalls_84 hC hr hk2 x1 M11 h)
      rcases gq_or h with ⟨c13, h⟩ | ⟨c13, h⟩
      · refine g_tsIn (tgt := 68) hC (by rw [c13]; decide) (by rw [c13]; decide) (by rw [c13]; rfl) (by decide) dX9_tickHalls_35 ?_
        refine g_aload_n hC 0 rfl rfl dX9_tickHalls_68 ?_
        refine g_iload_n hC 1 rfl rfl dX9_tickHalls_69 ?_
        obtain ⟨v14, M15, c16, h⟩ := gq_b_i h
        refine g_Vv (as := [.int x1]) hC (t_X9_tickStanding N _ _ _ _ c16) mV_X9_tickStanding  wm_X9_365 obC_0 rfl rfl (Nat.le_of_ble_eq_true rfl) ⟨Nat.le_of_ble_eq_true rfl, Nat.le_of_ble_eq_true rfl⟩ ⟨Nat.zero_le _, Nat.zero_le _⟩ dX9_tickHalls_70 ?_
        refine g_goto (tgt := 84) hC (by decide) dX9_tickHalls_73 ?_
        exact g_weak [0, 1] rfl (t_X9_tickHalls_84 hC hr hk2 x1 M15 h)
      rcases gq_or h with ⟨c17, h⟩ | ⟨c17, h⟩
      · refine g_tsIn (tgt := 76) hC (by rw [c17]; decide) (by rw [c17]; decide) (by rw [c17]; rfl) (by decide) dX9_tickHalls_35 ?_
        refine g_aload_n hC 0 rfl rfl dX9_tickHalls_76 ?_
        refine g_iload_n hC 1 rfl rfl dX9_tickHalls_77 ?_
        obtain ⟨v18, M19, c20, h⟩ := gq_b_i h
        refine g_Vv (as := [.int x1]) hC (t_X9_tickTaking N _ _ _ _ c20) mV_X9_tickTaking  wm_X9_368 obC_0 rfl rfl (Nat.le_of_ble_eq_true rfl) ⟨Nat.le_of_ble_eq_true rfl, Nat.le_of_ble_eq_true rfl⟩ ⟨Nat.zero_le _, Nat.zero_le _⟩ dX9_tickHalls_78 ?_
        refine g_goto (tgt := 84) hC (by decide) dX9_tickHalls_81 ?_
        exact g_weak [0, 1] rfl (t_X9_tickHalls_84 hC hr hk2 x1 M19 h)
      refine g_tsOut (tgt := 84) hC (by have z0 := lv_neT c9 (a := 1) (by decide); have z1 := lv_neT c13 (a := 2) (by decide); have z2 := lv_neT c17 (a := 3) (by decide); omega) (by decide) dX9_tickHalls_35 ?_
      exact g_weak [0, 1] rfl (t_X9_tickHalls_84 hC hr hk2 x1 M7 h)
    · replace h := gq_t c5 h
      refine g_goto (tgt := 84) hC (by decide) dX9_tickHalls_21 ?_
      exact g_weak [0, 1] rfl (t_X9_tickHalls_84 hC hr hk2 x1 M3 h)
theorem t_X9_tickHalls_2 {N : Nat} {v9 : Int32} {M9 : gq_M} (hC : gq_C p s m args meth c D A cI cZ ad mtC RX9 cX9_tickHalls 2) (hr : meth.sig.returnType = none)  : ∀ (n9 : Nat) (x1 : Int32) (M : gq_M), f_X9_tickHalls_2 N  n9 x1 M = some (v9, M9) → gq_W p l e (gq_rm 5) s m args below meth c D A cI cZ ad mtC 2 (MQ below (gq_Qv D cI cZ ad mtC M9 A) args s 0 0 A) 2 [(0, .ref (ad 0)), (1, .int x1)] [] M 0 0 := by
  intro n9
  induction n9 with
  | zero => intro x1 M h; cases h
  | succ n9 ih => intro x1 M h; exact t_X9_tickHalls_2_b hC hr  ih x1 M h
def f_X9_tickHalls (N : Nat) (M : gq_M) : Option (Int32 × gq_M) :=
  f_X9_tickHalls_2 N  N 0 M
set_option maxHeartbeats 1000000 in
set_option maxRecDepth 20000 in
theorem t_X9_tickHalls {l : Launch} {D : va_G} {cI cZ : ClassId} {ad : Nat → Nat} (N : Nat) (M : gq_M) (v9 : Int32) (M9 : gq_M) (h : f_X9_tickHalls N  M = some (v9, M9)) : gq_Cv l D cI cZ ad mtC yX9_tickHalls cX9_tickHalls 2 5 [.ref (ad 0)] M M9 := by
  refine gq_introV (own := RX9) (by decide) rfl (Nat.le_of_ble_eq_true rfl) ?_
  intro p e s m below meth c hC hr
  refine g_cast (L2 := [(0, .ref (ad 0))]) ?_ rfl rfl rfl rfl
  unfold f_X9_tickHalls at h
  refine g_iconst (v := 0) hC (by decide) dX9_tickHalls_0 ?_
  refine g_istore_n (L2 := [(1, .int 0), (0, .ref (ad 0))]) hC rfl (by decide) rfl dX9_tickHalls_1 ?_
  exact g_weak [1, 0] rfl (t_X9_tickHalls_2 hC hr  N 0 M h)
def f_X9_fetch_95 (N : Nat) (x1 : Int32) (x3 : Int32) (M : gq_M) : Option (Int32 × gq_M) :=
  gq_b (f_X8_put 108 20 N x1 x3 M) fun v20 M21 => some (0, M21)
set_option maxHeartbeats 1000000 in
set_option maxRecDepth 20000 in
theorem t_X9_fetch_95 {N : Nat} {v9 : Int32} {M9 : gq_M} (hC : gq_C p s m args meth c D A cI cZ ad mtC RX9 cX9_fetch 5) (hr : meth.sig.returnType = none)   : ∀ (x1 : Int32) (x3 : Int32) (M : gq_M), f_X9_fetch_95 N  x1 x3 M = some (v9, M9) → gq_W p l e (gq_rm 2) s m args below meth c D A cI cZ ad mtC 5 (MQ below (gq_Qv D cI cZ ad mtC M9 A) args s 0 0 A) 95 [(0, .ref (ad 0)), (1, .int x1), (3, .int x3)] [] M 0 0 := by
  intro x1 x3 M h
  unfold f_X9_fetch_95 at h
  refine g_aload_n hC 0 rfl rfl dX9_fetch_95 ?_
  refine g_getR hC fF_X9_61 lkC_0_7 dX9_fetch_96 ?_
  refine g_getR hC fF_X9_313 lkC_100_3 dX9_fetch_99 ?_
  refine g_iload_n hC 1 rfl rfl dX9_fetch_102 ?_
  refine g_iload_n hC 2 rfl rfl dX9_fetch_103 ?_
  obtain ⟨v20, M21, c22, h⟩ := gq_b_i h
  refine g_Vv (as := [.int x1, .int x3]) hC (t_X8_put lkC_107_0 arC_108 N _ _ _ _ _ c22) mV_X8_put  wm_X9_104 obC_107 rfl rfl (Nat.le_of_ble_eq_true rfl) ⟨Nat.le_of_ble_eq_true rfl, Nat.le_of_ble_eq_true rfl⟩ ⟨Nat.zero_le _, Nat.zero_le _⟩ dX9_fetch_104 ?_
  exact g_vrets hC hr h dX9_fetch_107
def f_X9_fetch_89 (N : Nat) (kh17 : Int32 → Int32 → Int32 → Int32 → gq_M → Option (Int32 × gq_M)) (x1 : Int32) (x2 : Int32) (x3 : Int32) (x4 : Int32) (M : gq_M) : Option (Int32 × gq_M) :=
  kh17 x1 x2 x3 (x4 + 1) M
set_option maxHeartbeats 1000000 in
set_option maxRecDepth 20000 in
theorem t_X9_fetch_89 {N : Nat} {kh17 : Int32 → Int32 → Int32 → Int32 → gq_M → Option (Int32 × gq_M)} {v9 : Int32} {M9 : gq_M} (hC : gq_C p s m args meth c D A cI cZ ad mtC RX9 cX9_fetch 5) (hr : meth.sig.returnType = none) (hk17 : ∀ (x1 : Int32) (x2 : Int32) (x3 : Int32) (x4 : Int32) (M : gq_M), kh17 x1 x2 x3 x4 M = some (v9, M9) → gq_W p l e (gq_rm 2) s m args below meth c D A cI cZ ad mtC 5 (MQ below (gq_Qv D cI cZ ad mtC M9 A) args s 0 0 A) 17 [(0, .ref (ad 0)), (1, .int x1), (2, .int x2), (3, .int x3), (4, .int x4)] [] M 0 0)  : ∀ (x1 : Int32) (x2 : Int32) (x3 : Int32) (x4 : Int32) (M : gq_M), f_X9_fetch_89 N kh17 x1 x2 x3 x4 M = some (v9, M9) → gq_W p l e (gq_rm 2) s m args below meth c D A cI cZ ad mtC 5 (MQ below (gq_Qv D cI cZ ad mtC M9 A) args s 0 0 A) 89 [(0, .ref (ad 0)), (1, .int x1), (2, .int x2), (3, .int x3), (4, .int x4)] [] M 0 0 := by
  intro x1 x2 x3 x4 M h
  unfold f_X9_fetch_89 at h
  refine g_iinc (v := (x4 + 1)) (L2 := [(4, .int (x4 + 1)), (0, .ref (ad 0)), (1, .int x1), (2, .int x2), (3, .int x3)]) hC 4 rfl (by first | rfl | decide) (by decide) rfl dX9_fetch_89 ?_
  refine g_goto (tgt := 17) hC (by decide) dX9_fetch_92 ?_
  exact g_weak [1, 2, 3, 4, 0] rfl (hk17 x1 x2 x3 (x4 + 1) M h)
def f_X9_fetch_17_b (N : Nat) (kh17 : Int32 → Int32 → Int32 → Int32 → gq_M → Option (Int32 × gq_M)) (x1 : Int32) (x2 : Int32) (x3 : Int32) (x4 : Int32) (M : gq_M) : Option (Int32 × gq_M) :=
  if (M 34 13) ≤ x4 then (f_X9_fetch_95 N  x1 x3 M) else (if x2 ≤ x3 then (f_X9_fetch_95 N  x1 x3 M) else (gq_b (f_X8_at 44 150 N x4 M) fun v6 M7 => if v6 = 3 then (gq_b (f_X8_at 48 150 N x4 M7) fun v10 M11 => gq_b (f_X8_at 102 20 N x1 M11) fun v13 M14 => if v10 = v13 then (gq_b (f_X1_move N x4 4 M14) fun v17 M18 => f_X9_fetch_89 N kh17 x1 x2 (x3 + 1) x4 M18) else (f_X9_fetch_89 N kh17 x1 x2 x3 x4 M14)) else (f_X9_fetch_89 N kh17 x1 x2 x3 x4 M7)))
def f_X9_fetch_17 (N : Nat) : Nat → Int32 → Int32 → Int32 → Int32 → gq_M → Option (Int32 × gq_M)
  | 0 => fun _ _ _ _ _ => none
  | n9 + 1 => f_X9_fetch_17_b N  (f_X9_fetch_17 N  n9)
set_option maxHeartbeats 1000000 in
set_option maxRecDepth 20000 in
theorem t_X9_fetch_17_b {N : Nat} {kh17 : Int32 → Int32 → Int32 → Int32 → gq_M → Option (Int32 × gq_M)} {v9 : Int32} {M9 : gq_M} (hC : gq_C p s m args meth c D A cI cZ ad mtC RX9 cX9_fetch 5) (hr : meth.sig.returnType = none)  (hk17 : ∀ (x1 : Int32) (x2 : Int32) (x3 : Int32) (x4 : Int32) (M : gq_M), kh17 x1 x2 x3 x4 M = some (v9, M9) → gq_W p l e (gq_rm 2) s m args below meth c D A cI cZ ad mtC 5 (MQ below (gq_Qv D cI cZ ad mtC M9 A) args s 0 0 A) 17 [(0, .ref (ad 0)), (1, .int x1), (2, .int x2), (3, .int x3), (4, .int x4)] [] M 0 0) : ∀ (x1 : Int32) (x2 : Int32) (x3 : Int32) (x4 : Int32) (M : gq_M), f_X9_fetch_17_b N  kh17 x1 x2 x3 x4 M = some (v9, M9) → gq_W p l e (gq_rm 2) s m args below meth c D A cI cZ ad mtC 5 (MQ below (gq_Qv D cI cZ ad mtC M9 A) args s 0 0 A) 17 [(0, .ref (ad 0)), (1, .int x1), (2, .int x2), (3, .int x3), (4, .int x4)] [] M 0 0 := by
  intro x1 x2 x3 x4 M h
  unfold f_X9_fetch_17_b at h
  refine g_iload hC 4 rfl dX9_fetch_17 ?_
  refine g_aload_n hC 0 rfl rfl dX9_fetch_19 ?_
  refine g_getR hC fF_X9_33 lkC_0_3 dX9_fetch_20 ?_
  refine g_getI hC fF_X9_135 lkC_34_13 dX9_fetch_23 ?_
  refine g_icmp_ge (tgt := 95) hC (by decide) dX9_fetch_26 (fun c4 => ?_) (fun c4 => ?_)
  · replace h := gq_t c4 h
    exact g_weak [0, 1, 3] rfl (t_X9_fetch_95 hC hr  x1 x3 M h)
  · replace h := gq_f c4 h
    refine g_iload_n hC 3 rfl rfl dX9_fetch_29 ?_
    refine g_iload_n hC 2 rfl rfl dX9_fetch_30 ?_
    refine g_icmp_ge (tgt := 95) hC (by decide) dX9_fetch_31 (fun c5 => ?_) (fun c5 => ?_)
    · replace h := gq_t c5 h
      exact g_weak [0, 1, 3] rfl (t_X9_fetch_95 hC hr  x1 x3 M h)
    · replace h := gq_f c5 h
      refine g_aload_n hC 0 rfl rfl dX9_fetch_34 ?_
      refine g_getR hC fF_X9_33 lkC_0_3 dX9_fetch_35 ?_
      refine g_getR hC fF_X9_278 lkC_34_4 dX9_fetch_38 ?_
      refine g_iload hC 4 rfl dX9_fetch_41 ?_
      obtain ⟨v6, M7, c8, h⟩ := gq_b_i h
      refine g_Vi (as := [.int x4]) hC (t_X8_at lkC_43_0 arC_44 N _ _ _ _ c8) mV_X8_at  wm_X9_200 obC_43 rfl rfl (Nat.le_of_ble_eq_true rfl) ⟨Nat.le_of_ble_eq_true rfl, Nat.le_of_ble_eq_true rfl⟩ ⟨Nat.zero_le _, Nat.zero_le _⟩ dX9_fetch_43 ?_
      refine g_iconst (v := 3) hC (by decide) dX9_fetch_46 ?_
      refine g_icmp_ne (tgt := 89) hC (by decide) dX9_fetch_47 (fun c9 => ?_) (fun c9 => ?_)
      · replace h := gq_f c9 h
        exact g_weak [0, 1, 2, 3, 4] rfl (t_X9_fetch_89 hC hr hk17 x1 x2 x3 x4 M7 h)
      · replace h := gq_t c9 h
        refine g_aload_n hC 0 rfl rfl dX9_fetch_50 ?_
        refine g_getR hC fF_X9_33 lkC_0_3 dX9_fetch_51 ?_
        refine g_getR hC fF_X9_254 lkC_34_6 dX9_fetch_54 ?_
        refine g_iload hC 4 rfl dX9_fetch_57 ?_
        obtain ⟨v10, M11, c12, h⟩ := gq_b_i h
        refine g_Vi (as := [.int x4]) hC (t_X8_at lkC_47_0 arC_48 N _ _ _ _ c12) mV_X8_at  wm_X9_200 obC_47 rfl rfl (Nat.le_of_ble_eq_true rfl) ⟨Nat.le_of_ble_eq_true rfl, Nat.le_of_ble_eq_true rfl⟩ ⟨Nat.zero_le _, Nat.zero_le _⟩ dX9_fetch_59 ?_
        refine g_aload_n hC 0 rfl rfl dX9_fetch_62 ?_
        refine g_getR hC fF_X9_61 lkC_0_7 dX9_fetch_63 ?_
        refine g_getR hC fF_X9_426 lkC_100_0 dX9_fetch_66 ?_
        refine g_iload_n hC 1 rfl rfl dX9_fetch_69 ?_
        obtain ⟨v13, M14, c15, h⟩ := gq_b_i h
        refine g_Vi (as := [.int x1]) hC (t_X8_at lkC_101_0 arC_102 N _ _ _ _ c15) mV_X8_at  wm_X9_200 obC_101 rfl rfl (Nat.le_of_ble_eq_true rfl) ⟨Nat.le_of_ble_eq_true rfl, Nat.le_of_ble_eq_true rfl⟩ ⟨Nat.zero_le _, Nat.zero_le _⟩ dX9_fetch_70 ?_
        refine g_icmp_ne (tgt := 89) hC (by decide) dX9_fetch_73 (fun c16 => ?_) (fun c16 => ?_)
        · replace h := gq_f c16 h
          exact g_weak [0, 1, 2, 3, 4] rfl (t_X9_fetch_89 hC hr hk17 x1 x2 x3 x4 M14 h)
        · replace h := gq_t c16 h
          refine g_aload_n hC 0 rfl rfl dX9_fetch_76 ?_
          refine g_getR hC fF_X9_33 lkC_0_3 dX9_fetch_77 ?_
          refine g_iload hC 4 rfl dX9_fetch_80 ?_
          refine g_iconst (v := 4) hC (by decide) dX9_fetch_82 ?_
          obtain ⟨v17, M18, c19, h⟩ := gq_b_i h
          refine g_Vv (as := [.int x4, .int 4]) hC (t_X1_move N _ _ _ _ _ c19) mV_X1_move  wm_X9_359 obC_34 rfl rfl (Nat.le_of_ble_eq_true rfl) ⟨Nat.le_of_ble_eq_true rfl, Nat.le_of_ble_eq_true rfl⟩ ⟨Nat.zero_le _, Nat.zero_le _⟩ dX9_fetch_83 ?_
          refine g_iinc (v := (x3 + 1)) (L2 := [(3, .int (x3 + 1)), (0, .ref (ad 0)), (1, .int x1), (2, .int x2), (4, .int x4)]) hC 3 rfl (by first | rfl | decide) (by decide) rfl dX9_fetch_86 ?_
          exact g_weak [1, 2, 3, 0, 4] rfl (t_X9_fetch_89 hC hr hk17 x1 x2 (x3 + 1) x4 M18 h)
theorem t_X9_fetch_17 {N : Nat} {v9 : Int32} {M9 : gq_M} (hC : gq_C p s m args meth c D A cI cZ ad mtC RX9 cX9_fetch 5) (hr : meth.sig.returnType = none)  : ∀ (n9 : Nat) (x1 : Int32) (x2 : Int32) (x3 : Int32) (x4 : Int32) (M : gq_M), f_X9_fetch_17 N  n9 x1 x2 x3 x4 M = some (v9, M9) → gq_W p l e (gq_rm 2) s m args below meth c D A cI cZ ad mtC 5 (MQ below (gq_Qv D cI cZ ad mtC M9 A) args s 0 0 A) 17 [(0, .ref (ad 0)), (1, .int x1), (2, .int x2), (3, .int x3), (4, .int x4)] [] M 0 0 := by
  intro n9
  induction n9 with
  | zero => intro x1 x2 x3 x4 M h; cases h
  | succ n9 ih => intro x1 x2 x3 x4 M h; exact t_X9_fetch_17_b hC hr  ih x1 x2 x3 x4 M h
def f_X9_fetch (N : Nat) (a1 : Int32) (M : gq_M) : Option (Int32 × gq_M) :=
  gq_b (f_X8_at 106 20 N a1 M) fun v1 M2 => f_X9_fetch_17 N  N a1 v1 0 0 M2
set_option maxHeartbeats 1000000 in
set_option maxRecDepth 20000 in
theorem t_X9_fetch {l : Launch} {D : va_G} {cI cZ : ClassId} {ad : Nat → Nat} (N : Nat) (a1 : Int32) (M : gq_M) (v9 : Int32) (M9 : gq_M) (h : f_X9_fetch N a1 M = some (v9, M9)) : gq_Cv l D cI cZ ad mtC yX9_fetch cX9_fetch 5 2 [.ref (ad 0), .int a1] M M9 := by
  refine gq_introV (own := RX9) (by decide) rfl (Nat.le_of_ble_eq_true rfl) ?_
  intro p e s m below meth c hC hr
  refine g_cast (L2 := [(0, .ref (ad 0)), (1, .int a1)]) ?_ rfl rfl rfl rfl
  unfold f_X9_fetch at h
  refine g_aload_n hC 0 rfl rfl dX9_fetch_0 ?_
  refine g_getR hC fF_X9_61 lkC_0_7 dX9_fetch_1 ?_
  refine g_getR hC fF_X9_423 lkC_100_2 dX9_fetch_4 ?_
  refine g_iload_n hC 1 rfl rfl dX9_fetch_7 ?_
  obtain ⟨v1, M2, c3, h⟩ := gq_b_i h
  refine g_Vi (as := [.int a1]) hC (t_X8_at lkC_105_0 arC_106 N _ _ _ _ c3) mV_X8_at  wm_X9_200 obC_105 rfl rfl (Nat.le_of_ble_eq_true rfl) ⟨Nat.le_of_ble_eq_true rfl, Nat.le_of_ble_eq_true rfl⟩ ⟨Nat.zero_le _, Nat.zero_le _⟩ dX9_fetch_8 ?_
  refine g_istore_n (L2 := [(2, .int v1), (0, .ref (ad 0)), (1, .int a1)]) hC rfl (by decide) rfl dX9_fetch_11 ?_
  refine g_iconst (v := 0) hC (by decide) dX9_fetch_12 ?_
  refine g_istore_n (L2 := [(3, .int 0), (2, .int v1), (0, .ref (ad 0)), (1, .int a1)]) hC rfl (by decide) rfl dX9_fetch_13 ?_
  refine g_iconst (v := 0) hC (by decide) dX9_fetch_14 ?_
  refine g_istore (L2 := [(4, .int 0), (3, .int 0), (2, .int v1), (0, .ref (ad 0)), (1, .int a1)]) hC (by decide) rfl dX9_fetch_15 ?_
  exact g_weak [3, 4, 2, 1, 0] rfl (t_X9_fetch_17 hC hr  N a1 v1 0 0 M2 h)
def f_X9_sendLorries_36 (N : Nat) (kh2 : Int32 → gq_M → Option (Int32 × gq_M)) (x1 : Int32) (M : gq_M) : Option (Int32 × gq_M) :=
  kh2 (x1 + 1) M
set_option maxHeartbeats 1000000 in
set_option maxRecDepth 20000 in
theorem t_X9_sendLorries_36 {N : Nat} {kh2 : Int32 → gq_M → Option (Int32 × gq_M)} {v9 : Int32} {M9 : gq_M} (hC : gq_C p s m args meth c D A cI cZ ad mtC RX9 cX9_sendLorries 2) (hr : meth.sig.returnType = none) (hk2 : ∀ (x1 : Int32) (M : gq_M), kh2 x1 M = some (v9, M9) → gq_W p l e (gq_rm 3) s m args below meth c D A cI cZ ad mtC 2 (MQ below (gq_Qv D cI cZ ad mtC M9 A) args s 0 0 A) 2 [(0, .ref (ad 0)), (1, .int x1)] [] M 0 0)  : ∀ (x1 : Int32) (M : gq_M), f_X9_sendLorries_36 N kh2 x1 M = some (v9, M9) → gq_W p l e (gq_rm 3) s m args below meth c D A cI cZ ad mtC 2 (MQ below (gq_Qv D cI cZ ad mtC M9 A) args s 0 0 A) 36 [(0, .ref (ad 0)), (1, .int x1)] [] M 0 0 := by
  intro x1 M h
  unfold f_X9_sendLorries_36 at h
  refine g_iinc (v := (x1 + 1)) (L2 := [(1, .int (x1 + 1)), (0, .ref (ad 0))]) hC 1 rfl (by first | rfl | decide) (by decide) rfl dX9_sendLorries_36 ?_
  refine g_goto (tgt := 2) hC (by decide) dX9_sendLorries_39 ?_
  exact g_weak [1, 0] rfl (hk2 (x1 + 1) M h)
def f_X9_sendLorries_2_b (N : Nat) (kh2 : Int32 → gq_M → Option (Int32 × gq_M)) (x1 : Int32) (M : gq_M) : Option (Int32 × gq_M) :=
  if (M 100 4) ≤ x1 then (some (0, M)) else (gq_b (f_X8_at 104 20 N x1 M) fun v2 M3 => if v2 = (M3 0 8) then (gq_b (f_X9_fetch N x1 M3) fun v6 M7 => f_X9_sendLorries_36 N kh2 x1 M7) else (f_X9_sendLorries_36 N kh2 x1 M3))
def f_X9_sendLorries_2 (N : Nat) : Nat → Int32 → gq_M → Option (Int32 × gq_M)
  | 0 => fun _ _ => none
  | n9 + 1 => f_X9_sendLorries_2_b N  (f_X9_sendLorries_2 N  n9)
set_option maxHeartbeats 1000000 in
set_option maxRecDepth 20000 in
theorem t_X9_sendLorries_2_b {N : Nat} {kh2 : Int32 → gq_M → Option (Int32 × gq_M)} {v9 : Int32} {M9 : gq_M} (hC : gq_C p s m args meth c D A cI cZ ad mtC RX9 cX9_sendLorries 2) (hr : meth.sig.returnType = none)  (hk2 : ∀ (x1 : Int32) (M : gq_M), kh2 x1 M = some (v9, M9) → gq_W p l e (gq_rm 3) s m args below meth c D A cI cZ ad mtC 2 (MQ below (gq_Qv D cI cZ ad mtC M9 A) args s 0 0 A) 2 [(0, .ref (ad 0)), (1, .int x1)] [] M 0 0) : ∀ (x1 : Int32) (M : gq_M), f_X9_sendLorries_2_b N  kh2 x1 M = some (v9, M9) → gq_W p l e (gq_rm 3) s m args below meth c D A cI cZ ad mtC 2 (MQ below (gq_Qv D cI cZ ad mtC M9 A) args s 0 0 A) 2 [(0, .ref (ad 0)), (1, .int x1)] [] M 0 0 := by
  intro x1 M h
  unfold f_X9_sendLorries_2_b at h
  refine g_iload_n hC 1 rfl rfl dX9_sendLorries_2 ?_
  refine g_aload_n hC 0 rfl rfl dX9_sendLorries_3 ?_
  refine g_getR hC fF_X9_61 lkC_0_7 dX9_sendLorries_4 ?_
  refine g_getI hC fF_X9_238 lkC_100_4 dX9_sendLorries_7 ?_
  refine g_icmp_ge (tgt := 42) hC (by decide) dX9_sendLorries_10 (fun c1 => ?_) (fun c1 => ?_)
  · replace h := gq_t c1 h
    exact g_vrets hC hr h dX9_sendLorries_42
  · replace h := gq_f c1 h
    refine g_aload_n hC 0 rfl rfl dX9_sendLorries_13 ?_
    refine g_getR hC fF_X9_61 lkC_0_7 dX9_sendLorries_14 ?_
    refine g_getR hC fF_X9_417 lkC_100_1 dX9_sendLorries_17 ?_
    refine g_iload_n hC 1 rfl rfl dX9_sendLorries_20 ?_
    obtain ⟨v2, M3, c4, h⟩ := gq_b_i h
    refine g_Vi (as := [.int x1]) hC (t_X8_at lkC_103_0 arC_104 N _ _ _ _ c4) mV_X8_at  wm_X9_200 obC_103 rfl rfl (Nat.le_of_ble_eq_true rfl) ⟨Nat.le_of_ble_eq_true rfl, Nat.le_of_ble_eq_true rfl⟩ ⟨Nat.zero_le _, Nat.zero_le _⟩ dX9_sendLorries_21 ?_
    refine g_aload_n hC 0 rfl rfl dX9_sendLorries_24 ?_
    refine g_getI hC fF_X9_65 lkC_0_8 dX9_sendLorries_25 ?_
    refine g_icmp_ne (tgt := 36) hC (by decide) dX9_sendLorries_28 (fun c5 => ?_) (fun c5 => ?_)
    · replace h := gq_f c5 h
      exact g_weak [0, 1] rfl (t_X9_sendLorries_36 hC hr hk2 x1 M3 h)
    · replace h := gq_t c5 h
      refine g_aload_n hC 0 rfl rfl dX9_sendLorries_31 ?_
      refine g_iload_n hC 1 rfl rfl dX9_sendLorries_32 ?_
      obtain ⟨v6, M7, c8, h⟩ := gq_b_i h
      refine g_Vv (as := [.int x1]) hC (t_X9_fetch N _ _ _ _ c8) mV_X9_fetch  wm_X9_420 obC_0 rfl rfl (Nat.le_of_ble_eq_true rfl) ⟨Nat.le_of_ble_eq_true rfl, Nat.le_of_ble_eq_true rfl⟩ ⟨Nat.zero_le _, Nat.zero_le _⟩ dX9_sendLorries_33 ?_
      exact g_weak [0, 1] rfl (t_X9_sendLorries_36 hC hr hk2 x1 M7 h)
theorem t_X9_sendLorries_2 {N : Nat} {v9 : Int32} {M9 : gq_M} (hC : gq_C p s m args meth c D A cI cZ ad mtC RX9 cX9_sendLorries 2) (hr : meth.sig.returnType = none)  : ∀ (n9 : Nat) (x1 : Int32) (M : gq_M), f_X9_sendLorries_2 N  n9 x1 M = some (v9, M9) → gq_W p l e (gq_rm 3) s m args below meth c D A cI cZ ad mtC 2 (MQ below (gq_Qv D cI cZ ad mtC M9 A) args s 0 0 A) 2 [(0, .ref (ad 0)), (1, .int x1)] [] M 0 0 := by
  intro n9
  induction n9 with
  | zero => intro x1 M h; cases h
  | succ n9 ih => intro x1 M h; exact t_X9_sendLorries_2_b hC hr  ih x1 M h
def f_X9_sendLorries (N : Nat) (M : gq_M) : Option (Int32 × gq_M) :=
  f_X9_sendLorries_2 N  N 0 M
set_option maxHeartbeats 1000000 in
set_option maxRecDepth 20000 in
theorem t_X9_sendLorries {l : Launch} {D : va_G} {cI cZ : ClassId} {ad : Nat → Nat} (N : Nat) (M : gq_M) (v9 : Int32) (M9 : gq_M) (h : f_X9_sendLorries N  M = some (v9, M9)) : gq_Cv l D cI cZ ad mtC yX9_sendLorries cX9_sendLorries 2 3 [.ref (ad 0)] M M9 := by
  refine gq_introV (own := RX9) (by decide) rfl (Nat.le_of_ble_eq_true rfl) ?_
  intro p e s m below meth c hC hr
  refine g_cast (L2 := [(0, .ref (ad 0))]) ?_ rfl rfl rfl rfl
  unfold f_X9_sendLorries at h
  refine g_iconst (v := 0) hC (by decide) dX9_sendLorries_0 ?_
  refine g_istore_n (L2 := [(1, .int 0), (0, .ref (ad 0))]) hC rfl (by decide) rfl dX9_sendLorries_1 ?_
  exact g_weak [1, 0] rfl (t_X9_sendLorries_2 hC hr  N 0 M h)
end
