theorem ob_row {mt : List gq_T} {q r : Nat} (hq : gq_lk mt q 8 0 (some r)) : gq_ob mt q RX8 := by
  obtain ⟨fd, h, -⟩ := hq
  exact ⟨_, fd, _, h, rfl, rfl⟩
section
variable {p : Program} {l : Launch} {e : Env} {s : State} {m : MethodId} {args : Array Value} {below : List Frame} {meth : Method} {c : Code} {D : va_G} {A : Nat → Prop} {cI cZ : ClassId} {ad : Nat → Nat}
def f_X0_placeOf (N : Nat) (a0 : Int32) (a1 : Int32) (M : gq_M) : Option (Int32 × gq_M) :=
  some (((a0 * 4) + a1), M)
set_option maxHeartbeats 1000000 in
set_option maxRecDepth 20000 in
theorem t_X0_placeOf {l : Launch} {D : va_G} {cI cZ : ClassId} {ad : Nat → Nat} (N : Nat) (a0 : Int32) (a1 : Int32) (M : gq_M) (v9 : Int32) (M9 : gq_M) (h : f_X0_placeOf N a0 a1 M = some (v9, M9)) : gq_Ci l D cI cZ ad mtC yX0_placeOf cX0_placeOf 2 (some .int) 0 [.int a0, .int a1] M v9 M9 := by
  refine gq_introI (own := RX0) (by decide) rfl (Nat.le_of_ble_eq_true rfl) ?_
  intro p e s m below meth c hC hr
  refine g_cast (L2 := [(0, .int a0), (1, .int a1)]) ?_ rfl rfl rfl rfl
  unfold f_X0_placeOf at h
  refine g_iload_n hC 0 rfl rfl dX0_placeOf_0 ?_
  refine g_iconst (v := 4) hC (by decide) dX0_placeOf_1 ?_
  refine g_imul hC dX0_placeOf_2 ?_
  refine g_iload_n hC 1 rfl rfl dX0_placeOf_3 ?_
  refine g_iadd hC dX0_placeOf_4 ?_
  exact g_irets hC hr h dX0_placeOf_5
def f_X8_add (r n : Nat) (N : Nat) (a1 : Int32) (a2 : Int32) (M : gq_M) : Option (Int32 × gq_M) :=
  if a1 < 0 then (some (0, M)) else (if (nI n) ≤ a1 then (some (0, M)) else (gq_g (gq_in a1 n) (gq_l (M r a1.toNatClampNeg) fun v4 => gq_g (gq_in a1 n) (gq_l (gq_up M r a1.toNatClampNeg (v4 + a2)) fun M6 => some (0, M6)))))
set_option maxHeartbeats 1000000 in
set_option maxRecDepth 20000 in
theorem t_X8_add {l : Launch} {D : va_G} {cI cZ : ClassId} {ad : Nat → Nat} {mt : List gq_T} {q r n : Nat} (hq : gq_lk mt q 8 0 (some r)) (hr2 : mt[r]? = some (.inr (false, n))) (N : Nat) (a1 : Int32) (a2 : Int32) (M : gq_M) (v9 : Int32) (M9 : gq_M) (h : f_X8_add r n N a1 a2 M = some (v9, M9)) : gq_Cv l D cI cZ ad mt yX8_add cX8_add 3 0 [.ref (ad q), .int a1, .int a2] M M9 := by
  refine gq_introV (own := RX8) (by decide) rfl (Nat.le_of_ble_eq_true rfl) ?_
  intro p e s m below meth c hC hr
  refine g_cast (L2 := [(0, .ref (ad q)), (1, .int a1), (2, .int a2)]) ?_ rfl rfl rfl rfl
  unfold f_X8_add at h
  refine g_iload_n hC 1 rfl rfl dX8_add_0 ?_
  refine g_if_lt (tgt := 23) hC (by decide) dX8_add_1 (fun c1 => ?_) (fun c1 => ?_)
  · replace h := gq_t c1 h
    exact g_vrets hC hr h dX8_add_23
  · replace h := gq_f c1 h
    refine g_iload_n hC 1 rfl rfl dX8_add_4 ?_
    refine g_aload_n hC 0 rfl rfl dX8_add_5 ?_
    refine g_getR hC fF_X8_7 hq dX8_add_6 ?_
    refine g_alen hC hr2 dX8_add_9 ?_
    refine g_icmp_ge (tgt := 23) hC (by decide) dX8_add_10 (fun c2 => ?_) (fun c2 => ?_)
    · replace h := gq_t c2 h
      exact g_vrets hC hr h dX8_add_23
    · replace h := gq_f c2 h
      refine g_aload_n hC 0 rfl rfl dX8_add_13 ?_
      refine g_getR hC fF_X8_7 hq dX8_add_14 ?_
      refine g_iload_n hC 1 rfl rfl dX8_add_17 ?_
      refine g_dup2 hC rfl rfl dX8_add_18 ?_
      obtain ⟨g3, h⟩ := gq_g_i h
      refine g_iald hC hr2 (gq_in_i g3) dX8_add_19 ?_
      refine g_topi (fun v4 hv4 => ?_)
      replace h := gq_l_i hv4 h
      refine g_iload_n hC 2 rfl rfl dX8_add_20 ?_
      refine g_iadd hC dX8_add_21 ?_
      obtain ⟨g5, h⟩ := gq_g_i h
      refine g_iast hC hr2 (gq_in_i g5) dX8_add_22 ?_
      refine g_topM (fun M6 hM6 => ?_)
      replace h := gq_l_i hM6 h
      exact g_vrets hC hr h dX8_add_23
def f_X0_addLanded (N : Nat) (a1 : Int32) (a2 : Int32) (a3 : Int32) (M : gq_M) : Option (Int32 × gq_M) :=
  gq_b (f_X8_add 7 8 N a1 a3 M) fun v1 M2 => gq_b (f_X0_placeOf N a1 a2 M2) fun v4 M5 => gq_b (f_X8_add 5 32 N v4 a3 M5) fun v7 M8 => some (0, M8)
set_option maxHeartbeats 1000000 in
set_option maxRecDepth 20000 in
theorem t_X0_addLanded {l : Launch} {D : va_G} {cI cZ : ClassId} {ad : Nat → Nat} (N : Nat) (a1 : Int32) (a2 : Int32) (a3 : Int32) (M : gq_M) (v9 : Int32) (M9 : gq_M) (h : f_X0_addLanded N a1 a2 a3 M = some (v9, M9)) : gq_Cv l D cI cZ ad mtC yX0_addLanded cX0_addLanded 4 1 [.ref (ad 1), .int a1, .int a2, .int a3] M M9 := by
  refine gq_introV (own := RX0) (by decide) rfl (Nat.le_of_ble_eq_true rfl) ?_
  intro p e s m below meth c hC hr
  refine g_cast (L2 := [(0, .ref (ad 1)), (1, .int a1), (2, .int a2), (3, .int a3)]) ?_ rfl rfl rfl rfl
  unfold f_X0_addLanded at h
  refine g_aload_n hC 0 rfl rfl dX0_addLanded_0 ?_
  refine g_getR hC fF_X0_23 lkC_1_2 dX0_addLanded_1 ?_
  refine g_iload_n hC 1 rfl rfl dX0_addLanded_4 ?_
  refine g_iload_n hC 3 rfl rfl dX0_addLanded_5 ?_
  obtain ⟨v1, M2, c3, h⟩ := gq_b_i h
  refine g_Vv (as := [.int a1, .int a3]) hC (t_X8_add lkC_6_0 arC_7 N _ _ _ _ _ c3) mV_X8_add  wm_X0_38 obC_6 rfl rfl (Nat.le_of_ble_eq_true rfl) ⟨Nat.le_of_ble_eq_true rfl, Nat.le_of_ble_eq_true rfl⟩ ⟨Nat.zero_le _, Nat.zero_le _⟩ dX0_addLanded_6 ?_
  refine g_aload_n hC 0 rfl rfl dX0_addLanded_9 ?_
  refine g_getR hC fF_X0_20 lkC_1_1 dX0_addLanded_10 ?_
  refine g_iload_n hC 1 rfl rfl dX0_addLanded_13 ?_
  refine g_iload_n hC 2 rfl rfl dX0_addLanded_14 ?_
  obtain ⟨v4, M5, c6, h⟩ := gq_b_i h
  refine g_Si (as := [.int a1, .int a2]) hC (t_X0_placeOf N _ _ _ _ _ c6) mS_X0_placeOf wm_X0_41 rfl rfl (Nat.le_of_ble_eq_true rfl) ⟨Nat.le_of_ble_eq_true rfl, Nat.le_of_ble_eq_true rfl⟩ ⟨Nat.zero_le _, Nat.zero_le _⟩ dX0_addLanded_15 ?_
  refine g_iload_n hC 3 rfl rfl dX0_addLanded_18 ?_
  obtain ⟨v7, M8, c9, h⟩ := gq_b_i h
  refine g_Vv (as := [.int v4, .int a3]) hC (t_X8_add lkC_4_0 arC_5 N _ _ _ _ _ c9) mV_X8_add  wm_X0_38 obC_4 rfl rfl (Nat.le_of_ble_eq_true rfl) ⟨Nat.le_of_ble_eq_true rfl, Nat.le_of_ble_eq_true rfl⟩ ⟨Nat.zero_le _, Nat.zero_le _⟩ dX0_addLanded_19 ?_
  exact g_vrets hC hr h dX0_addLanded_22
def f_X8_at_23 (r n : Nat) (N : Nat) (s0 : Int32) (M : gq_M) : Option (Int32 × gq_M) :=
  some (s0, M)
set_option maxHeartbeats 1000000 in
set_option maxRecDepth 20000 in
theorem t_X8_at_23 {N : Nat} {mt : List gq_T} {q r n : Nat} {v9 : Int32} {M9 : gq_M} (hC : gq_C p s m args meth c D A cI cZ ad mt RX8 cX8_at 2) (hr : meth.sig.returnType = (some .int)) (hq : gq_lk mt q 8 0 (some r)) (hr2 : mt[r]? = some (.inr (false, n)))   : ∀ (s0 : Int32) (M : gq_M), f_X8_at_23 r n N  s0 M = some (v9, M9) → gq_W p l e (gq_rm 0) s m args below meth c D A cI cZ ad mt 2 (MQ below (gq_Qi D cI cZ ad mt v9 M9 A) args s 0 0 A) 23 [] [.int s0] M 0 0 := by
  intro s0 M h
  unfold f_X8_at_23 at h
  exact g_irets hC hr h dX8_at_23
def f_X8_at_22 (r n : Nat) (N : Nat) (M : gq_M) : Option (Int32 × gq_M) :=
  f_X8_at_23 r n N  0 M
set_option maxHeartbeats 1000000 in
set_option maxRecDepth 20000 in
theorem t_X8_at_22 {N : Nat} {mt : List gq_T} {q r n : Nat} {v9 : Int32} {M9 : gq_M} (hC : gq_C p s m args meth c D A cI cZ ad mt RX8 cX8_at 2) (hr : meth.sig.returnType = (some .int)) (hq : gq_lk mt q 8 0 (some r)) (hr2 : mt[r]? = some (.inr (false, n)))   : ∀ (M : gq_M), f_X8_at_22 r n N   M = some (v9, M9) → gq_W p l e (gq_rm 0) s m args below meth c D A cI cZ ad mt 2 (MQ below (gq_Qi D cI cZ ad mt v9 M9 A) args s 0 0 A) 22 [] [] M 0 0 := by
  intro  M h
  unfold f_X8_at_22 at h
  refine g_iconst (v := 0) hC (by decide) dX8_at_22 ?_
  exact g_weak [] rfl (t_X8_at_23 hC hr hq hr2  0 M h)
def f_X8_at (r n : Nat) (N : Nat) (a1 : Int32) (M : gq_M) : Option (Int32 × gq_M) :=
  if a1 < 0 then (f_X8_at_22 r n N   M) else (if (nI n) ≤ a1 then (f_X8_at_22 r n N   M) else (gq_g (gq_in a1 n) (gq_l (M r a1.toNatClampNeg) fun v4 => f_X8_at_23 r n N  v4 M)))
set_option maxHeartbeats 1000000 in
set_option maxRecDepth 20000 in
theorem t_X8_at {l : Launch} {D : va_G} {cI cZ : ClassId} {ad : Nat → Nat} {mt : List gq_T} {q r n : Nat} (hq : gq_lk mt q 8 0 (some r)) (hr2 : mt[r]? = some (.inr (false, n))) (N : Nat) (a1 : Int32) (M : gq_M) (v9 : Int32) (M9 : gq_M) (h : f_X8_at r n N a1 M = some (v9, M9)) : gq_Ci l D cI cZ ad mt yX8_at cX8_at 2 (some .int) 0 [.ref (ad q), .int a1] M v9 M9 := by
  refine gq_introI (own := RX8) (by decide) rfl (Nat.le_of_ble_eq_true rfl) ?_
  intro p e s m below meth c hC hr
  refine g_cast (L2 := [(0, .ref (ad q)), (1, .int a1)]) ?_ rfl rfl rfl rfl
  unfold f_X8_at at h
  refine g_iload_n hC 1 rfl rfl dX8_at_0 ?_
  refine g_if_lt (tgt := 22) hC (by decide) dX8_at_1 (fun c1 => ?_) (fun c1 => ?_)
  · replace h := gq_t c1 h
    exact g_weak [] rfl (t_X8_at_22 hC hr hq hr2   M h)
  · replace h := gq_f c1 h
    refine g_iload_n hC 1 rfl rfl dX8_at_4 ?_
    refine g_aload_n hC 0 rfl rfl dX8_at_5 ?_
    refine g_getR hC fF_X8_7 hq dX8_at_6 ?_
    refine g_alen hC hr2 dX8_at_9 ?_
    refine g_icmp_ge (tgt := 22) hC (by decide) dX8_at_10 (fun c2 => ?_) (fun c2 => ?_)
    · replace h := gq_t c2 h
      exact g_weak [] rfl (t_X8_at_22 hC hr hq hr2   M h)
    · replace h := gq_f c2 h
      refine g_aload_n hC 0 rfl rfl dX8_at_13 ?_
      refine g_getR hC fF_X8_7 hq dX8_at_14 ?_
      refine g_iload_n hC 1 rfl rfl dX8_at_17 ?_
      obtain ⟨g3, h⟩ := gq_g_i h
      refine g_iald hC hr2 (gq_in_i g3) dX8_at_18 ?_
      refine g_topi (fun v4 hv4 => ?_)
      replace h := gq_l_i hv4 h
      refine g_goto (tgt := 23) hC (by decide) dX8_at_19 ?_
      exact g_weak [] rfl (t_X8_at_23 hC hr hq hr2  v4 M h)
def f_X0_isAboveQuota_39 (N : Nat) (s0 : Int32) (M : gq_M) : Option (Int32 × gq_M) :=
  gq_g (gq_bb s0) (some (s0, M))
set_option maxHeartbeats 1000000 in
set_option maxRecDepth 20000 in
theorem t_X0_isAboveQuota_39 {N : Nat} {v9 : Int32} {M9 : gq_M} (hC : gq_C p s m args meth c D A cI cZ ad mtC RX0 cX0_isAboveQuota 4) (hr : meth.sig.returnType = (some .boolean))   : ∀ (s0 : Int32) (M : gq_M), f_X0_isAboveQuota_39 N  s0 M = some (v9, M9) → gq_W p l e (gq_rm 1) s m args below meth c D A cI cZ ad mtC 4 (MQ below (gq_Qi D cI cZ ad mtC v9 M9 A) args s 0 0 A) 39 [] [.int s0] M 0 0 := by
  intro s0 M h
  unfold f_X0_isAboveQuota_39 at h
  obtain ⟨g14, h⟩ := gq_g_i h
  exact g_zrets hC hr (gq_bb_i g14) h dX0_isAboveQuota_39
def f_X0_isAboveQuota (N : Nat) (a1 : Int32) (a2 : Int32) (M : gq_M) : Option (Int32 × gq_M) :=
  gq_b (f_X0_placeOf N a1 a2 M) fun v1 M2 => gq_b (f_X8_at 3 32 N v1 M2) fun v4 M5 => gq_b (f_X0_placeOf N a1 a2 M5) fun v7 M8 => gq_b (f_X8_at 5 32 N v7 M8) fun v10 M11 => if v10 ≤ (v4 + (v4 / 10)) then (f_X0_isAboveQuota_39 N  0 M11) else (f_X0_isAboveQuota_39 N  1 M11)
set_option maxHeartbeats 1000000 in
set_option maxRecDepth 20000 in
theorem t_X0_isAboveQuota {l : Launch} {D : va_G} {cI cZ : ClassId} {ad : Nat → Nat} (N : Nat) (a1 : Int32) (a2 : Int32) (M : gq_M) (v9 : Int32) (M9 : gq_M) (h : f_X0_isAboveQuota N a1 a2 M = some (v9, M9)) : gq_Ci l D cI cZ ad mtC yX0_isAboveQuota cX0_isAboveQuota 4 (some .boolean) 1 [.ref (ad 1), .int a1, .int a2] M v9 M9 := by
  refine gq_introI (own := RX0) (by decide) rfl (Nat.le_of_ble_eq_true rfl) ?_
  intro p e s m below meth c hC hr
  refine g_cast (L2 := [(0, .ref (ad 1)), (1, .int a1), (2, .int a2)]) ?_ rfl rfl rfl rfl
  unfold f_X0_isAboveQuota at h
  refine g_aload_n hC 0 rfl rfl dX0_isAboveQuota_0 ?_
  refine g_getR hC fF_X0_14 lkC_1_0 dX0_isAboveQuota_1 ?_
  refine g_iload_n hC 1 rfl rfl dX0_isAboveQuota_4 ?_
  refine g_iload_n hC 2 rfl rfl dX0_isAboveQuota_5 ?_
  obtain ⟨v1, M2, c3, h⟩ := gq_b_i h
  refine g_Si (as := [.int a1, .int a2]) hC (t_X0_placeOf N _ _ _ _ _ c3) mS_X0_placeOf wm_X0_41 rfl rfl (Nat.le_of_ble_eq_true rfl) ⟨Nat.le_of_ble_eq_true rfl, Nat.le_of_ble_eq_true rfl⟩ ⟨Nat.zero_le _, Nat.zero_le _⟩ dX0_isAboveQuota_6 ?_
  obtain ⟨v4, M5, c6, h⟩ := gq_b_i h
  refine g_Vi (as := [.int v1]) hC (t_X8_at lkC_2_0 arC_3 N _ _ _ _ c6) mV_X8_at  wm_X0_45 obC_2 rfl rfl (Nat.le_of_ble_eq_true rfl) ⟨Nat.le_of_ble_eq_true rfl, Nat.le_of_ble_eq_true rfl⟩ ⟨Nat.zero_le _, Nat.zero_le _⟩ dX0_isAboveQuota_9 ?_
  refine g_istore_n (L2 := [(3, .int v4), (0, .ref (ad 1)), (1, .int a1), (2, .int a2)]) hC rfl (by decide) rfl dX0_isAboveQuota_12 ?_
  refine g_aload_n hC 1 rfl rfl dX0_isAboveQuota_13 ?_
  refine g_getR hC fF_X0_20 lkC_1_1 dX0_isAboveQuota_14 ?_
  refine g_iload_n hC 2 rfl rfl dX0_isAboveQuota_17 ?_
  refine g_iload_n hC 3 rfl rfl dX0_isAboveQuota_18 ?_
  obtain ⟨v7, M8, c9, h⟩ := gq_b_i h
  refine g_Si (as := [.int a1, .int a2]) hC (t_X0_placeOf N _ _ _ _ _ c9) mS_X0_placeOf wm_X0_41 rfl rfl (Nat.le_of_ble_eq_true rfl) ⟨Nat.le_of_ble_eq_true rfl, Nat.le_of_ble_eq_true rfl⟩ ⟨Nat.zero_le _, Nat.zero_le _⟩ dX0_isAboveQuota_19 ?_
  obtain ⟨v10, M11, c12, h⟩ := gq_b_i h
  refine g_Vi (as := [.int v7]) hC (t_X8_at lkC_4_0 arC_5 N _ _ _ _ c12) mV_X8_at  wm_X0_45 obC_4 rfl rfl (Nat.le_of_ble_eq_true rfl) ⟨Nat.le_of_ble_eq_true rfl, Nat.le_of_ble_eq_true rfl⟩ ⟨Nat.zero_le _, Nat.zero_le _⟩ dX0_isAboveQuota_22 ?_
  refine g_iload_n hC 0 rfl rfl dX0_isAboveQuota_25 ?_
  refine g_iload_n hC 0 rfl rfl dX0_isAboveQuota_26 ?_
  refine g_bipush (v := 10) hC (by decide) dX0_isAboveQuota_27 ?_
  refine g_idiv hC (by decide) dX0_isAboveQuota_29 ?_
  refine g_iadd hC dX0_isAboveQuota_30 ?_
  refine g_icmp_le (tgt := 38) hC (by decide) dX0_isAboveQuota_31 (fun c13 => ?_) (fun c13 => ?_)
  · replace h := gq_t c13 h
    refine g_iconst (v := 0) hC (by decide) dX0_isAboveQuota_38 ?_
    exact g_weak [] rfl (t_X0_isAboveQuota_39 hC hr  0 M11 h)
  · replace h := gq_f c13 h
    refine g_iconst (v := 1) hC (by decide) dX0_isAboveQuota_34 ?_
    refine g_goto (tgt := 39) hC (by decide) dX0_isAboveQuota_35 ?_
    exact g_weak [] rfl (t_X0_isAboveQuota_39 hC hr  1 M11 h)
def f_X0_waits_37 (N : Nat) (s0 : Int32) (M : gq_M) : Option (Int32 × gq_M) :=
  gq_g (gq_bb s0) (some (s0, M))
set_option maxHeartbeats 1000000 in
set_option maxRecDepth 20000 in
theorem t_X0_waits_37 {N : Nat} {v9 : Int32} {M9 : gq_M} (hC : gq_C p s m args meth c D A cI cZ ad mtC RX0 cX0_waits 3) (hr : meth.sig.returnType = (some .boolean))   : ∀ (s0 : Int32) (M : gq_M), f_X0_waits_37 N  s0 M = some (v9, M9) → gq_W p l e (gq_rm 1) s m args below meth c D A cI cZ ad mtC 3 (MQ below (gq_Qi D cI cZ ad mtC v9 M9 A) args s 0 0 A) 37 [] [.int s0] M 0 0 := by
  intro s0 M h
  unfold f_X0_waits_37 at h
  obtain ⟨g10, h⟩ := gq_g_i h
  exact g_zrets hC hr (gq_bb_i g10) h dX0_waits_37
def f_X0_waits_36 (N : Nat) (M : gq_M) : Option (Int32 × gq_M) :=
  f_X0_waits_37 N  0 M
set_option maxHeartbeats 1000000 in
set_option maxRecDepth 20000 in
theorem t_X0_waits_36 {N : Nat} {v9 : Int32} {M9 : gq_M} (hC : gq_C p s m args meth c D A cI cZ ad mtC RX0 cX0_waits 3) (hr : meth.sig.returnType = (some .boolean))   : ∀ (M : gq_M), f_X0_waits_36 N   M = some (v9, M9) → gq_W p l e (gq_rm 1) s m args below meth c D A cI cZ ad mtC 3 (MQ below (gq_Qi D cI cZ ad mtC v9 M9 A) args s 0 0 A) 36 [] [] M 0 0 := by
  intro  M h
  unfold f_X0_waits_36 at h
  refine g_iconst (v := 0) hC (by decide) dX0_waits_36 ?_
  exact g_weak [] rfl (t_X0_waits_37 hC hr  0 M h)
def f_X0_waits_28 (N : Nat) (x2 : Int32) (s0 : Int32) (M : gq_M) : Option (Int32 × gq_M) :=
  if s0 = x2 then (f_X0_waits_37 N  1 M) else (f_X0_waits_36 N   M)
set_option maxHeartbeats 1000000 in
set_option maxRecDepth 20000 in
theorem t_X0_waits_28 {N : Nat} {v9 : Int32} {M9 : gq_M} (hC : gq_C p s m args meth c D A cI cZ ad mtC RX0 cX0_waits 3) (hr : meth.sig.returnType = (some .boolean))   : ∀ (x2 : Int32) (s0 : Int32) (M : gq_M), f_X0_waits_28 N  x2 s0 M = some (v9, M9) → gq_W p l e (gq_rm 1) s m args below meth c D A cI cZ ad mtC 3 (MQ below (gq_Qi D cI cZ ad mtC v9 M9 A) args s 0 0 A) 28 [(2, .int x2)] [.int s0] M 0 0 := by
  intro x2 s0 M h
  unfold f_X0_waits_28 at h
  refine g_iload_n hC 0 rfl rfl dX0_waits_28 ?_
  refine g_icmp_ne (tgt := 36) hC (by decide) dX0_waits_29 (fun c9 => ?_) (fun c9 => ?_)
  · replace h := gq_f c9 h
    exact g_weak [] rfl (t_X0_waits_36 hC hr   M h)
  · replace h := gq_t c9 h
    refine g_iconst (v := 1) hC (by decide) dX0_waits_32 ?_
    refine g_goto (tgt := 37) hC (by decide) dX0_waits_33 ?_
    exact g_weak [] rfl (t_X0_waits_37 hC hr  1 M h)
def f_X0_waits (N : Nat) (a1 : Int32) (a2 : Int32) (M : gq_M) : Option (Int32 × gq_M) :=
  gq_b (f_X8_at 15 8 N a1 M) fun v1 M2 => if v1 ≤ 0 then (f_X0_waits_36 N   M2) else (gq_b (f_X8_at 11 8 N a1 M2) fun v5 M6 => if v5 = 1 then (f_X0_waits_28 N  a2 1 M6) else (f_X0_waits_28 N  a2 0 M6))
set_option maxHeartbeats 1000000 in
set_option maxRecDepth 20000 in
theorem t_X0_waits {l : Launch} {D : va_G} {cI cZ : ClassId} {ad : Nat → Nat} (N : Nat) (a1 : Int32) (a2 : Int32) (M : gq_M) (v9 : Int32) (M9 : gq_M) (h : f_X0_waits N a1 a2 M = some (v9, M9)) : gq_Ci l D cI cZ ad mtC yX0_waits cX0_waits 3 (some .boolean) 1 [.ref (ad 1), .int a1, .int a2] M v9 M9 := by
  refine gq_introI (own := RX0) (by decide) rfl (Nat.le_of_ble_eq_true rfl) ?_
  intro p e s m below meth c hC hr
  refine g_cast (L2 := [(0, .ref (ad 1)), (1, .int a1), (2, .int a2)]) ?_ rfl rfl rfl rfl
  unfold f_X0_waits at h
  refine g_aload_n hC 0 rfl rfl dX0_waits_0 ?_
  refine g_getR hC fF_X0_35 lkC_1_6 dX0_waits_1 ?_
  refine g_iload_n hC 1 rfl rfl dX0_waits_4 ?_
  obtain ⟨v1, M2, c3, h⟩ := gq_b_i h
  refine g_Vi (as := [.int a1]) hC (t_X8_at lkC_14_0 arC_15 N _ _ _ _ c3) mV_X8_at  wm_X0_45 obC_14 rfl rfl (Nat.le_of_ble_eq_true rfl) ⟨Nat.le_of_ble_eq_true rfl, Nat.le_of_ble_eq_true rfl⟩ ⟨Nat.zero_le _, Nat.zero_le _⟩ dX0_waits_5 ?_
  refine g_if_le (tgt := 36) hC (by decide) dX0_waits_8 (fun c4 => ?_) (fun c4 => ?_)
  · replace h := gq_t c4 h
    exact g_weak [] rfl (t_X0_waits_36 hC hr   M2 h)
  · replace h := gq_f c4 h
    refine g_aload_n hC 0 rfl rfl dX0_waits_11 ?_
    refine g_getR hC fF_X0_29 lkC_1_4 dX0_waits_12 ?_
    refine g_iload_n hC 1 rfl rfl dX0_waits_15 ?_
    obtain ⟨v5, M6, c7, h⟩ := gq_b_i h
    refine g_Vi (as := [.int a1]) hC (t_X8_at lkC_10_0 arC_11 N _ _ _ _ c7) mV_X8_at  wm_X0_45 obC_10 rfl rfl (Nat.le_of_ble_eq_true rfl) ⟨Nat.le_of_ble_eq_true rfl, Nat.le_of_ble_eq_true rfl⟩ ⟨Nat.zero_le _, Nat.zero_le _⟩ dX0_waits_16 ?_
    refine g_iconst (v := 1) hC (by decide) dX0_waits_19 ?_
    refine g_icmp_ne (tgt := 27) hC (by decide) dX0_waits_20 (fun c8 => ?_) (fun c8 => ?_)
    · replace h := gq_f c8 h
      refine g_iconst (v := 0) hC (by decide) dX0_waits_27 ?_
      exact g_weak [2] rfl (t_X0_waits_28 hC hr  a2 0 M6 h)
    · replace h := gq_t c8 h
      refine g_iconst (v := 1) hC (by decide) dX0_waits_23 ?_
      refine g_goto (tgt := 28) hC (by decide) dX0_waits_24 ?_
      exact g_weak [2] rfl (t_X0_waits_28 hC hr  a2 1 M6 h)
def f_X0_countWaiting_22 (N : Nat) (kh4 : Int32 → Int32 → Int32 → gq_M → Option (Int32 × gq_M)) (x1 : Int32) (x2 : Int32) (x3 : Int32) (M : gq_M) : Option (Int32 × gq_M) :=
  kh4 x1 x2 (x3 + 1) M
set_option maxHeartbeats 1000000 in
set_option maxRecDepth 20000 in
theorem t_X0_countWaiting_22 {N : Nat} {kh4 : Int32 → Int32 → Int32 → gq_M → Option (Int32 × gq_M)} {v9 : Int32} {M9 : gq_M} (hC : gq_C p s m args meth c D A cI cZ ad mtC RX0 cX0_countWaiting 4) (hr : meth.sig.returnType = (some .int)) (hk4 : ∀ (x1 : Int32) (x2 : Int32) (x3 : Int32) (M : gq_M), kh4 x1 x2 x3 M = some (v9, M9) → gq_W p l e (gq_rm 2) s m args below meth c D A cI cZ ad mtC 4 (MQ below (gq_Qi D cI cZ ad mtC v9 M9 A) args s 0 0 A) 4 [(0, .ref (ad 1)), (1, .int x1), (2, .int x2), (3, .int x3)] [] M 0 0)  : ∀ (x1 : Int32) (x2 : Int32) (x3 : Int32) (M : gq_M), f_X0_countWaiting_22 N kh4 x1 x2 x3 M = some (v9, M9) → gq_W p l e (gq_rm 2) s m args below meth c D A cI cZ ad mtC 4 (MQ below (gq_Qi D cI cZ ad mtC v9 M9 A) args s 0 0 A) 22 [(0, .ref (ad 1)), (1, .int x1), (2, .int x2), (3, .int x3)] [] M 0 0 := by
  intro x1 x2 x3 M h
  unfold f_X0_countWaiting_22 at h
  refine g_iinc (v := (x3 + 1)) (L2 := [(3, .int (x3 + 1)), (0, .ref (ad 1)), (1, .int x1), (2, .int x2)]) hC 3 rfl (by first | rfl | decide) (by decide) rfl dX0_countWaiting_22 ?_
  refine g_goto (tgt := 4) hC (by decide) dX0_countWaiting_25 ?_
  exact g_weak [1, 2, 3, 0] rfl (hk4 x1 x2 (x3 + 1) M h)
def f_X0_countWaiting_4_b (N : Nat) (kh4 : Int32 → Int32 → Int32 → gq_M → Option (Int32 × gq_M)) (x1 : Int32) (x2 : Int32) (x3 : Int32) (M : gq_M) : Option (Int32 × gq_M) :=
  if 8 ≤ x3 then (some (x2, M)) else (gq_b (f_X0_waits N x3 x1 M) fun v2 M3 => if v2 = 0 then (f_X0_countWaiting_22 N kh4 x1 x2 x3 M3) else (f_X0_countWaiting_22 N kh4 x1 (x2 + 1) x3 M3))
def f_X0_countWaiting_4 (N : Nat) : Nat → Int32 → Int32 → Int32 → gq_M → Option (Int32 × gq_M)
  | 0 => fun _ _ _ _ => none
  | n9 + 1 => f_X0_countWaiting_4_b N  (f_X0_countWaiting_4 N  n9)
set_option maxHeartbeats 1000000 in
set_option maxRecDepth 20000 in
theorem t_X0_countWaiting_4_b {N : Nat} {kh4 : Int32 → Int32 → Int32 → gq_M → Option (Int32 × gq_M)} {v9 : Int32} {M9 : gq_M} (hC : gq_C p s m args meth c D A cI cZ ad mtC RX0 cX0_countWaiting 4) (hr : meth.sig.returnType = (some .int))  (hk4 : ∀ (x1 : Int32) (x2 : Int32) (x3 : Int32) (M : gq_M), kh4 x1 x2 x3 M = some (v9, M9) → gq_W p l e (gq_rm 2) s m args below meth c D A cI cZ ad mtC 4 (MQ below (gq_Qi D cI cZ ad mtC v9 M9 A) args s 0 0 A) 4 [(0, .ref (ad 1)), (1, .int x1), (2, .int x2), (3, .int x3)] [] M 0 0) : ∀ (x1 : Int32) (x2 : Int32) (x3 : Int32) (M : gq_M), f_X0_countWaiting_4_b N  kh4 x1 x2 x3 M = some (v9, M9) → gq_W p l e (gq_rm 2) s m args below meth c D A cI cZ ad mtC 4 (MQ below (gq_Qi D cI cZ ad mtC v9 M9 A) args s 0 0 A) 4 [(0, .ref (ad 1)), (1, .int x1), (2, .int x2), (3, .int x3)] [] M 0 0 := by
  intro x1 x2 x3 M h
  unfold f_X0_countWaiting_4_b at h
  refine g_iload_n hC 3 rfl rfl dX0_countWaiting_4 ?_
  refine g_bipush (v := 8) hC (by decide) dX0_countWaiting_5 ?_
  refine g_icmp_ge (tgt := 28) hC (by decide) dX0_countWaiting_7 (fun c1 => ?_) (fun c1 => ?_)
  · replace h := gq_t c1 h
    refine g_iload_n hC 2 rfl rfl dX0_countWaiting_28 ?_
    exact g_irets hC hr h dX0_countWaiting_29
  · replace h := gq_f c1 h
    refine g_aload_n hC 0 rfl rfl dX0_countWaiting_10 ?_
    refine g_iload_n hC 3 rfl rfl dX0_countWaiting_11 ?_
    refine g_iload_n hC 1 rfl rfl dX0_countWaiting_12 ?_
    obtain ⟨v2, M3, c4, h⟩ := gq_b_i h
    refine g_Vi (as := [.int x3, .int x1]) hC (t_X0_waits N _ _ _ _ _ c4) mV_X0_waits  wm_X0_49 obC_1 rfl rfl (Nat.le_of_ble_eq_true rfl) ⟨Nat.le_of_ble_eq_true rfl, Nat.le_of_ble_eq_true rfl⟩ ⟨Nat.zero_le _, Nat.zero_le _⟩ dX0_countWaiting_13 ?_
    refine g_if_eq (tgt := 22) hC (by decide) dX0_countWaiting_16 (fun c5 => ?_) (fun c5 => ?_)
    · replace h := gq_t c5 h
      exact g_weak [0, 1, 2, 3] rfl (t_X0_countWaiting_22 hC hr hk4 x1 x2 x3 M3 h)
    · replace h := gq_f c5 h
      refine g_iinc (v := (x2 + 1)) (L2 := [(2, .int (x2 + 1)), (0, .ref (ad 1)), (1, .int x1), (3, .int x3)]) hC 2 rfl (by first | rfl | decide) (by decide) rfl dX0_countWaiting_19 ?_
      exact g_weak [1, 2, 0, 3] rfl (t_X0_countWaiting_22 hC hr hk4 x1 (x2 + 1) x3 M3 h)
theorem t_X0_countWaiting_4 {N : Nat} {v9 : Int32} {M9 : gq_M} (hC : gq_C p s m args meth c D A cI cZ ad mtC RX0 cX0_countWaiting 4) (hr : meth.sig.returnType = (some .int))  : ∀ (n9 : Nat) (x1 : Int32) (x2 : Int32) (x3 : Int32) (M : gq_M), f_X0_countWaiting_4 N  n9 x1 x2 x3 M = some (v9, M9) → gq_W p l e (gq_rm 2) s m args below meth c D A cI cZ ad mtC 4 (MQ below (gq_Qi D cI cZ ad mtC v9 M9 A) args s 0 0 A) 4 [(0, .ref (ad 1)), (1, .int x1), (2, .int x2), (3, .int x3)] [] M 0 0 := by
  intro n9
  induction n9 with
  | zero => intro x1 x2 x3 M h; cases h
  | succ n9 ih => intro x1 x2 x3 M h; exact t_X0_countWaiting_4_b hC hr  ih x1 x2 x3 M h
def f_X0_countWaiting (N : Nat) (a1 : Int32) (M : gq_M) : Option (Int32 × gq_M) :=
  f_X0_countWaiting_4 N  N a1 0 0 M
set_option maxHeartbeats 1000000 in
set_option maxRecDepth 20000 in
theorem t_X0_countWaiting {l : Launch} {D : va_G} {cI cZ : ClassId} {ad : Nat → Nat} (N : Nat) (a1 : Int32) (M : gq_M) (v9 : Int32) (M9 : gq_M) (h : f_X0_countWaiting N a1 M = some (v9, M9)) : gq_Ci l D cI cZ ad mtC yX0_countWaiting cX0_countWaiting 4 (some .int) 2 [.ref (ad 1), .int a1] M v9 M9 := by
  refine gq_introI (own := RX0) (by decide) rfl (Nat.le_of_ble_eq_true rfl) ?_
  intro p e s m below meth c hC hr
  refine g_cast (L2 := [(0, .ref (ad 1)), (1, .int a1)]) ?_ rfl rfl rfl rfl
  unfold f_X0_countWaiting at h
  refine g_iconst (v := 0) hC (by decide) dX0_countWaiting_0 ?_
  refine g_istore_n (L2 := [(2, .int 0), (0, .ref (ad 1)), (1, .int a1)]) hC rfl (by decide) rfl dX0_countWaiting_1 ?_
  refine g_iconst (v := 0) hC (by decide) dX0_countWaiting_2 ?_
  refine g_istore_n (L2 := [(3, .int 0), (2, .int 0), (0, .ref (ad 1)), (1, .int a1)]) hC rfl (by decide) rfl dX0_countWaiting_3 ?_
  exact g_weak [2, 3, 1, 0] rfl (t_X0_countWaiting_4 hC hr  N a1 0 0 M h)
def f_X0_findWaiting_35 (N : Nat) (kh5 : Int32 → Int32 → Int32 → gq_M → Option (Int32 × gq_M)) (x1 : Int32) (x3 : Int32) (x4 : Int32) (M : gq_M) : Option (Int32 × gq_M) :=
  kh5 x1 x3 (x4 + 1) M
set_option maxHeartbeats 1000000 in
set_option maxRecDepth 20000 in
theorem t_X0_findWaiting_35 {N : Nat} {kh5 : Int32 → Int32 → Int32 → gq_M → Option (Int32 × gq_M)} {v9 : Int32} {M9 : gq_M} (hC : gq_C p s m args meth c D A cI cZ ad mtC RX0 cX0_findWaiting 5) (hr : meth.sig.returnType = (some .int)) (hk5 : ∀ (x1 : Int32) (x3 : Int32) (x4 : Int32) (M : gq_M), kh5 x1 x3 x4 M = some (v9, M9) → gq_W p l e (gq_rm 2) s m args below meth c D A cI cZ ad mtC 5 (MQ below (gq_Qi D cI cZ ad mtC v9 M9 A) args s 0 0 A) 5 [(0, .ref (ad 1)), (1, .int x1), (3, .int x3), (4, .int x4)] [] M 0 0)  : ∀ (x1 : Int32) (x3 : Int32) (x4 : Int32) (M : gq_M), f_X0_findWaiting_35 N kh5 x1 x3 x4 M = some (v9, M9) → gq_W p l e (gq_rm 2) s m args below meth c D A cI cZ ad mtC 5 (MQ below (gq_Qi D cI cZ ad mtC v9 M9 A) args s 0 0 A) 35 [(0, .ref (ad 1)), (1, .int x1), (3, .int x3), (4, .int x4)] [] M 0 0 := by
  intro x1 x3 x4 M h
  unfold f_X0_findWaiting_35 at h
  refine g_iinc (v := (x4 + 1)) (L2 := [(4, .int (x4 + 1)), (0, .ref (ad 1)), (1, .int x1), (3, .int x3)]) hC 3 rfl (by first | rfl | decide) (by decide) rfl dX0_findWaiting_35 ?_
  refine g_goto (tgt := 5) hC (by decide) dX0_findWaiting_38 ?_
  exact g_weak [1, 2, 3, 0] rfl (hk5 x1 x3 (x4 + 1) M h)
def f_X0_findWaiting_5_b (N : Nat) (kh5 : Int32 → Int32 → Int32 → gq_M → Option (Int32 × gq_M)) (x1 : Int32) (x3 : Int32) (x4 : Int32) (M : gq_M) : Option (Int32 × gq_M) :=
  if 8 ≤ x4 then (some ((-1), M)) else (gq_b (f_X0_waits N x4 x1 M) fun v2 M3 => if v2 = 0 then (f_X0_findWaiting_35 N kh5 x1 x3 x4 M3) else (if x3 = 0 then (some (x4, M3)) else (f_X0_findWaiting_35 N kh5 x1 (x3 + (-1)) x4 M3)))
def f_X0_findWaiting_5 (N : Nat) : Nat → Int32 → Int32 → Int32 → gq_M → Option (Int32 × gq_M)
  | 0 => fun _ _ _ _ => none
  | n9 + 1 => f_X0_findWaiting_5_b N  (f_X0_findWaiting_5 N  n9)
set_option maxHeartbeats 1000000 in
set_option maxRecDepth 20000 in
theorem t_X0_findWaiting_5_b {N : Nat} {kh5 : Int32 → Int32 → Int32 → gq_M → Option (Int32 × gq_M)} {v9 : Int32} {M9 : gq_M} (hC : gq_C p s m args meth c D A cI cZ ad mtC RX0 cX0_findWaiting 5) (hr : meth.sig.returnType = (some .int))  (hk5 : ∀ (x1 : Int32) (x3 : Int32) (x4 : Int32) (M : gq_M), kh5 x1 x3 x4 M = some (v9, M9) → gq_W p l e (gq_rm 2) s m args below meth c D A cI cZ ad mtC 5 (MQ below (gq_Qi D cI cZ ad mtC v9 M9 A) args s 0 0 A) 5 [(0, .ref (ad 1)), (1, .int x1), (3, .int x3), (4, .int x4)] [] M 0 0) : ∀ (x1 : Int32) (x3 : Int32) (x4 : Int32) (M : gq_M), f_X0_findWaiting_5_b N  kh5 x1 x3 x4 M = some (v9, M9) → gq_W p l e (gq_rm 2) s m args below meth c D A cI cZ ad mtC 5 (MQ below (gq_Qi D cI cZ ad mtC v9 M9 A) args s 0 0 A) 5 [(0, .ref (ad 1)), (1, .int x1), (3, .int x3), (4, .int x4)] [] M 0 0 := by
  intro x1 x3 x4 M h
  unfold f_X0_findWaiting_5_b at h
  refine g_iload hC 3 rfl dX0_findWaiting_5 ?_
  refine g_bipush (v := 8) hC (by decide) dX0_findWaiting_7 ?_
  refine g_icmp_ge (tgt := 41) hC (by decide) dX0_findWaiting_9 (fun c1 => ?_) (fun c1 => ?_)
  · replace h := gq_t c1 h
    refine g_iconst (v := (-1)) hC (by decide) dX0_findWaiting_41 ?_
    exact g_irets hC hr h dX0_findWaiting_42
  · replace h := gq_f c1 h
    refine g_aload_n hC 0 rfl rfl dX0_findWaiting_12 ?_
    refine g_iload hC 3 rfl dX0_findWaiting_13 ?_
    refine g_iload_n hC 1 rfl rfl dX0_findWaiting_15 ?_
    obtain ⟨v2, M3, c4, h⟩ := gq_b_i h
    refine g_Vi (as := [.int x4, .int x1]) hC (t_X0_waits N _ _ _ _ _ c4) mV_X0_waits  wm_X0_49 obC_1 rfl rfl (Nat.le_of_ble_eq_true rfl) ⟨Nat.le_of_ble_eq_true rfl, Nat.le_of_ble_eq_true rfl⟩ ⟨Nat.zero_le _, Nat.zero_le _⟩ dX0_findWaiting_16 ?_
    refine g_if_ne (tgt := 25) hC (by decide) dX0_findWaiting_19 (fun c5 => ?_) (fun c5 => ?_)
    · replace h := gq_f c5 h
      refine g_iload_n hC 2 rfl rfl dX0_findWaiting_25 ?_
      refine g_if_ne (tgt := 32) hC (by decide) dX0_findWaiting_26 (fun c6 => ?_) (fun c6 => ?_)
      · replace h := gq_f c6 h
        refine g_iinc (v := (x3 + (-1))) (L2 := [(3, .int (x3 + (-1))), (0, .ref (ad 1)), (1, .int x1), (4, .int x4)]) hC 2 rfl (by first | rfl | decide) (by decide) rfl dX0_findWaiting_32 ?_
        exact g_weak [1, 2, 0, 3] rfl (t_X0_findWaiting_35 hC hr hk5 x1 (x3 + (-1)) x4 M3 h)
      · replace h := gq_t c6 h
        refine g_iload hC 3 rfl dX0_findWaiting_29 ?_
        exact g_irets hC hr h dX0_findWaiting_31
    · replace h := gq_t c5 h
      refine g_goto (tgt := 35) hC (by decide) dX0_findWaiting_22 ?_
      exact g_weak [0, 1, 2, 3] rfl (t_X0_findWaiting_35 hC hr hk5 x1 x3 x4 M3 h)
theorem t_X0_findWaiting_5 {N : Nat} {v9 : Int32} {M9 : gq_M} (hC : gq_C p s m args meth c D A cI cZ ad mtC RX0 cX0_findWaiting 5) (hr : meth.sig.returnType = (some .int))  : ∀ (n9 : Nat) (x1 : Int32) (x3 : Int32) (x4 : Int32) (M : gq_M), f_X0_findWaiting_5 N  n9 x1 x3 x4 M = some (v9, M9) → gq_W p l e (gq_rm 2) s m args below meth c D A cI cZ ad mtC 5 (MQ below (gq_Qi D cI cZ ad mtC v9 M9 A) args s 0 0 A) 5 [(0, .ref (ad 1)), (1, .int x1), (3, .int x3), (4, .int x4)] [] M 0 0 := by
  intro n9
  induction n9 with
  | zero => intro x1 x3 x4 M h; cases h
  | succ n9 ih => intro x1 x3 x4 M h; exact t_X0_findWaiting_5_b hC hr  ih x1 x3 x4 M h
def f_X0_findWaiting (N : Nat) (a1 : Int32) (a2 : Int32) (M : gq_M) : Option (Int32 × gq_M) :=
  f_X0_findWaiting_5 N  N a1 a2 0 M
set_option maxHeartbeats 1000000 in
set_option maxRecDepth 20000 in
theorem t_X0_findWaiting {l : Launch} {D : va_G} {cI cZ : ClassId} {ad : Nat → Nat} (N : Nat) (a1 : Int32) (a2 : Int32) (M : gq_M) (v9 : Int32) (M9 : gq_M) (h : f_X0_findWaiting N a1 a2 M = some (v9, M9)) : gq_Ci l D cI cZ ad mtC yX0_findWaiting cX0_findWaiting 5 (some .int) 2 [.ref (ad 1), .int a1, .int a2] M v9 M9 := by
  refine gq_introI (own := RX0) (by decide) rfl (Nat.le_of_ble_eq_true rfl) ?_
  intro p e s m below meth c hC hr
  refine g_cast (L2 := [(0, .ref (ad 1)), (1, .int a1), (2, .int a2)]) ?_ rfl rfl rfl rfl
  unfold f_X0_findWaiting at h
  refine g_iload_n hC 2 rfl rfl dX0_findWaiting_0 ?_
  refine g_istore_n (L2 := [(3, .int a2), (0, .ref (ad 1)), (1, .int a1), (2, .int a2)]) hC rfl (by decide) rfl dX0_findWaiting_1 ?_
  refine g_iconst (v := 0) hC (by decide) dX0_findWaiting_2 ?_
  refine g_istore (L2 := [(4, .int 0), (3, .int a2), (0, .ref (ad 1)), (1, .int a1), (2, .int a2)]) hC (by decide) rfl dX0_findWaiting_3 ?_
  exact g_weak [2, 3, 1, 0] rfl (t_X0_findWaiting_5 hC hr  N a1 a2 0 M h)
def f_X1_rankOf (N : Nat) (a0 : Int32) (a1 : Int32) (a2 : Int32) (M : gq_M) : Option (Int32 × gq_M) :=
  some ((((((a0 * 3) + a1) * 9) + 9) - a2), M)
set_option maxHeartbeats 1000000 in
set_option maxRecDepth 20000 in
theorem t_X1_rankOf {l : Launch} {D : va_G} {cI cZ : ClassId} {ad : Nat → Nat} (N : Nat) (a0 : Int32) (a1 : Int32) (a2 : Int32) (M : gq_M) (v9 : Int32) (M9 : gq_M) (h : f_X1_rankOf N a0 a1 a2 M = some (v9, M9)) : gq_Ci l D cI cZ ad mtC yX1_rankOf cX1_rankOf 3 (some .int) 0 [.int a0, .int a1, .int a2] M v9 M9 := by
  refine gq_introI (own := RX1) (by decide) rfl (Nat.le_of_ble_eq_true rfl) ?_
  intro p e s m below meth c hC hr
  refine g_cast (L2 := [(0, .int a0), (1, .int a1), (2, .int a2)]) ?_ rfl rfl rfl rfl
  unfold f_X1_rankOf at h
  refine g_iload_n hC 0 rfl rfl dX1_rankOf_0 ?_
  refine g_iconst (v := 3) hC (by decide) dX1_rankOf_1 ?_
  refine g_imul hC dX1_rankOf_2 ?_
  refine g_iload_n hC 1 rfl rfl dX1_rankOf_3 ?_
  refine g_iadd hC dX1_rankOf_4 ?_
  refine g_bipush (v := 9) hC (by decide) dX1_rankOf_5 ?_
  refine g_imul hC dX1_rankOf_7 ?_
  refine g_bipush (v := 9) hC (by decide) dX1_rankOf_8 ?_
  refine g_iadd hC dX1_rankOf_10 ?_
  refine g_iload_n hC 2 rfl rfl dX1_rankOf_11 ?_
  refine g_isub hC dX1_rankOf_12 ?_
  exact g_irets hC hr h dX1_rankOf_13
def f_X1_kindOf (N : Nat) (a0 : Int32) (M : gq_M) : Option (Int32 × gq_M) :=
  some ((a0 / 27), M)
set_option maxHeartbeats 1000000 in
set_option maxRecDepth 20000 in
theorem t_X1_kindOf {l : Launch} {D : va_G} {cI cZ : ClassId} {ad : Nat → Nat} (N : Nat) (a0 : Int32) (M : gq_M) (v9 : Int32) (M9 : gq_M) (h : f_X1_kindOf N a0 M = some (v9, M9)) : gq_Ci l D cI cZ ad mtC yX1_kindOf cX1_kindOf 1 (some .int) 0 [.int a0] M v9 M9 := by
  refine gq_introI (own := RX1) (by decide) rfl (Nat.le_of_ble_eq_true rfl) ?_
  intro p e s m below meth c hC hr
  refine g_cast (L2 := [(0, .int a0)]) ?_ rfl rfl rfl rfl
  unfold f_X1_kindOf at h
  refine g_iload_n hC 0 rfl rfl dX1_kindOf_0 ?_
  refine g_bipush (v := 27) hC (by decide) dX1_kindOf_1 ?_
  refine g_idiv hC (by decide) dX1_kindOf_3 ?_
  exact g_irets hC hr h dX1_kindOf_4
def f_X1_sizeOf (N : Nat) (a0 : Int32) (M : gq_M) : Option (Int32 × gq_M) :=
  some (((a0 / 9) - (a0 / 9) / 3 * 3), M)
set_option maxHeartbeats 1000000 in
set_option maxRecDepth 20000 in
theorem t_X1_sizeOf {l : Launch} {D : va_G} {cI cZ : ClassId} {ad : Nat → Nat} (N : Nat) (a0 : Int32) (M : gq_M) (v9 : Int32) (M9 : gq_M) (h : f_X1_sizeOf N a0 M = some (v9, M9)) : gq_Ci l D cI cZ ad mtC yX1_sizeOf cX1_sizeOf 1 (some .int) 0 [.int a0] M v9 M9 := by
  refine gq_introI (own := RX1) (by decide) rfl (Nat.le_of_ble_eq_true rfl) ?_
  intro p e s m below meth c hC hr
  refine g_cast (L2 := [(0, .int a0)]) ?_ rfl rfl rfl rfl
  unfold f_X1_sizeOf at h
  refine g_iload_n hC 0 rfl rfl dX1_sizeOf_0 ?_
  refine g_bipush (v := 9) hC (by decide) dX1_sizeOf_1 ?_
  refine g_idiv hC (by decide) dX1_sizeOf_3 ?_
  refine g_iconst (v := 3) hC (by decide) dX1_sizeOf_4 ?_
  refine g_irem hC (by decide) dX1_sizeOf_5 ?_
  exact g_irets hC hr h dX1_sizeOf_6
def f_X1_freshOf (N : Nat) (a0 : Int32) (M : gq_M) : Option (Int32 × gq_M) :=
  some ((9 - (a0 - a0 / 9 * 9)), M)
set_option maxHeartbeats 1000000 in
set_option maxRecDepth 20000 in
theorem t_X1_freshOf {l : Launch} {D : va_G} {cI cZ : ClassId} {ad : Nat → Nat} (N : Nat) (a0 : Int32) (M : gq_M) (v9 : Int32) (M9 : gq_M) (h : f_X1_freshOf N a0 M = some (v9, M9)) : gq_Ci l D cI cZ ad mtC yX1_freshOf cX1_freshOf 1 (some .int) 0 [.int a0] M v9 M9 := by
  refine gq_introI (own := RX1) (by decide) rfl (Nat.le_of_ble_eq_true rfl) ?_
  intro p e s m below meth c hC hr
  refine g_cast (L2 := [(0, .int a0)]) ?_ rfl rfl rfl rfl
  unfold f_X1_freshOf at h
  refine g_bipush (v := 9) hC (by decide) dX1_freshOf_0 ?_
  refine g_iload_n hC 0 rfl rfl dX1_freshOf_2 ?_
  refine g_bipush (v := 9) hC (by decide) dX1_freshOf_3 ?_
  refine g_irem hC (by decide) dX1_freshOf_5 ?_
  refine g_isub hC dX1_freshOf_6 ?_
  exact g_irets hC hr h dX1_freshOf_7
def f_X1_sumOf_52 (N : Nat) (M : gq_M) : Option (Int32 × gq_M) :=
  some (5, M)
set_option maxHeartbeats 1000000 in
set_option maxRecDepth 20000 in
theorem t_X1_sumOf_52 {N : Nat} {v9 : Int32} {M9 : gq_M} (hC : gq_C p s m args meth c D A cI cZ ad mtC RX1 cX1_sumOf 1) (hr : meth.sig.returnType = (some .int))   : ∀ (M : gq_M), f_X1_sumOf_52 N   M = some (v9, M9) → gq_W p l e (gq_rm 0) s m args below meth c D A cI cZ ad mtC 1 (MQ below (gq_Qi D cI cZ ad mtC v9 M9 A) args s 0 0 A) 52 [] [] M 0 0 := by
  intro  M h
  unfold f_X1_sumOf_52 at h
  refine g_iconst (v := 5) hC (by decide) dX1_sumOf_52 ?_
  exact g_irets hC hr h dX1_sumOf_53
def f_X1_sumOf_46 (N : Nat) (M : gq_M) : Option (Int32 × gq_M) :=
  some (1, M)
set_option maxHeartbeats 1000000 in
set_option maxRecDepth 20000 in
theorem t_X1_sumOf_46 {N : Nat} {v9 : Int32} {M9 : gq_M} (hC : gq_C p s m args meth c D A cI cZ ad mtC RX1 cX1_sumOf 1) (hr : meth.sig.returnType = (some .int))   : ∀ (M : gq_M), f_X1_sumOf_46 N   M = some (v9, M9) → gq_W p l e (gq_rm 0) s m args below meth c D A cI cZ ad mtC 1 (MQ below (gq_Qi D cI cZ ad mtC v9 M9 A) args s 0 0 A) 46 [] [] M 0 0 := by
  intro  M h
  unfold f_X1_sumOf_46 at h
  refine g_iconst (v := 1) hC (by decide) dX1_sumOf_46 ?_
  exact g_irets hC hr h dX1_sumOf_47
def f_X1_sumOf (N : Nat) (a0 : Int32) (M : gq_M) : Option (Int32 × gq_M) :=
  if a0 = 1 then (some (4, M)) else if a0 = 2 then (f_X1_sumOf_52 N   M) else if a0 = 3 then (f_X1_sumOf_46 N   M) else if a0 = 4 then (f_X1_sumOf_46 N   M) else if a0 = 5 then (some (2, M)) else if a0 = 6 then (f_X1_sumOf_52 N   M) else if a0 = 7 then (some (3, M)) else (f_X1_sumOf_52 N   M)
set_option maxHeartbeats 1000000 in
set_option maxRecDepth 20000 in
theorem t_X1_sumOf {l : Launch} {D : va_G} {cI cZ : ClassId} {ad : Nat → Nat} (N : Nat) (a0 : Int32) (M : gq_M) (v9 : Int32) (M9 : gq_M) (h : f_X1_sumOf N a0 M = some (v9, M9)) : gq_Ci l D cI cZ ad mtC yX1_sumOf cX1_sumOf 1 (some .int) 0 [.int a0] M v9 M9 := by
  refine gq_introI (own := RX1) (by decide) rfl (Nat.le_of_ble_eq_true rfl) ?_
  intro p e s m below meth c hC hr
  refine g_cast (L2 := [(0, .int a0)]) ?_ rfl rfl rfl rfl
  unfold f_X1_sumOf at h
  refine g_iload_n hC 0 rfl rfl dX1_sumOf_0 ?_
  rcases gq_or h with ⟨c1, h⟩ | ⟨c1, h⟩
  · refine g_tsIn (tgt := 44) hC (by rw [c1]; decide) (by rw [c1]; decide) (by rw [c1]; rfl) (by decide) dX1_sumOf_1 ?_
    refine g_iconst (v := 4) hC (by decide) dX1_sumOf_44 ?_
    exact g_irets hC hr h dX1_sumOf_45
  rcases gq_or h with ⟨c2, h⟩ | ⟨c2, h⟩
  · refine g_tsIn (tgt := 52) hC (by rw [c2]; decide) (by rw [c2]; decide) (by rw [c2]; rfl) (by decide) dX1_sumOf_1 ?_
    exact g_weak [] rfl (t_X1_sumOf_52 hC hr   M h)
  rcases gq_or h with ⟨c3, h⟩ | ⟨c3, h⟩
  · refine g_tsIn (tgt := 46) hC (by rw [c3]; decide) (by rw [c3]; decide) (by rw [c3]; rfl) (by decide) dX1_sumOf_1 ?_
    exact g_weak [] rfl (t_X1_sumOf_46 hC hr   M h)
  rcases gq_or h with ⟨c4, h⟩ | ⟨c4, h⟩
  · refine g_tsIn (tgt := 46) hC (by rw [c4]; decide) (by rw [c4]; decide) (by rw [c4]; rfl) (by decide) dX1_sumOf_1 ?_
    exact g_weak [] rfl (t_X1_sumOf_46 hC hr   M h)
  rcases gq_or h with ⟨c5, h⟩ | ⟨c5, h⟩
  · refine g_tsIn (tgt := 48) hC (by rw [c5]; decide) (by rw [c5]; decide) (by rw [c5]; rfl) (by decide) dX1_sumOf_1 ?_
    refine g_iconst (v := 2) hC (by decide) dX1_sumOf_48 ?_
    exact g_irets hC hr h dX1_sumOf_49
  rcases gq_or h with ⟨c6, h⟩ | ⟨c6, h⟩
  · refine g_tsIn (tgt := 52) hC (by rw [c6]; decide) (by rw [c6]; decide) (by rw [c6]; rfl) (by decide) dX1_sumOf_1 ?_
    exact g_weak [] rfl (t_X1_sumOf_52 hC hr   M h)
  rcases gq_or h with ⟨c7, h⟩ | ⟨c7, h⟩
  · refine g_tsIn (tgt := 50) hC (by rw [c7]; decide) (by rw [c7]; decide) (by rw [c7]; rfl) (by decide) dX1_sumOf_1 ?_
    refine g_iconst (v := 3) hC (by decide) dX1_sumOf_50 ?_
    exact g_irets hC hr h dX1_sumOf_51
  refine g_tsOut (tgt := 52) hC (by have z0 := lv_neT c1 (a := 1) (by decide); have z1 := lv_neT c2 (a := 2) (by decide); have z2 := lv_neT c3 (a := 3) (by decide); have z3 := lv_neT c4 (a := 4) (by decide); have z4 := lv_neT c5 (a := 5) (by decide); have z5 := lv_neT c6 (a := 6) (by decide); have z6 := lv_neT c7 (a := 7) (by decide); omega) (by decide) dX1_sumOf_1 ?_
  exact g_weak [] rfl (t_X1_sumOf_52 hC hr   M h)
def f_X8_put (r n : Nat) (N : Nat) (a1 : Int32) (a2 : Int32) (M : gq_M) : Option (Int32 × gq_M) :=
  if a1 < 0 then (some (0, M)) else (if (nI n) ≤ a1 then (some (0, M)) else (gq_g (gq_in a1 n) (gq_l (gq_up M r a1.toNatClampNeg a2) fun M4 => some (0, M4))))
set_option maxHeartbeats 1000000 in
set_option maxRecDepth 20000 in
theorem t_X8_put {l : Launch} {D : va_G} {cI cZ : ClassId} {ad : Nat → Nat} {mt : List gq_T} {q r n : Nat} (hq : gq_lk mt q 8 0 (some r)) (hr2 : mt[r]? = some (.inr (false, n))) (N : Nat) (a1 : Int32) (a2 : Int32) (M : gq_M) (v9 : Int32) (M9 : gq_M) (h : f_X8_put r n N a1 a2 M = some (v9, M9)) : gq_Cv l D cI cZ ad mt yX8_put cX8_put 3 0 [.ref (ad q), .int a1, .int a2] M M9 := by
  refine gq_introV (own := RX8) (by decide) rfl (Nat.le_of_ble_eq_true rfl) ?_
  intro p e s m below meth c hC hr
  refine g_cast (L2 := [(0, .ref (ad q)), (1, .int a1), (2, .int a2)]) ?_ rfl rfl rfl rfl
  unfold f_X8_put at h
  refine g_iload_n hC 1 rfl rfl dX8_put_0 ?_
  refine g_if_lt (tgt := 20) hC (by decide) dX8_put_1 (fun c1 => ?_) (fun c1 => ?_)
  · replace h := gq_t c1 h
    exact g_vrets hC hr h dX8_put_20
  · replace h := gq_f c1 h
    refine g_iload_n hC 1 rfl rfl dX8_put_4 ?_
    refine g_aload_n hC 0 rfl rfl dX8_put_5 ?_
    refine g_getR hC fF_X8_7 hq dX8_put_6 ?_
    refine g_alen hC hr2 dX8_put_9 ?_
    refine g_icmp_ge (tgt := 20) hC (by decide) dX8_put_10 (fun c2 => ?_) (fun c2 => ?_)
    · replace h := gq_t c2 h
      exact g_vrets hC hr h dX8_put_20
    · replace h := gq_f c2 h
      refine g_aload_n hC 0 rfl rfl dX8_put_13 ?_
      refine g_getR hC fF_X8_7 hq dX8_put_14 ?_
      refine g_iload_n hC 1 rfl rfl dX8_put_17 ?_
      refine g_iload_n hC 2 rfl rfl dX8_put_18 ?_
      obtain ⟨g3, h⟩ := gq_g_i h
      refine g_iast hC hr2 (gq_in_i g3) dX8_put_19 ?_
      refine g_topM (fun M4 hM4 => ?_)
      replace h := gq_l_i hM4 h
      exact g_vrets hC hr h dX8_put_20
def f_X1_add (N : Nat) (a1 : Int32) (a2 : Int32) (a3 : Int32) (a4 : Int32) (a5 : Int32) (M : gq_M) : Option (Int32 × gq_M) :=
  gq_l (gq_up M 34 13 ((M 34 13) + 1)) fun M1 => gq_b (f_X8_put 36 150 N (M 34 13) a1 M1) fun v2 M3 => gq_b (f_X8_put 38 150 N (M 34 13) a2 M3) fun v5 M6 => gq_b (f_X8_put 40 150 N (M 34 13) a3 M6) fun v8 M9 => gq_b (f_X8_put 42 150 N (M 34 13) a4 M9) fun v11 M12 => gq_b (f_X8_put 44 150 N (M 34 13) a5 M12) fun v14 M15 => gq_b (f_X8_add 60 6 N 0 a3 M15) fun v17 M18 => gq_b (f_X1_sumOf N a5 M18) fun v20 M21 => gq_b (f_X8_add 60 6 N v20 a3 M21) fun v23 M24 => some ((M 34 13), M24)
set_option maxHeartbeats 1000000 in
set_option maxRecDepth 20000 in
theorem t_X1_add {l : Launch} {D : va_G} {cI cZ : ClassId} {ad : Nat → Nat} (N : Nat) (a1 : Int32) (a2 : Int32) (a3 : Int32) (a4 : Int32) (a5 : Int32) (M : gq_M) (v9 : Int32) (M9 : gq_M) (h : f_X1_add N a1 a2 a3 a4 a5 M = some (v9, M9)) : gq_Ci l D cI cZ ad mtC yX1_add cX1_add 7 (some .int) 1 [.ref (ad 34), .int a1, .int a2, .int a3, .int a4, .int a5] M v9 M9 := by
  refine gq_introI (own := RX1) (by decide) rfl (Nat.le_of_ble_eq_true rfl) ?_
  intro p e s m below meth c hC hr
  refine g_cast (L2 := [(0, .ref (ad 34)), (1, .int a1), (2, .int a2), (3, .int a3), (4, .int a4), (5, .int a5)]) ?_ rfl rfl rfl rfl
  unfold f_X1_add at h
  refine g_aload_n hC 0 rfl rfl dX1_add_0 ?_
  refine g_getI hC fF_X1_56 lkC_34_13 dX1_add_1 ?_
  refine g_istore (L2 := [(6, .int (M 34 13)), (0, .ref (ad 34)), (1, .int a1), (2, .int a2), (3, .int a3), (4, .int a4), (5, .int a5)]) hC (by decide) rfl dX1_add_4 ?_
  refine g_aload_n hC 1 rfl rfl dX1_add_6 ?_
  refine g_dup hC rfl dX1_add_7 ?_
  refine g_getI hC fF_X1_56 lkC_34_13 dX1_add_8 ?_
  refine g_iconst (v := 1) hC (by decide) dX1_add_11 ?_
  refine g_iadd hC dX1_add_12 ?_
  refine g_putI hC fG_X1_56 lkC_34_13 dX1_add_13 ?_
  refine g_topM (fun M1 hM1 => ?_)
  replace h := gq_l_i hM1 h
  refine g_aload_n hC 1 rfl rfl dX1_add_16 ?_
  refine g_getR hC fF_X1_14 lkC_34_0 dX1_add_17 ?_
  refine g_iload hC 0 rfl dX1_add_20 ?_
  refine g_iload_n hC 2 rfl rfl dX1_add_22 ?_
  obtain ⟨v2, M3, c4, h⟩ := gq_b_i h
  refine g_Vv (as := [.int (M 34 13), .int a1]) hC (t_X8_put lkC_35_0 arC_36 N _ _ _ _ _ c4) mV_X8_put  wm_X1_60 obC_35 rfl rfl (Nat.le_of_ble_eq_true rfl) ⟨Nat.le_of_ble_eq_true rfl, Nat.le_of_ble_eq_true rfl⟩ ⟨Nat.zero_le _, Nat.zero_le _⟩ dX1_add_23 ?_
  refine g_aload_n hC 1 rfl rfl dX1_add_26 ?_
  refine g_getR hC fF_X1_20 lkC_34_1 dX1_add_27 ?_
  refine g_iload hC 0 rfl dX1_add_30 ?_
  refine g_iload_n hC 3 rfl rfl dX1_add_32 ?_
  obtain ⟨v5, M6, c7, h⟩ := gq_b_i h
  refine g_Vv (as := [.int (M 34 13), .int a2]) hC (t_X8_put lkC_37_0 arC_38 N _ _ _ _ _ c7) mV_X8_put  wm_X1_60 obC_37 rfl rfl (Nat.le_of_ble_eq_true rfl) ⟨Nat.le_of_ble_eq_true rfl, Nat.le_of_ble_eq_true rfl⟩ ⟨Nat.zero_le _, Nat.zero_le _⟩ dX1_add_33 ?_
  refine g_aload_n hC 1 rfl rfl dX1_add_36 ?_
  refine g_getR hC fF_X1_23 lkC_34_2 dX1_add_37 ?_
  refine g_iload hC 0 rfl dX1_add_40 ?_
  refine g_iload_n hC 4 rfl rfl dX1_add_42 ?_
  obtain ⟨v8, M9, c10, h⟩ := gq_b_i h
  refine g_Vv (as := [.int (M 34 13), .int a3]) hC (t_X8_put lkC_39_0 arC_40 N _ _ _ _ _ c10) mV_X8_put  wm_X1_60 obC_39 rfl rfl (Nat.le_of_ble_eq_true rfl) ⟨Nat.le_of_ble_eq_true rfl, Nat.le_of_ble_eq_true rfl⟩ ⟨Nat.zero_le _, Nat.zero_le _⟩ dX1_add_43 ?_
  refine g_aload_n hC 1 rfl rfl dX1_add_46 ?_
  refine g_getR hC fF_X1_26 lkC_34_3 dX1_add_47 ?_
  refine g_iload hC 0 rfl dX1_add_50 ?_
  refine g_iload hC 5 rfl dX1_add_52 ?_
  obtain ⟨v11, M12, c13, h⟩ := gq_b_i h
  refine g_Vv (as := [.int (M 34 13), .int a4]) hC (t_X8_put lkC_41_0 arC_42 N _ _ _ _ _ c13) mV_X8_put  wm_X1_60 obC_41 rfl rfl (Nat.le_of_ble_eq_true rfl) ⟨Nat.le_of_ble_eq_true rfl, Nat.le_of_ble_eq_true rfl⟩ ⟨Nat.zero_le _, Nat.zero_le _⟩ dX1_add_54 ?_
  refine g_aload_n hC 1 rfl rfl dX1_add_57 ?_
  refine g_getR hC fF_X1_29 lkC_34_4 dX1_add_58 ?_
  refine g_iload hC 0 rfl dX1_add_61 ?_
  refine g_iload hC 6 rfl dX1_add_63 ?_
  obtain ⟨v14, M15, c16, h⟩ := gq_b_i h
  refine g_Vv (as := [.int (M 34 13), .int a5]) hC (t_X8_put lkC_43_0 arC_44 N _ _ _ _ _ c16) mV_X8_put  wm_X1_60 obC_43 rfl rfl (Nat.le_of_ble_eq_true rfl) ⟨Nat.le_of_ble_eq_true rfl, Nat.le_of_ble_eq_true rfl⟩ ⟨Nat.zero_le _, Nat.zero_le _⟩ dX1_add_65 ?_
  refine g_aload_n hC 1 rfl rfl dX1_add_68 ?_
  refine g_getR hC fF_X1_53 lkC_34_12 dX1_add_69 ?_
  refine g_iconst (v := 0) hC (by decide) dX1_add_72 ?_
  refine g_iload_n hC 4 rfl rfl dX1_add_73 ?_
  obtain ⟨v17, M18, c19, h⟩ := gq_b_i h
  refine g_Vv (as := [.int 0, .int a3]) hC (t_X8_add lkC_59_0 arC_60 N _ _ _ _ _ c19) mV_X8_add  wm_X1_63 obC_59 rfl rfl (Nat.le_of_ble_eq_true rfl) ⟨Nat.le_of_ble_eq_true rfl, Nat.le_of_ble_eq_true rfl⟩ ⟨Nat.zero_le _, Nat.zero_le _⟩ dX1_add_74 ?_
  refine g_aload_n hC 1 rfl rfl dX1_add_77 ?_
  refine g_getR hC fF_X1_53 lkC_34_12 dX1_add_78 ?_
  refine g_iload hC 6 rfl dX1_add_81 ?_
  obtain ⟨v20, M21, c22, h⟩ := gq_b_i h
  refine g_Si (as := [.int a5]) hC (t_X1_sumOf N _ _ _ _ c22) mS_X1_sumOf wm_X1_66 rfl rfl (Nat.le_of_ble_eq_true rfl) ⟨Nat.le_of_ble_eq_true rfl, Nat.le_of_ble_eq_true rfl⟩ ⟨Nat.zero_le _, Nat.zero_le _⟩ dX1_add_83 ?_
  refine g_iload_n hC 4 rfl rfl dX1_add_86 ?_
  obtain ⟨v23, M24, c25, h⟩ := gq_b_i h
  refine g_Vv (as := [.int v20, .int a3]) hC (t_X8_add lkC_59_0 arC_60 N _ _ _ _ _ c25) mV_X8_add  wm_X1_63 obC_59 rfl rfl (Nat.le_of_ble_eq_true rfl) ⟨Nat.le_of_ble_eq_true rfl, Nat.le_of_ble_eq_true rfl⟩ ⟨Nat.zero_le _, Nat.zero_le _⟩ dX1_add_87 ?_
  refine g_iload hC 0 rfl dX1_add_90 ?_
  exact g_irets hC hr h dX1_add_92
def f_X1_isWaiting_29 (N : Nat) (s0 : Int32) (M : gq_M) : Option (Int32 × gq_M) :=
  gq_g (gq_bb s0) (some (s0, M))
set_option maxHeartbeats 1000000 in
set_option maxRecDepth 20000 in
theorem t_X1_isWaiting_29 {N : Nat} {v9 : Int32} {M9 : gq_M} (hC : gq_C p s m args meth c D A cI cZ ad mtC RX1 cX1_isWaiting 2) (hr : meth.sig.returnType = (some .boolean))   : ∀ (s0 : Int32) (M : gq_M), f_X1_isWaiting_29 N  s0 M = some (v9, M9) → gq_W p l e (gq_rm 1) s m args below meth c D A cI cZ ad mtC 2 (MQ below (gq_Qi D cI cZ ad mtC v9 M9 A) args s 0 0 A) 29 [] [.int s0] M 0 0 := by
  intro s0 M h
  unfold f_X1_isWaiting_29 at h
  obtain ⟨g9, h⟩ := gq_g_i h
  exact g_zrets hC hr (gq_bb_i g9) h dX1_isWaiting_29
def f_X1_isWaiting_24 (N : Nat) (M : gq_M) : Option (Int32 × gq_M) :=
  f_X1_isWaiting_29 N  1 M
set_option maxHeartbeats 1000000 in
set_option maxRecDepth 20000 in
theorem t_X1_isWaiting_24 {N : Nat} {v9 : Int32} {M9 : gq_M} (hC : gq_C p s m args meth c D A cI cZ ad mtC RX1 cX1_isWaiting 2) (hr : meth.sig.returnType = (some .boolean))   : ∀ (M : gq_M), f_X1_isWaiting_24 N   M = some (v9, M9) → gq_W p l e (gq_rm 1) s m args below meth c D A cI cZ ad mtC 2 (MQ below (gq_Qi D cI cZ ad mtC v9 M9 A) args s 0 0 A) 24 [] [] M 0 0 := by
  intro  M h
  unfold f_X1_isWaiting_24 at h
  refine g_iconst (v := 1) hC (by decide) dX1_isWaiting_24 ?_
  refine g_goto (tgt := 29) hC (by decide) dX1_isWaiting_25 ?_
  exact g_weak [] rfl (t_X1_isWaiting_29 hC hr  1 M h)
def f_X1_isWaiting (N : Nat) (a1 : Int32) (M : gq_M) : Option (Int32 × gq_M) :=
  gq_b (f_X8_at 44 150 N a1 M) fun v1 M2 => if v1 = 0 then (f_X1_isWaiting_24 N   M2) else (gq_b (f_X8_at 44 150 N a1 M2) fun v5 M6 => if v5 = 6 then (f_X1_isWaiting_24 N   M6) else (f_X1_isWaiting_29 N  0 M6))
set_option maxHeartbeats 1000000 in
set_option maxRecDepth 20000 in
theorem t_X1_isWaiting {l : Launch} {D : va_G} {cI cZ : ClassId} {ad : Nat → Nat} (N : Nat) (a1 : Int32) (M : gq_M) (v9 : Int32) (M9 : gq_M) (h : f_X1_isWaiting N a1 M = some (v9, M9)) : gq_Ci l D cI cZ ad mtC yX1_isWaiting cX1_isWaiting 2 (some .boolean) 1 [.ref (ad 34), .int a1] M v9 M9 := by
  refine gq_introI (own := RX1) (by decide) rfl (Nat.le_of_ble_eq_true rfl) ?_
  intro p e s m below meth c hC hr
  refine g_cast (L2 := [(0, .ref (ad 34)), (1, .int a1)]) ?_ rfl rfl rfl rfl
  unfold f_X1_isWaiting at h
  refine g_aload_n hC 0 rfl rfl dX1_isWaiting_0 ?_
  refine g_getR hC fF_X1_29 lkC_34_4 dX1_isWaiting_1 ?_
  refine g_iload_n hC 1 rfl rfl dX1_isWaiting_4 ?_
  obtain ⟨v1, M2, c3, h⟩ := gq_b_i h
  refine g_Vi (as := [.int a1]) hC (t_X8_at lkC_43_0 arC_44 N _ _ _ _ c3) mV_X8_at  wm_X1_70 obC_43 rfl rfl (Nat.le_of_ble_eq_true rfl) ⟨Nat.le_of_ble_eq_true rfl, Nat.le_of_ble_eq_true rfl⟩ ⟨Nat.zero_le _, Nat.zero_le _⟩ dX1_isWaiting_5 ?_
  refine g_if_eq (tgt := 24) hC (by decide) dX1_isWaiting_8 (fun c4 => ?_) (fun c4 => ?_)
  · replace h := gq_t c4 h
    exact g_weak [] rfl (t_X1_isWaiting_24 hC hr   M2 h)
  · replace h := gq_f c4 h
    refine g_aload_n hC 0 rfl rfl dX1_isWaiting_11 ?_
    refine g_getR hC fF_X1_29 lkC_34_4 dX1_isWaiting_12 ?_
    refine g_iload_n hC 1 rfl rfl dX1_isWaiting_15 ?_
    obtain ⟨v5, M6, c7, h⟩ := gq_b_i h
    refine g_Vi (as := [.int a1]) hC (t_X8_at lkC_43_0 arC_44 N _ _ _ _ c7) mV_X8_at  wm_X1_70 obC_43 rfl rfl (Nat.le_of_ble_eq_true rfl) ⟨Nat.le_of_ble_eq_true rfl, Nat.le_of_ble_eq_true rfl⟩ ⟨Nat.zero_le _, Nat.zero_le _⟩ dX1_isWaiting_16 ?_
    refine g_bipush (v := 6) hC (by decide) dX1_isWaiting_19 ?_
    refine g_icmp_ne (tgt := 28) hC (by decide) dX1_isWaiting_21 (fun c8 => ?_) (fun c8 => ?_)
    · replace h := gq_f c8 h
      refine g_iconst (v := 0) hC (by decide) dX1_isWaiting_28 ?_
      exact g_weak [] rfl (t_X1_isWaiting_29 hC hr  0 M6 h)
    · replace h := gq_t c8 h
      exact g_weak [] rfl (t_X1_isWaiting_24 hC hr   M6 h)
def f_X1_countWaiting_23 (N : Nat) (kh4 : Int32 → Int32 → gq_M → Option (Int32 × gq_M)) (x1 : Int32) (x2 : Int32) (M : gq_M) : Option (Int32 × gq_M) :=
  kh4 x1 (x2 + 1) M
set_option maxHeartbeats 1000000 in
set_option maxRecDepth 20000 in
theorem t_X1_countWaiting_23 {N : Nat} {kh4 : Int32 → Int32 → gq_M → Option (Int32 × gq_M)} {v9 : Int32} {M9 : gq_M} (hC : gq_C p s m args meth c D A cI cZ ad mtC RX1 cX1_countWaiting 3) (hr : meth.sig.returnType = (some .int)) (hk4 : ∀ (x1 : Int32) (x2 : Int32) (M : gq_M), kh4 x1 x2 M = some (v9, M9) → gq_W p l e (gq_rm 2) s m args below meth c D A cI cZ ad mtC 3 (MQ below (gq_Qi D cI cZ ad mtC v9 M9 A) args s 0 0 A) 4 [(0, .ref (ad 34)), (1, .int x1), (2, .int x2)] [] M 0 0)  : ∀ (x1 : Int32) (x2 : Int32) (M : gq_M), f_X1_countWaiting_23 N kh4 x1 x2 M = some (v9, M9) → gq_W p l e (gq_rm 2) s m args below meth c D A cI cZ ad mtC 3 (MQ below (gq_Qi D cI cZ ad mtC v9 M9 A) args s 0 0 A) 23 [(0, .ref (ad 34)), (1, .int x1), (2, .int x2)] [] M 0 0 := by
  intro x1 x2 M h
  unfold f_X1_countWaiting_23 at h
  refine g_iinc (v := (x2 + 1)) (L2 := [(2, .int (x2 + 1)), (0, .ref (ad 34)), (1, .int x1)]) hC 2 rfl (by first | rfl | decide) (by decide) rfl dX1_countWaiting_23 ?_
  refine g_goto (tgt := 4) hC (by decide) dX1_countWaiting_26 ?_
  exact g_weak [1, 2, 0] rfl (hk4 x1 (x2 + 1) M h)
def f_X1_countWaiting_4_b (N : Nat) (kh4 : Int32 → Int32 → gq_M → Option (Int32 × gq_M)) (x1 : Int32) (x2 : Int32) (M : gq_M) : Option (Int32 × gq_M) :=
  if (M 34 13) ≤ x2 then (some (x1, M)) else (gq_b (f_X1_isWaiting N x2 M) fun v2 M3 => if v2 = 0 then (f_X1_countWaiting_23 N kh4 x1 x2 M3) else (f_X1_countWaiting_23 N kh4 (x1 + 1) x2 M3))
def f_X1_countWaiting_4 (N : Nat) : Nat → Int32 → Int32 → gq_M → Option (Int32 × gq_M)
  | 0 => fun _ _ _ => none
  | n9 + 1 => f_X1_countWaiting_4_b N  (f_X1_countWaiting_4 N  n9)
set_option maxHeartbeats 1000000 in
set_option maxRecDepth 20000 in
theorem t_X1_countWaiting_4_b {N : Nat} {kh4 : Int32 → Int32 → gq_M → Option (Int32 × gq_M)} {v9 : Int32} {M9 : gq_M} (hC : gq_C p s m args meth c D A cI cZ ad mtC RX1 cX1_countWaiting 3) (hr : meth.sig.returnType = (some .int))  (hk4 : ∀ (x1 : Int32) (x2 : Int32) (M : gq_M), kh4 x1 x2 M = some (v9, M9) → gq_W p l e (gq_rm 2) s m args below meth c D A cI cZ ad mtC 3 (MQ below (gq_Qi D cI cZ ad mtC v9 M9 A) args s 0 0 A) 4 [(0, .ref (ad 34)), (1, .int x1), (2, .int x2)] [] M 0 0) : ∀ (x1 : Int32) (x2 : Int32) (M : gq_M), f_X1_countWaiting_4_b N  kh4 x1 x2 M = some (v9, M9) → gq_W p l e (gq_rm 2) s m args below meth c D A cI cZ ad mtC 3 (MQ below (gq_Qi D cI cZ ad mtC v9 M9 A) args s 0 0 A) 4 [(0, .ref (ad 34)), (1, .int x1), (2, .int x2)] [] M 0 0 := by
  intro x1 x2 M h
  unfold f_X1_countWaiting_4_b at h
  refine g_iload_n hC 2 rfl rfl dX1_countWaiting_4 ?_
  refine g_aload_n hC 0 rfl rfl dX1_countWaiting_5 ?_
  refine g_getI hC fF_X1_56 lkC_34_13 dX1_countWaiting_6 ?_
  refine g_icmp_ge (tgt := 29) hC (by decide) dX1_countWaiting_9 (fun c1 => ?_) (fun c1 => ?_)
  · replace h := gq_t c1 h
    refine g_iload_n hC 1 rfl rfl dX1_countWaiting_29 ?_
    exact g_irets hC hr h dX1_countWaiting_30
  · replace h := gq_f c1 h
    refine g_aload_n hC 0 rfl rfl dX1_countWaiting_12 ?_
    refine g_iload_n hC 2 rfl rfl dX1_countWaiting_13 ?_
    obtain ⟨v2, M3, c4, h⟩ := gq_b_i h
    refine g_Vi (as := [.int x2]) hC (t_X1_isWaiting N _ _ _ _ c4) mV_X1_isWaiting  wm_X1_73 obC_34 rfl rfl (Nat.le_of_ble_eq_true rfl) ⟨Nat.le_of_ble_eq_true rfl, Nat.le_of_ble_eq_true rfl⟩ ⟨Nat.zero_le _, Nat.zero_le _⟩ dX1_countWaiting_14 ?_
    refine g_if_eq (tgt := 23) hC (by decide) dX1_countWaiting_17 (fun c5 => ?_) (fun c5 => ?_)
    · replace h := gq_t c5 h
      exact g_weak [0, 1, 2] rfl (t_X1_countWaiting_23 hC hr hk4 x1 x2 M3 h)
    · replace h := gq_f c5 h
      refine g_iinc (v := (x1 + 1)) (L2 := [(1, .int (x1 + 1)), (0, .ref (ad 34)), (2, .int x2)]) hC 1 rfl (by first | rfl | decide) (by decide) rfl dX1_countWaiting_20 ?_
      exact g_weak [1, 0, 2] rfl (t_X1_countWaiting_23 hC hr hk4 (x1 + 1) x2 M3 h)
theorem t_X1_countWaiting_4 {N : Nat} {v9 : Int32} {M9 : gq_M} (hC : gq_C p s m args meth c D A cI cZ ad mtC RX1 cX1_countWaiting 3) (hr : meth.sig.returnType = (some .int))  : ∀ (n9 : Nat) (x1 : Int32) (x2 : Int32) (M : gq_M), f_X1_countWaiting_4 N  n9 x1 x2 M = some (v9, M9) → gq_W p l e (gq_rm 2) s m args below meth c D A cI cZ ad mtC 3 (MQ below (gq_Qi D cI cZ ad mtC v9 M9 A) args s 0 0 A) 4 [(0, .ref (ad 34)), (1, .int x1), (2, .int x2)] [] M 0 0 := by
  intro n9
  induction n9 with
  | zero => intro x1 x2 M h; cases h
  | succ n9 ih => intro x1 x2 M h; exact t_X1_countWaiting_4_b hC hr  ih x1 x2 M h
def f_X1_countWaiting (N : Nat) (M : gq_M) : Option (Int32 × gq_M) :=
  f_X1_countWaiting_4 N  N 0 0 M
set_option maxHeartbeats 1000000 in
set_option maxRecDepth 20000 in
theorem t_X1_countWaiting {l : Launch} {D : va_G} {cI cZ : ClassId} {ad : Nat → Nat} (N : Nat) (M : gq_M) (v9 : Int32) (M9 : gq_M) (h : f_X1_countWaiting N  M = some (v9, M9)) : gq_Ci l D cI cZ ad mtC yX1_countWaiting cX1_countWaiting 3 (some .int) 2 [.ref (ad 34)] M v9 M9 := by
  refine gq_introI (own := RX1) (by decide) rfl (Nat.le_of_ble_eq_true rfl) ?_
  intro p e s m below meth c hC hr
  refine g_cast (L2 := [(0, .ref (ad 34))]) ?_ rfl rfl rfl rfl
  unfold f_X1_countWaiting at h
  refine g_iconst (v := 0) hC (by decide) dX1_countWaiting_0 ?_
  refine g_istore_n (L2 := [(1, .int 0), (0, .ref (ad 34))]) hC rfl (by decide) rfl dX1_countWaiting_1 ?_
  refine g_iconst (v := 0) hC (by decide) dX1_countWaiting_2 ?_
  refine g_istore_n (L2 := [(2, .int 0), (1, .int 0), (0, .ref (ad 34))]) hC rfl (by decide) rfl dX1_countWaiting_3 ?_
  exact g_weak [2, 1, 0] rfl (t_X1_countWaiting_4 hC hr  N 0 0 M h)
def f_X1_move (N : Nat) (a1 : Int32) (a2 : Int32) (M : gq_M) : Option (Int32 × gq_M) :=
  gq_b (f_X8_at 44 150 N a1 M) fun v1 M2 => gq_b (f_X1_sumOf N v1 M2) fun v4 M5 => gq_b (f_X8_at 40 150 N a1 M5) fun v7 M8 => gq_b (f_X8_add 60 6 N v4 (-v7) M8) fun v10 M11 => gq_b (f_X1_sumOf N a2 M11) fun v13 M14 => gq_b (f_X8_at 40 150 N a1 M14) fun v16 M17 => gq_b (f_X8_add 60 6 N v13 v16 M17) fun v19 M20 => gq_b (f_X8_put 44 150 N a1 a2 M20) fun v22 M23 => some (0, M23)
set_option maxHeartbeats 1000000 in
set_option maxRecDepth 20000 in
theorem t_X1_move {l : Launch} {D : va_G} {cI cZ : ClassId} {ad : Nat → Nat} (N : Nat) (a1 : Int32) (a2 : Int32) (M : gq_M) (v9 : Int32) (M9 : gq_M) (h : f_X1_move N a1 a2 M = some (v9, M9)) : gq_Cv l D cI cZ ad mtC yX1_move cX1_move 3 1 [.ref (ad 34), .int a1, .int a2] M M9 := by
  refine gq_introV (own := RX1) (by decide) rfl (Nat.le_of_ble_eq_true rfl) ?_
  intro p e s m below meth c hC hr
  refine g_cast (L2 := [(0, .ref (ad 34)), (1, .int a1), (2, .int a2)]) ?_ rfl rfl rfl rfl
  unfold f_X1_move at h
  refine g_aload_n hC 0 rfl rfl dX1_move_0 ?_
  refine g_getR hC fF_X1_53 lkC_34_12 dX1_move_1 ?_
  refine g_aload_n hC 0 rfl rfl dX1_move_4 ?_
  refine g_getR hC fF_X1_29 lkC_34_4 dX1_move_5 ?_
  refine g_iload_n hC 1 rfl rfl dX1_move_8 ?_
  obtain ⟨v1, M2, c3, h⟩ := gq_b_i h
  refine g_Vi (as := [.int a1]) hC (t_X8_at lkC_43_0 arC_44 N _ _ _ _ c3) mV_X8_at  wm_X1_70 obC_43 rfl rfl (Nat.le_of_ble_eq_true rfl) ⟨Nat.le_of_ble_eq_true rfl, Nat.le_of_ble_eq_true rfl⟩ ⟨Nat.zero_le _, Nat.zero_le _⟩ dX1_move_9 ?_
  obtain ⟨v4, M5, c6, h⟩ := gq_b_i h
  refine g_Si (as := [.int v1]) hC (t_X1_sumOf N _ _ _ _ c6) mS_X1_sumOf wm_X1_66 rfl rfl (Nat.le_of_ble_eq_true rfl) ⟨Nat.le_of_ble_eq_true rfl, Nat.le_of_ble_eq_true rfl⟩ ⟨Nat.zero_le _, Nat.zero_le _⟩ dX1_move_12 ?_
  refine g_aload_n hC 0 rfl rfl dX1_move_15 ?_
  refine g_getR hC fF_X1_23 lkC_34_2 dX1_move_16 ?_
  refine g_iload_n hC 1 rfl rfl dX1_move_19 ?_
  obtain ⟨v7, M8, c9, h⟩ := gq_b_i h
  refine g_Vi (as := [.int a1]) hC (t_X8_at lkC_39_0 arC_40 N _ _ _ _ c9) mV_X8_at  wm_X1_70 obC_39 rfl rfl (Nat.le_of_ble_eq_true rfl) ⟨Nat.le_of_ble_eq_true rfl, Nat.le_of_ble_eq_true rfl⟩ ⟨Nat.zero_le _, Nat.zero_le _⟩ dX1_move_20 ?_
  refine g_ineg hC dX1_move_23 ?_
  obtain ⟨v10, M11, c12, h⟩ := gq_b_i h
  refine g_Vv (as := [.int v4, .int (-v7)]) hC (t_X8_add lkC_59_0 arC_60 N _ _ _ _ _ c12) mV_X8_add  wm_X1_63 obC_59 rfl rfl (Nat.le_of_ble_eq_true rfl) ⟨Nat.le_of_ble_eq_true rfl, Nat.le_of_ble_eq_true rfl⟩ ⟨Nat.zero_le _, Nat.zero_le _⟩ dX1_move_24 ?_
  refine g_aload_n hC 0 rfl rfl dX1_move_27 ?_
  refine g_getR hC fF_X1_53 lkC_34_12 dX1_move_28 ?_
  refine g_iload_n hC 2 rfl rfl dX1_move_31 ?_
  obtain ⟨v13, M14, c15, h⟩ := gq_b_i h
  refine g_Si (as := [.int a2]) hC (t_X1_sumOf N _ _ _ _ c15) mS_X1_sumOf wm_X1_66 rfl rfl (Nat.le_of_ble_eq_true rfl) ⟨Nat.le_of_ble_eq_true rfl, Nat.le_of_ble_eq_true rfl⟩ ⟨Nat.zero_le _, Nat.zero_le _⟩ dX1_move_32 ?_
  refine g_aload_n hC 0 rfl rfl dX1_move_35 ?_
  refine g_getR hC fF_X1_23 lkC_34_2 dX1_move_36 ?_
  refine g_iload_n hC 1 rfl rfl dX1_move_39 ?_
  obtain ⟨v16, M17, c18, h⟩ := gq_b_i h
  refine g_Vi (as := [.int a1]) hC (t_X8_at lkC_39_0 arC_40 N _ _ _ _ c18) mV_X8_at  wm_X1_70 obC_39 rfl rfl (Nat.le_of_ble_eq_true rfl) ⟨Nat.le_of_ble_eq_true rfl, Nat.le_of_ble_eq_true rfl⟩ ⟨Nat.zero_le _, Nat.zero_le _⟩ dX1_move_40 ?_
  obtain ⟨v19, M20, c21, h⟩ := gq_b_i h
  refine g_Vv (as := [.int v13, .int v16]) hC (t_X8_add lkC_59_0 arC_60 N _ _ _ _ _ c21) mV_X8_add  wm_X1_63 obC_59 rfl rfl (Nat.le_of_ble_eq_true rfl) ⟨Nat.le_of_ble_eq_true rfl, Nat.le_of_ble_eq_true rfl⟩ ⟨Nat.zero_le _, Nat.zero_le _⟩ dX1_move_43 ?_
  refine g_aload_n hC 0 rfl rfl dX1_move_46 ?_
  refine g_getR hC fF_X1_29 lkC_34_4 dX1_move_47 ?_
  refine g_iload_n hC 1 rfl rfl dX1_move_50 ?_
  refine g_iload_n hC 2 rfl rfl dX1_move_51 ?_
  obtain ⟨v22, M23, c24, h⟩ := gq_b_i h
  refine g_Vv (as := [.int a1, .int a2]) hC (t_X8_put lkC_43_0 arC_44 N _ _ _ _ _ c24) mV_X8_put  wm_X1_60 obC_43 rfl rfl (Nat.le_of_ble_eq_true rfl) ⟨Nat.le_of_ble_eq_true rfl, Nat.le_of_ble_eq_true rfl⟩ ⟨Nat.zero_le _, Nat.zero_le _⟩ dX1_move_52 ?_
  exact g_vrets hC hr h dX1_move_55
def f_X1_sell (N : Nat) (a1 : Int32) (a2 : Int32) (a3 : Int32) (M : gq_M) : Option (Int32 × gq_M) :=
  gq_b (f_X1_move N a1 3 M) fun v1 M2 => gq_b (f_X8_put 48 150 N a1 a2 M2) fun v4 M5 => gq_b (f_X8_put 50 150 N a1 a3 M5) fun v7 M8 => some (0, M8)
set_option maxHeartbeats 1000000 in
set_option maxRecDepth 20000 in
theorem t_X1_sell {l : Launch} {D : va_G} {cI cZ : ClassId} {ad : Nat → Nat} (N : Nat) (a1 : Int32) (a2 : Int32) (a3 : Int32) (M : gq_M) (v9 : Int32) (M9 : gq_M) (h : f_X1_sell N a1 a2 a3 M = some (v9, M9)) : gq_Cv l D cI cZ ad mtC yX1_sell cX1_sell 4 2 [.ref (ad 34), .int a1, .int a2, .int a3] M M9 := by
  refine gq_introV (own := RX1) (by decide) rfl (Nat.le_of_ble_eq_true rfl) ?_
  intro p e s m below meth c hC hr
  refine g_cast (L2 := [(0, .ref (ad 34)), (1, .int a1), (2, .int a2), (3, .int a3)]) ?_ rfl rfl rfl rfl
  unfold f_X1_sell at h
  refine g_aload_n hC 0 rfl rfl dX1_sell_0 ?_
  refine g_iload_n hC 1 rfl rfl dX1_sell_1 ?_
  refine g_iconst (v := 3) hC (by decide) dX1_sell_2 ?_
  obtain ⟨v1, M2, c3, h⟩ := gq_b_i h
  refine g_Vv (as := [.int a1, .int 3]) hC (t_X1_move N _ _ _ _ _ c3) mV_X1_move  wm_X1_77 obC_34 rfl rfl (Nat.le_of_ble_eq_true rfl) ⟨Nat.le_of_ble_eq_true rfl, Nat.le_of_ble_eq_true rfl⟩ ⟨Nat.zero_le _, Nat.zero_le _⟩ dX1_sell_3 ?_
  refine g_aload_n hC 0 rfl rfl dX1_sell_6 ?_
  refine g_getR hC fF_X1_35 lkC_34_6 dX1_sell_7 ?_
  refine g_iload_n hC 1 rfl rfl dX1_sell_10 ?_
  refine g_iload_n hC 2 rfl rfl dX1_sell_11 ?_
  obtain ⟨v4, M5, c6, h⟩ := gq_b_i h
  refine g_Vv (as := [.int a1, .int a2]) hC (t_X8_put lkC_47_0 arC_48 N _ _ _ _ _ c6) mV_X8_put  wm_X1_60 obC_47 rfl rfl (Nat.le_of_ble_eq_true rfl) ⟨Nat.le_of_ble_eq_true rfl, Nat.le_of_ble_eq_true rfl⟩ ⟨Nat.zero_le _, Nat.zero_le _⟩ dX1_sell_12 ?_
  refine g_aload_n hC 0 rfl rfl dX1_sell_15 ?_
  refine g_getR hC fF_X1_38 lkC_34_7 dX1_sell_16 ?_
  refine g_iload_n hC 1 rfl rfl dX1_sell_19 ?_
  refine g_iload_n hC 3 rfl rfl dX1_sell_20 ?_
  obtain ⟨v7, M8, c9, h⟩ := gq_b_i h
  refine g_Vv (as := [.int a1, .int a3]) hC (t_X8_put lkC_49_0 arC_50 N _ _ _ _ _ c9) mV_X8_put  wm_X1_60 obC_49 rfl rfl (Nat.le_of_ble_eq_true rfl) ⟨Nat.le_of_ble_eq_true rfl, Nat.le_of_ble_eq_true rfl⟩ ⟨Nat.zero_le _, Nat.zero_le _⟩ dX1_sell_21 ?_
  exact g_vrets hC hr h dX1_sell_24
def f_X1_canBeCarried_31 (N : Nat) (s0 : Int32) (M : gq_M) : Option (Int32 × gq_M) :=
  gq_g (gq_bb s0) (some (s0, M))
set_option maxHeartbeats 1000000 in
set_option maxRecDepth 20000 in
theorem t_X1_canBeCarried_31 {N : Nat} {v9 : Int32} {M9 : gq_M} (hC : gq_C p s m args meth c D A cI cZ ad mtC RX1 cX1_canBeCarried 2) (hr : meth.sig.returnType = (some .boolean))   : ∀ (s0 : Int32) (M : gq_M), f_X1_canBeCarried_31 N  s0 M = some (v9, M9) → gq_W p l e (gq_rm 1) s m args below meth c D A cI cZ ad mtC 2 (MQ below (gq_Qi D cI cZ ad mtC v9 M9 A) args s 0 0 A) 31 [] [.int s0] M 0 0 := by
  intro s0 M h
  unfold f_X1_canBeCarried_31 at h
  obtain ⟨g12, h⟩ := gq_g_i h
  exact g_zrets hC hr (gq_bb_i g12) h dX1_canBeCarried_31
def f_X1_canBeCarried_30 (N : Nat) (M : gq_M) : Option (Int32 × gq_M) :=
  f_X1_canBeCarried_31 N  0 M
set_option maxHeartbeats 1000000 in
set_option maxRecDepth 20000 in
theorem t_X1_canBeCarried_30 {N : Nat} {v9 : Int32} {M9 : gq_M} (hC : gq_C p s m args meth c D A cI cZ ad mtC RX1 cX1_canBeCarried 2) (hr : meth.sig.returnType = (some .boolean))   : ∀ (M : gq_M), f_X1_canBeCarried_30 N   M = some (v9, M9) → gq_W p l e (gq_rm 1) s m args below meth c D A cI cZ ad mtC 2 (MQ below (gq_Qi D cI cZ ad mtC v9 M9 A) args s 0 0 A) 30 [] [] M 0 0 := by
  intro  M h
  unfold f_X1_canBeCarried_30 at h
  refine g_iconst (v := 0) hC (by decide) dX1_canBeCarried_30 ?_
  exact g_weak [] rfl (t_X1_canBeCarried_31 hC hr  0 M h)
def f_X1_canBeCarried (N : Nat) (a1 : Int32) (M : gq_M) : Option (Int32 × gq_M) :=
  gq_b (f_X8_at 56 150 N a1 M) fun v1 M2 => if v1 = 0 then (gq_b (f_X8_at 38 150 N a1 M2) fun v5 M6 => gq_b (f_X1_freshOf N v5 M6) fun v8 M9 => if v8 ≤ 1 then (f_X1_canBeCarried_30 N   M9) else (f_X1_canBeCarried_31 N  1 M9)) else (f_X1_canBeCarried_30 N   M2)
set_option maxHeartbeats 1000000 in
set_option maxRecDepth 20000 in
theorem t_X1_canBeCarried {l : Launch} {D : va_G} {cI cZ : ClassId} {ad : Nat → Nat} (N : Nat) (a1 : Int32) (M : gq_M) (v9 : Int32) (M9 : gq_M) (h : f_X1_canBeCarried N a1 M = some (v9, M9)) : gq_Ci l D cI cZ ad mtC yX1_canBeCarried cX1_canBeCarried 2 (some .boolean) 1 [.ref (ad 34), .int a1] M v9 M9 := by
  refine gq_introI (own := RX1) (by decide) rfl (Nat.le_of_ble_eq_true rfl) ?_
  intro p e s m below meth c hC hr
  refine g_cast (L2 := [(0, .ref (ad 34)), (1, .int a1)]) ?_ rfl rfl rfl rfl
  unfold f_X1_canBeCarried at h
  refine g_aload_n hC 0 rfl rfl dX1_canBeCarried_0 ?_
  refine g_getR hC fF_X1_47 lkC_34_10 dX1_canBeCarried_1 ?_
  refine g_iload_n hC 1 rfl rfl dX1_canBeCarried_4 ?_
  obtain ⟨v1, M2, c3, h⟩ := gq_b_i h
  refine g_Vi (as := [.int a1]) hC (t_X8_at lkC_55_0 arC_56 N _ _ _ _ c3) mV_X8_at  wm_X1_70 obC_55 rfl rfl (Nat.le_of_ble_eq_true rfl) ⟨Nat.le_of_ble_eq_true rfl, Nat.le_of_ble_eq_true rfl⟩ ⟨Nat.zero_le _, Nat.zero_le _⟩ dX1_canBeCarried_5 ?_
  refine g_if_ne (tgt := 30) hC (by decide) dX1_canBeCarried_8 (fun c4 => ?_) (fun c4 => ?_)
  · replace h := gq_f c4 h
    exact g_weak [] rfl (t_X1_canBeCarried_30 hC hr   M2 h)
  · replace h := gq_t c4 h
    refine g_aload_n hC 0 rfl rfl dX1_canBeCarried_11 ?_
    refine g_getR hC fF_X1_20 lkC_34_1 dX1_canBeCarried_12 ?_
    refine g_iload_n hC 1 rfl rfl dX1_canBeCarried_15 ?_
    obtain ⟨v5, M6, c7, h⟩ := gq_b_i h
    refine g_Vi (as := [.int a1]) hC (t_X8_at lkC_37_0 arC_38 N _ _ _ _ c7) mV_X8_at  wm_X1_70 obC_37 rfl rfl (Nat.le_of_ble_eq_true rfl) ⟨Nat.le_of_ble_eq_true rfl, Nat.le_of_ble_eq_true rfl⟩ ⟨Nat.zero_le _, Nat.zero_le _⟩ dX1_canBeCarried_16 ?_
    obtain ⟨v8, M9, c10, h⟩ := gq_b_i h
    refine g_Si (as := [.int v5]) hC (t_X1_freshOf N _ _ _ _ c10) mS_X1_freshOf wm_X1_80 rfl rfl (Nat.le_of_ble_eq_true rfl) ⟨Nat.le_of_ble_eq_true rfl, Nat.le_of_ble_eq_true rfl⟩ ⟨Nat.zero_le _, Nat.zero_le _⟩ dX1_canBeCarried_19 ?_
    refine g_iconst (v := 1) hC (by decide) dX1_canBeCarried_22 ?_
    refine g_icmp_le (tgt := 30) hC (by decide) dX1_canBeCarried_23 (fun c11 => ?_) (fun c11 => ?_)
    · replace h := gq_t c11 h
      exact g_weak [] rfl (t_X1_canBeCarried_30 hC hr   M9 h)
    · replace h := gq_f c11 h
      refine g_iconst (v := 1) hC (by decide) dX1_canBeCarried_26 ?_
      refine g_goto (tgt := 31) hC (by decide) dX1_canBeCarried_27 ?_
      exact g_weak [] rfl (t_X1_canBeCarried_31 hC hr  1 M9 h)
def f_X1_age (N : Nat) (a1 : Int32) (M : gq_M) : Option (Int32 × gq_M) :=
  gq_b (f_X8_put 56 150 N a1 1 M) fun v1 M2 => gq_b (f_X8_add 38 150 N a1 1 M2) fun v4 M5 => some (0, M5)
set_option maxHeartbeats 1000000 in
set_option maxRecDepth 20000 in
theorem t_X1_age {l : Launch} {D : va_G} {cI cZ : ClassId} {ad : Nat → Nat} (N : Nat) (a1 : Int32) (M : gq_M) (v9 : Int32) (M9 : gq_M) (h : f_X1_age N a1 M = some (v9, M9)) : gq_Cv l D cI cZ ad mtC yX1_age cX1_age 2 1 [.ref (ad 34), .int a1] M M9 := by
  refine gq_introV (own := RX1) (by decide) rfl (Nat.le_of_ble_eq_true rfl) ?_
  intro p e s m below meth c hC hr
  refine g_cast (L2 := [(0, .ref (ad 34)), (1, .int a1)]) ?_ rfl rfl rfl rfl
  unfold f_X1_age at h
  refine g_aload_n hC 0 rfl rfl dX1_age_0 ?_
  refine g_getR hC fF_X1_47 lkC_34_10 dX1_age_1 ?_
  refine g_iload_n hC 1 rfl rfl dX1_age_4 ?_
  refine g_iconst (v := 1) hC (by decide) dX1_age_5 ?_
  obtain ⟨v1, M2, c3, h⟩ := gq_b_i h
  refine g_Vv (as := [.int a1, .int 1]) hC (t_X8_put lkC_55_0 arC_56 N _ _ _ _ _ c3) mV_X8_put  wm_X1_60 obC_55 rfl rfl (Nat.le_of_ble_eq_true rfl) ⟨Nat.le_of_ble_eq_true rfl, Nat.le_of_ble_eq_true rfl⟩ ⟨Nat.zero_le _, Nat.zero_le _⟩ dX1_age_6 ?_
  refine g_aload_n hC 0 rfl rfl dX1_age_9 ?_
  refine g_getR hC fF_X1_20 lkC_34_1 dX1_age_10 ?_
  refine g_iload_n hC 1 rfl rfl dX1_age_13 ?_
  refine g_iconst (v := 1) hC (by decide) dX1_age_14 ?_
  obtain ⟨v4, M5, c6, h⟩ := gq_b_i h
  refine g_Vv (as := [.int a1, .int 1]) hC (t_X8_add lkC_37_0 arC_38 N _ _ _ _ _ c6) mV_X8_add  wm_X1_63 obC_37 rfl rfl (Nat.le_of_ble_eq_true rfl) ⟨Nat.le_of_ble_eq_true rfl, Nat.le_of_ble_eq_true rfl⟩ ⟨Nat.zero_le _, Nat.zero_le _⟩ dX1_age_15 ?_
  exact g_vrets hC hr h dX1_age_18
def f_X1_centsLacking_49 (N : Nat) (s0 : Int32) (M : gq_M) : Option (Int32 × gq_M) :=
  some (s0, M)
set_option maxHeartbeats 1000000 in
set_option maxRecDepth 20000 in
theorem t_X1_centsLacking_49 {N : Nat} {v9 : Int32} {M9 : gq_M} (hC : gq_C p s m args meth c D A cI cZ ad mtC RX1 cX1_centsLacking 3) (hr : meth.sig.returnType = (some .int))   : ∀ (s0 : Int32) (M : gq_M), f_X1_centsLacking_49 N  s0 M = some (v9, M9) → gq_W p l e (gq_rm 1) s m args below meth c D A cI cZ ad mtC 3 (MQ below (gq_Qi D cI cZ ad mtC v9 M9 A) args s 0 0 A) 49 [] [.int s0] M 0 0 := by
  intro s0 M h
  unfold f_X1_centsLacking_49 at h
  exact g_irets hC hr h dX1_centsLacking_49
def f_X1_centsLacking (N : Nat) (a1 : Int32) (M : gq_M) : Option (Int32 × gq_M) :=
  gq_b (f_X8_at 40 150 N a1 M) fun v1 M2 => gq_b (f_X8_at 42 150 N a1 M2) fun v4 M5 => gq_b (f_X8_at 40 150 N a1 M5) fun v7 M8 => if ((v1 - v4) * 100) ≤ (3 * v7) then (f_X1_centsLacking_49 N  0 M8) else (gq_b (f_X8_at 50 150 N a1 M8) fun v11 M12 => f_X1_centsLacking_49 N  ((v1 - v4) * v11) M12)
set_option maxHeartbeats 1000000 in
set_option maxRecDepth 20000 in
theorem t_X1_centsLacking {l : Launch} {D : va_G} {cI cZ : ClassId} {ad : Nat → Nat} (N : Nat) (a1 : Int32) (M : gq_M) (v9 : Int32) (M9 : gq_M) (h : f_X1_centsLacking N a1 M = some (v9, M9)) : gq_Ci l D cI cZ ad mtC yX1_centsLacking cX1_centsLacking 3 (some .int) 1 [.ref (ad 34), .int a1] M v9 M9 := by
  refine gq_introI (own := RX1) (by decide) rfl (Nat.le_of_ble_eq_true rfl) ?_
  intro p e s m below meth c hC hr
  refine g_cast (L2 := [(0, .ref (ad 34)), (1, .int a1)]) ?_ rfl rfl rfl rfl
  unfold f_X1_centsLacking at h
  refine g_aload_n hC 0 rfl rfl dX1_centsLacking_0 ?_
  refine g_getR hC fF_X1_23 lkC_34_2 dX1_centsLacking_1 ?_
  refine g_iload_n hC 1 rfl rfl dX1_centsLacking_4 ?_
  obtain ⟨v1, M2, c3, h⟩ := gq_b_i h
  refine g_Vi (as := [.int a1]) hC (t_X8_at lkC_39_0 arC_40 N _ _ _ _ c3) mV_X8_at  wm_X1_70 obC_39 rfl rfl (Nat.le_of_ble_eq_true rfl) ⟨Nat.le_of_ble_eq_true rfl, Nat.le_of_ble_eq_true rfl⟩ ⟨Nat.zero_le _, Nat.zero_le _⟩ dX1_centsLacking_5 ?_
  refine g_aload_n hC 0 rfl rfl dX1_centsLacking_8 ?_
  refine g_getR hC fF_X1_26 lkC_34_3 dX1_centsLacking_9 ?_
  refine g_iload_n hC 1 rfl rfl dX1_centsLacking_12 ?_
  obtain ⟨v4, M5, c6, h⟩ := gq_b_i h
  refine g_Vi (as := [.int a1]) hC (t_X8_at lkC_41_0 arC_42 N _ _ _ _ c6) mV_X8_at  wm_X1_70 obC_41 rfl rfl (Nat.le_of_ble_eq_true rfl) ⟨Nat.le_of_ble_eq_true rfl, Nat.le_of_ble_eq_true rfl⟩ ⟨Nat.zero_le _, Nat.zero_le _⟩ dX1_centsLacking_13 ?_
  refine g_isub hC dX1_centsLacking_16 ?_
  refine g_istore_n (L2 := [(2, .int (v1 - v4)), (0, .ref (ad 34)), (1, .int a1)]) hC rfl (by decide) rfl dX1_centsLacking_17 ?_
  refine g_iload_n hC 0 rfl rfl dX1_centsLacking_18 ?_
  refine g_bipush (v := 100) hC (by decide) dX1_centsLacking_19 ?_
  refine g_imul hC dX1_centsLacking_21 ?_
  refine g_iconst (v := 3) hC (by decide) dX1_centsLacking_22 ?_
  refine g_aload_n hC 1 rfl rfl dX1_centsLacking_23 ?_
  refine g_getR hC fF_X1_23 lkC_34_2 dX1_centsLacking_24 ?_
  refine g_iload_n hC 2 rfl rfl dX1_centsLacking_27 ?_
  obtain ⟨v7, M8, c9, h⟩ := gq_b_i h
  refine g_Vi (as := [.int a1]) hC (t_X8_at lkC_39_0 arC_40 N _ _ _ _ c9) mV_X8_at  wm_X1_70 obC_39 rfl rfl (Nat.le_of_ble_eq_true rfl) ⟨Nat.le_of_ble_eq_true rfl, Nat.le_of_ble_eq_true rfl⟩ ⟨Nat.zero_le _, Nat.zero_le _⟩ dX1_centsLacking_28 ?_
  refine g_imul hC dX1_centsLacking_31 ?_
  refine g_icmp_le (tgt := 48) hC (by decide) dX1_centsLacking_32 (fun c10 => ?_) (fun c10 => ?_)
  · replace h := gq_t c10 h
    refine g_iconst (v := 0) hC (by decide) dX1_centsLacking_48 ?_
    exact g_weak [] rfl (t_X1_centsLacking_49 hC hr  0 M8 h)
  · replace h := gq_f c10 h
    refine g_iload_n hC 0 rfl rfl dX1_centsLacking_35 ?_
    refine g_aload_n hC 1 rfl rfl dX1_centsLacking_36 ?_
    refine g_getR hC fF_X1_38 lkC_34_7 dX1_centsLacking_37 ?_
    refine g_iload_n hC 2 rfl rfl dX1_centsLacking_40 ?_
    obtain ⟨v11, M12, c13, h⟩ := gq_b_i h
    refine g_Vi (as := [.int a1]) hC (t_X8_at lkC_49_0 arC_50 N _ _ _ _ c13) mV_X8_at  wm_X1_70 obC_49 rfl rfl (Nat.le_of_ble_eq_true rfl) ⟨Nat.le_of_ble_eq_true rfl, Nat.le_of_ble_eq_true rfl⟩ ⟨Nat.zero_le _, Nat.zero_le _⟩ dX1_centsLacking_41 ?_
    refine g_imul hC dX1_centsLacking_44 ?_
    refine g_goto (tgt := 49) hC (by decide) dX1_centsLacking_45 ?_
    exact g_weak [] rfl (t_X1_centsLacking_49 hC hr  ((v1 - v4) * v11) M12 h)
def f_X2_leftOf (N : Nat) (a1 : Int32) (M : gq_M) : Option (Int32 × gq_M) :=
  gq_b (f_X8_at 25 8 N a1 M) fun v1 M2 => gq_b (f_X8_at 29 8 N a1 M2) fun v4 M5 => some ((v1 - v4), M5)
set_option maxHeartbeats 1000000 in
set_option maxRecDepth 20000 in
theorem t_X2_leftOf {l : Launch} {D : va_G} {cI cZ : ClassId} {ad : Nat → Nat} (N : Nat) (a1 : Int32) (M : gq_M) (v9 : Int32) (M9 : gq_M) (h : f_X2_leftOf N a1 M = some (v9, M9)) : gq_Ci l D cI cZ ad mtC yX2_leftOf cX2_leftOf 2 (some .int) 1 [.ref (ad 23), .int a1] M v9 M9 := by
  refine gq_introI (own := RX2) (by decide) rfl (Nat.le_of_ble_eq_true rfl) ?_
  intro p e s m below meth c hC hr
  refine g_cast (L2 := [(0, .ref (ad 23)), (1, .int a1)]) ?_ rfl rfl rfl rfl
  unfold f_X2_leftOf at h
  refine g_aload_n hC 0 rfl rfl dX2_leftOf_0 ?_
  refine g_getR hC fF_X2_14 lkC_23_0 dX2_leftOf_1 ?_
  refine g_iload_n hC 1 rfl rfl dX2_leftOf_4 ?_
  obtain ⟨v1, M2, c3, h⟩ := gq_b_i h
  refine g_Vi (as := [.int a1]) hC (t_X8_at lkC_24_0 arC_25 N _ _ _ _ c3) mV_X8_at  wm_X2_32 obC_24 rfl rfl (Nat.le_of_ble_eq_true rfl) ⟨Nat.le_of_ble_eq_true rfl, Nat.le_of_ble_eq_true rfl⟩ ⟨Nat.zero_le _, Nat.zero_le _⟩ dX2_leftOf_5 ?_
  refine g_aload_n hC 0 rfl rfl dX2_leftOf_8 ?_
  refine g_getR hC fF_X2_23 lkC_23_2 dX2_leftOf_9 ?_
  refine g_iload_n hC 1 rfl rfl dX2_leftOf_12 ?_
  obtain ⟨v4, M5, c6, h⟩ := gq_b_i h
  refine g_Vi (as := [.int a1]) hC (t_X8_at lkC_28_0 arC_29 N _ _ _ _ c6) mV_X8_at  wm_X2_32 obC_28 rfl rfl (Nat.le_of_ble_eq_true rfl) ⟨Nat.le_of_ble_eq_true rfl, Nat.le_of_ble_eq_true rfl⟩ ⟨Nat.zero_le _, Nat.zero_le _⟩ dX2_leftOf_13 ?_
  refine g_isub hC dX2_leftOf_16 ?_
  exact g_irets hC hr h dX2_leftOf_17
def f_X2_greatestDelay_4_b (N : Nat) (kh4 : Int32 → Int32 → gq_M → Option (Int32 × gq_M)) (x1 : Int32) (x2 : Int32) (M : gq_M) : Option (Int32 × gq_M) :=
  if 8 ≤ x2 then (some (x1, M)) else (gq_b (f_X8_at 27 8 N x2 M) fun v2 M3 => gq_l (if x1 < v2 then v2 else x1) fun v5 => kh4 v5 (x2 + 1) M3)
def f_X2_greatestDelay_4 (N : Nat) : Nat → Int32 → Int32 → gq_M → Option (Int32 × gq_M)
  | 0 => fun _ _ _ => none
  | n9 + 1 => f_X2_greatestDelay_4_b N  (f_X2_greatestDelay_4 N  n9)
set_option maxHeartbeats 1000000 in
set_option maxRecDepth 20000 in
theorem t_X2_greatestDelay_4_b {N : Nat} {kh4 : Int32 → Int32 → gq_M → Option (Int32 × gq_M)} {v9 : Int32} {M9 : gq_M} (hC : gq_C p s m args meth c D A cI cZ ad mtC RX2 cX2_greatestDelay 3) (hr : meth.sig.returnType = (some .int))  (hk4 : ∀ (x1 : Int32) (x2 : Int32) (M : gq_M), kh4 x1 x2 M = some (v9, M9) → gq_W p l e (gq_rm 1) s m args below meth c D A cI cZ ad mtC 3 (MQ below (gq_Qi D cI cZ ad mtC v9 M9 A) args s 0 0 A) 4 [(0, .ref (ad 23)), (1, .int x1), (2, .int x2)] [] M 0 0) : ∀ (x1 : Int32) (x2 : Int32) (M : gq_M), f_X2_greatestDelay_4_b N  kh4 x1 x2 M = some (v9, M9) → gq_W p l e (gq_rm 1) s m args below meth c D A cI cZ ad mtC 3 (MQ below (gq_Qi D cI cZ ad mtC v9 M9 A) args s 0 0 A) 4 [(0, .ref (ad 23)), (1, .int x1), (2, .int x2)] [] M 0 0 := by
  intro x1 x2 M h
  unfold f_X2_greatestDelay_4_b at h
  refine g_iload_n hC 2 rfl rfl dX2_greatestDelay_4 ?_
  refine g_bipush (v := 8) hC (by decide) dX2_greatestDelay_5 ?_
  refine g_icmp_ge (tgt := 29) hC (by decide) dX2_greatestDelay_7 (fun c1 => ?_) (fun c1 => ?_)
  · replace h := gq_t c1 h
    refine g_iload_n hC 1 rfl rfl dX2_greatestDelay_29 ?_
    exact g_irets hC hr h dX2_greatestDelay_30
  · replace h := gq_f c1 h
    refine g_iload_n hC 1 rfl rfl dX2_greatestDelay_10 ?_
    refine g_aload_n hC 0 rfl rfl dX2_greatestDelay_11 ?_
    refine g_getR hC fF_X2_20 lkC_23_1 dX2_greatestDelay_12 ?_
    refine g_iload_n hC 2 rfl rfl dX2_greatestDelay_15 ?_
    obtain ⟨v2, M3, c4, h⟩ := gq_b_i h
    refine g_Vi (as := [.int x2]) hC (t_X8_at lkC_26_0 arC_27 N _ _ _ _ c4) mV_X8_at  wm_X2_32 obC_26 rfl rfl (Nat.le_of_ble_eq_true rfl) ⟨Nat.le_of_ble_eq_true rfl, Nat.le_of_ble_eq_true rfl⟩ ⟨Nat.zero_le _, Nat.zero_le _⟩ dX2_greatestDelay_16 ?_
    refine g_mmax hC wm_X2_36 wt_max wn_J9 wc_max ⟨Nat.le_of_ble_eq_true rfl, Nat.le_of_ble_eq_true rfl⟩ ⟨Nat.zero_le _, Nat.zero_le _⟩ dX2_greatestDelay_19 ?_
    refine g_topi (fun v5 hv5 => ?_)
    replace h := gq_l_i hv5 h
    refine g_istore_n (L2 := [(1, .int v5), (0, .ref (ad 23)), (2, .int x2)]) hC rfl (by decide) rfl dX2_greatestDelay_22 ?_
    refine g_iinc (v := (x2 + 1)) (L2 := [(2, .int (x2 + 1)), (1, .int v5), (0, .ref (ad 23))]) hC 2 rfl (by first | rfl | decide) (by decide) rfl dX2_greatestDelay_23 ?_
    refine g_goto (tgt := 4) hC (by decide) dX2_greatestDelay_26 ?_
    exact g_weak [2, 1, 0] rfl (hk4 v5 (x2 + 1) M3 h)
theorem t_X2_greatestDelay_4 {N : Nat} {v9 : Int32} {M9 : gq_M} (hC : gq_C p s m args meth c D A cI cZ ad mtC RX2 cX2_greatestDelay 3) (hr : meth.sig.returnType = (some .int))  : ∀ (n9 : Nat) (x1 : Int32) (x2 : Int32) (M : gq_M), f_X2_greatestDelay_4 N  n9 x1 x2 M = some (v9, M9) → gq_W p l e (gq_rm 1) s m args below meth c D A cI cZ ad mtC 3 (MQ below (gq_Qi D cI cZ ad mtC v9 M9 A) args s 0 0 A) 4 [(0, .ref (ad 23)), (1, .int x1), (2, .int x2)] [] M 0 0 := by
  intro n9
  induction n9 with
  | zero => intro x1 x2 M h; cases h
  | succ n9 ih => intro x1 x2 M h; exact t_X2_greatestDelay_4_b hC hr  ih x1 x2 M h
def f_X2_greatestDelay (N : Nat) (M : gq_M) : Option (Int32 × gq_M) :=
  f_X2_greatestDelay_4 N  N 0 0 M
set_option maxHeartbeats 1000000 in
set_option maxRecDepth 20000 in
theorem t_X2_greatestDelay {l : Launch} {D : va_G} {cI cZ : ClassId} {ad : Nat → Nat} (N : Nat) (M : gq_M) (v9 : Int32) (M9 : gq_M) (h : f_X2_greatestDelay N  M = some (v9, M9)) : gq_Ci l D cI cZ ad mtC yX2_greatestDelay cX2_greatestDelay 3 (some .int) 1 [.ref (ad 23)] M v9 M9 := by
  refine gq_introI (own := RX2) (by decide) rfl (Nat.le_of_ble_eq_true rfl) ?_
  intro p e s m below meth c hC hr
  refine g_cast (L2 := [(0, .ref (ad 23))]) ?_ rfl rfl rfl rfl
  unfold f_X2_greatestDelay at h
  refine g_iconst (v := 0) hC (by decide) dX2_greatestDelay_0 ?_
  refine g_istore_n (L2 := [(1, .int 0), (0, .ref (ad 23))]) hC rfl (by decide) rfl dX2_greatestDelay_1 ?_
  refine g_iconst (v := 0) hC (by decide) dX2_greatestDelay_2 ?_
  refine g_istore_n (L2 := [(2, .int 0), (1, .int 0), (0, .ref (ad 23))]) hC rfl (by decide) rfl dX2_greatestDelay_3 ?_
  exact g_weak [2, 1, 0] rfl (t_X2_greatestDelay_4 hC hr  N 0 0 M h)
def f_X4_minimumOf (N : Nat) (a1 : Int32) (M : gq_M) : Option (Int32 × gq_M) :=
  gq_b (f_X1_kindOf N a1 M) fun v1 M2 => gq_b (f_X8_at 20 4 N v1 M2) fun v4 M5 => gq_b (f_X1_sizeOf N a1 M5) fun v7 M8 => some (((v4 * (10 + v7)) / 10), M8)
set_option maxHeartbeats 1000000 in
set_option maxRecDepth 20000 in
theorem t_X4_minimumOf {l : Launch} {D : va_G} {cI cZ : ClassId} {ad : Nat → Nat} (N : Nat) (a1 : Int32) (M : gq_M) (v9 : Int32) (M9 : gq_M) (h : f_X4_minimumOf N a1 M = some (v9, M9)) : gq_Ci l D cI cZ ad mtC yX4_minimumOf cX4_minimumOf 2 (some .int) 1 [.ref (ad 16), .int a1] M v9 M9 := by
  refine gq_introI (own := RX4) (by decide) rfl (Nat.le_of_ble_eq_true rfl) ?_
  intro p e s m below meth c hC hr
  refine g_cast (L2 := [(0, .ref (ad 16)), (1, .int a1)]) ?_ rfl rfl rfl rfl
  unfold f_X4_minimumOf at h
  refine g_aload_n hC 0 rfl rfl dX4_minimumOf_0 ?_
  refine g_getR hC fF_X4_20 lkC_16_1 dX4_minimumOf_1 ?_
  refine g_iload_n hC 1 rfl rfl dX4_minimumOf_4 ?_
  obtain ⟨v1, M2, c3, h⟩ := gq_b_i h
  refine g_Si (as := [.int a1]) hC (t_X1_kindOf N _ _ _ _ c3) mS_X1_kindOf wm_X4_29 rfl rfl (Nat.le_of_ble_eq_true rfl) ⟨Nat.le_of_ble_eq_true rfl, Nat.le_of_ble_eq_true rfl⟩ ⟨Nat.zero_le _, Nat.zero_le _⟩ dX4_minimumOf_5 ?_
  obtain ⟨v4, M5, c6, h⟩ := gq_b_i h
  refine g_Vi (as := [.int v1]) hC (t_X8_at lkC_19_0 arC_20 N _ _ _ _ c6) mV_X8_at  wm_X4_35 obC_19 rfl rfl (Nat.le_of_ble_eq_true rfl) ⟨Nat.le_of_ble_eq_true rfl, Nat.le_of_ble_eq_true rfl⟩ ⟨Nat.zero_le _, Nat.zero_le _⟩ dX4_minimumOf_8 ?_
  refine g_bipush (v := 10) hC (by decide) dX4_minimumOf_11 ?_
  refine g_iload_n hC 1 rfl rfl dX4_minimumOf_13 ?_
  obtain ⟨v7, M8, c9, h⟩ := gq_b_i h
  refine g_Si (as := [.int a1]) hC (t_X1_sizeOf N _ _ _ _ c9) mS_X1_sizeOf wm_X4_38 rfl rfl (Nat.le_of_ble_eq_true rfl) ⟨Nat.le_of_ble_eq_true rfl, Nat.le_of_ble_eq_true rfl⟩ ⟨Nat.zero_le _, Nat.zero_le _⟩ dX4_minimumOf_14 ?_
  refine g_iadd hC dX4_minimumOf_17 ?_
  refine g_imul hC dX4_minimumOf_18 ?_
  refine g_bipush (v := 10) hC (by decide) dX4_minimumOf_19 ?_
  refine g_idiv hC (by decide) dX4_minimumOf_21 ?_
  exact g_irets hC hr h dX4_minimumOf_22
def f_X5_add (N : Nat) (a1 : Int32) (a2 : Int32) (a3 : Int32) (M : gq_M) : Option (Int32 × gq_M) :=
  gq_l (gq_up M 100 4 ((M 100 4) + 1)) fun M1 => gq_b (f_X8_put 102 20 N (M 100 4) a1 M1) fun v2 M3 => gq_b (f_X8_put 104 20 N (M 100 4) a2 M3) fun v5 M6 => gq_b (f_X8_put 106 20 N (M 100 4) a3 M6) fun v8 M9 => some ((M 100 4), M9)
set_option maxHeartbeats 1000000 in
set_option maxRecDepth 20000 in
theorem t_X5_add {l : Launch} {D : va_G} {cI cZ : ClassId} {ad : Nat → Nat} (N : Nat) (a1 : Int32) (a2 : Int32) (a3 : Int32) (M : gq_M) (v9 : Int32) (M9 : gq_M) (h : f_X5_add N a1 a2 a3 M = some (v9, M9)) : gq_Ci l D cI cZ ad mtC yX5_add cX5_add 5 (some .int) 1 [.ref (ad 100), .int a1, .int a2, .int a3] M v9 M9 := by
  refine gq_introI (own := RX5) (by decide) rfl (Nat.le_of_ble_eq_true rfl) ?_
  intro p e s m below meth c hC hr
  refine g_cast (L2 := [(0, .ref (ad 100)), (1, .int a1), (2, .int a2), (3, .int a3)]) ?_ rfl rfl rfl rfl
  unfold f_X5_add at h
  refine g_aload_n hC 0 rfl rfl dX5_add_0 ?_
  refine g_getI hC fF_X5_29 lkC_100_4 dX5_add_1 ?_
  refine g_istore (L2 := [(4, .int (M 100 4)), (0, .ref (ad 100)), (1, .int a1), (2, .int a2), (3, .int a3)]) hC (by decide) rfl dX5_add_4 ?_
  refine g_aload_n hC 1 rfl rfl dX5_add_6 ?_
  refine g_dup hC rfl dX5_add_7 ?_
  refine g_getI hC fF_X5_29 lkC_100_4 dX5_add_8 ?_
  refine g_iconst (v := 1) hC (by decide) dX5_add_11 ?_
  refine g_iadd hC dX5_add_12 ?_
  refine g_putI hC fG_X5_29 lkC_100_4 dX5_add_13 ?_
  refine g_topM (fun M1 hM1 => ?_)
  replace h := gq_l_i hM1 h
  refine g_aload_n hC 1 rfl rfl dX5_add_16 ?_
  refine g_getR hC fF_X5_14 lkC_100_0 dX5_add_17 ?_
  refine g_iload hC 0 rfl dX5_add_20 ?_
  refine g_iload_n hC 2 rfl rfl dX5_add_22 ?_
  obtain ⟨v2, M3, c4, h⟩ := gq_b_i h
  refine g_Vv (as := [.int (M 100 4), .int a1]) hC (t_X8_put lkC_101_0 arC_102 N _ _ _ _ _ c4) mV_X8_put  wm_X5_33 obC_101 rfl rfl (Nat.le_of_ble_eq_true rfl) ⟨Nat.le_of_ble_eq_true rfl, Nat.le_of_ble_eq_true rfl⟩ ⟨Nat.zero_le _, Nat.zero_le _⟩ dX5_add_23 ?_
  refine g_aload_n hC 1 rfl rfl dX5_add_26 ?_
  refine g_getR hC fF_X5_20 lkC_100_1 dX5_add_27 ?_
  refine g_iload hC 0 rfl dX5_add_30 ?_
  refine g_iload_n hC 3 rfl rfl dX5_add_32 ?_
  obtain ⟨v5, M6, c7, h⟩ := gq_b_i h
  refine g_Vv (as := [.int (M 100 4), .int a2]) hC (t_X8_put lkC_103_0 arC_104 N _ _ _ _ _ c7) mV_X8_put  wm_X5_33 obC_103 rfl rfl (Nat.le_of_ble_eq_true rfl) ⟨Nat.le_of_ble_eq_true rfl, Nat.le_of_ble_eq_true rfl⟩ ⟨Nat.zero_le _, Nat.zero_le _⟩ dX5_add_33 ?_
  refine g_aload_n hC 1 rfl rfl dX5_add_36 ?_
  refine g_getR hC fF_X5_23 lkC_100_2 dX5_add_37 ?_
  refine g_iload hC 0 rfl dX5_add_40 ?_
  refine g_iload_n hC 4 rfl rfl dX5_add_42 ?_
  obtain ⟨v8, M9, c10, h⟩ := gq_b_i h
  refine g_Vv (as := [.int (M 100 4), .int a3]) hC (t_X8_put lkC_105_0 arC_106 N _ _ _ _ _ c10) mV_X8_put  wm_X5_33 obC_105 rfl rfl (Nat.le_of_ble_eq_true rfl) ⟨Nat.le_of_ble_eq_true rfl, Nat.le_of_ble_eq_true rfl⟩ ⟨Nat.zero_le _, Nat.zero_le _⟩ dX5_add_43 ?_
  refine g_iload hC 0 rfl dX5_add_46 ?_
  exact g_irets hC hr h dX5_add_48
def f_X6_clear (N : Nat) (M : gq_M) : Option (Int32 × gq_M) :=
  gq_l (gq_up M 61 7 0) fun M1 => gq_l (gq_up M1 61 8 0) fun M2 => some (0, M2)
set_option maxHeartbeats 1000000 in
set_option maxRecDepth 20000 in
theorem t_X6_clear {l : Launch} {D : va_G} {cI cZ : ClassId} {ad : Nat → Nat} (N : Nat) (M : gq_M) (v9 : Int32) (M9 : gq_M) (h : f_X6_clear N  M = some (v9, M9)) : gq_Cv l D cI cZ ad mtC yX6_clear cX6_clear 1 0 [.ref (ad 61)] M M9 := by
  refine gq_introV (own := RX6) (by decide) rfl (Nat.le_of_ble_eq_true rfl) ?_
  intro p e s m below meth c hC hr
  refine g_cast (L2 := [(0, .ref (ad 61))]) ?_ rfl rfl rfl rfl
  unfold f_X6_clear at h
  refine g_aload_n hC 0 rfl rfl dX6_clear_0 ?_
  refine g_iconst (v := 0) hC (by decide) dX6_clear_1 ?_
  refine g_putI hC fG_X6_40 lkC_61_7 dX6_clear_2 ?_
  refine g_topM (fun M1 hM1 => ?_)
  replace h := gq_l_i hM1 h
  refine g_aload_n hC 0 rfl rfl dX6_clear_5 ?_
  refine g_iconst (v := 0) hC (by decide) dX6_clear_6 ?_
  refine g_putI hC fG_X6_44 lkC_61_8 dX6_clear_7 ?_
  refine g_topM (fun M2 hM2 => ?_)
  replace h := gq_l_i hM2 h
  exact g_vrets hC hr h dX6_clear_10
def f_X8_swap (r n : Nat) (N : Nat) (a1 : Int32) (a2 : Int32) (M : gq_M) : Option (Int32 × gq_M) :=
  gq_b (f_X8_at r n N a1 M) fun v1 M2 => gq_b (f_X8_put r n N a1 a2 M2) fun v4 M5 => some (v1, M5)
set_option maxHeartbeats 1000000 in
set_option maxRecDepth 20000 in
theorem t_X8_swap {l : Launch} {D : va_G} {cI cZ : ClassId} {ad : Nat → Nat} {mt : List gq_T} {q r n : Nat} (hq : gq_lk mt q 8 0 (some r)) (hr2 : mt[r]? = some (.inr (false, n))) (N : Nat) (a1 : Int32) (a2 : Int32) (M : gq_M) (v9 : Int32) (M9 : gq_M) (h : f_X8_swap r n N a1 a2 M = some (v9, M9)) : gq_Ci l D cI cZ ad mt yX8_swap cX8_swap 4 (some .int) 1 [.ref (ad q), .int a1, .int a2] M v9 M9 := by
  refine gq_introI (own := RX8) (by decide) rfl (Nat.le_of_ble_eq_true rfl) ?_
  intro p e s m below meth c hC hr
  refine g_cast (L2 := [(0, .ref (ad q)), (1, .int a1), (2, .int a2)]) ?_ rfl rfl rfl rfl
  unfold f_X8_swap at h
  refine g_aload_n hC 0 rfl rfl dX8_swap_0 ?_
  refine g_iload_n hC 1 rfl rfl dX8_swap_1 ?_
  obtain ⟨v1, M2, c3, h⟩ := gq_b_i h
  refine g_Vi (as := [.int a1]) hC (t_X8_at hq hr2 N _ _ _ _ c3) mV_X8_at  wm_X8_13 (ob_row hq) rfl rfl (Nat.le_of_ble_eq_true rfl) ⟨Nat.le_of_ble_eq_true rfl, Nat.le_of_ble_eq_true rfl⟩ ⟨Nat.zero_le _, Nat.zero_le _⟩ dX8_swap_2 ?_
  refine g_istore_n (L2 := [(3, .int v1), (0, .ref (ad q)), (1, .int a1), (2, .int a2)]) hC rfl (by decide) rfl dX8_swap_5 ?_
  refine g_aload_n hC 1 rfl rfl dX8_swap_6 ?_
  refine g_iload_n hC 2 rfl rfl dX8_swap_7 ?_
  refine g_iload_n hC 3 rfl rfl dX8_swap_8 ?_
  obtain ⟨v4, M5, c6, h⟩ := gq_b_i h
  refine g_Vv (as := [.int a1, .int a2]) hC (t_X8_put hq hr2 N _ _ _ _ _ c6) mV_X8_put  wm_X8_17 (ob_row hq) rfl rfl (Nat.le_of_ble_eq_true rfl) ⟨Nat.le_of_ble_eq_true rfl, Nat.le_of_ble_eq_true rfl⟩ ⟨Nat.zero_le _, Nat.zero_le _⟩ dX8_swap_9 ?_
  refine g_iload_n hC 0 rfl rfl dX8_swap_12 ?_
  exact g_irets hC hr h dX8_swap_13
def f_X6_add (N : Nat) (a1 : Int32) (a2 : Int32) (a3 : Int32) (M : gq_M) : Option (Int32 × gq_M) :=
  gq_b (f_X8_put 63 150 N (M 61 7) a1 M) fun v1 M2 => gq_b (f_X8_put 65 150 N (M2 61 7) a2 M2) fun v4 M5 => gq_b (f_X8_put 67 150 N (M5 61 7) a3 M5) fun v7 M8 => gq_b (f_X8_put 69 150 N (M8 61 7) (M8 61 8) M8) fun v10 M11 => gq_b (f_X8_put 71 150 N (M11 61 7) (M11 61 8) M11) fun v13 M14 => gq_b (f_X8_swap 75 108 N a2 (M14 61 7) M14) fun v16 M17 => gq_l (gq_up M17 61 8 ((M14 61 8) + v16)) fun M19 => gq_l (gq_up M19 61 7 ((M19 61 7) + 1)) fun M20 => some (0, M20)
set_option maxHeartbeats 1000000 in
set_option maxRecDepth 20000 in
theorem t_X6_add {l : Launch} {D : va_G} {cI cZ : ClassId} {ad : Nat → Nat} (N : Nat) (a1 : Int32) (a2 : Int32) (a3 : Int32) (M : gq_M) (v9 : Int32) (M9 : gq_M) (h : f_X6_add N a1 a2 a3 M = some (v9, M9)) : gq_Cv l D cI cZ ad mtC yX6_add cX6_add 4 2 [.ref (ad 61), .int a1, .int a2, .int a3] M M9 := by
  refine gq_introV (own := RX6) (by decide) rfl (Nat.le_of_ble_eq_true rfl) ?_
  intro p e s m below meth c hC hr
  refine g_cast (L2 := [(0, .ref (ad 61)), (1, .int a1), (2, .int a2), (3, .int a3)]) ?_ rfl rfl rfl rfl
  unfold f_X6_add at h
  refine g_aload_n hC 0 rfl rfl dX6_add_0 ?_
  refine g_getR hC fF_X6_14 lkC_61_0 dX6_add_1 ?_
  refine g_aload_n hC 0 rfl rfl dX6_add_4 ?_
  refine g_getI hC fF_X6_40 lkC_61_7 dX6_add_5 ?_
  refine g_iload_n hC 1 rfl rfl dX6_add_8 ?_
  obtain ⟨v1, M2, c3, h⟩ := gq_b_i h
  refine g_Vv (as := [.int (M 61 7), .int a1]) hC (t_X8_put lkC_62_0 arC_63 N _ _ _ _ _ c3) mV_X8_put  wm_X6_47 obC_62 rfl rfl (Nat.le_of_ble_eq_true rfl) ⟨Nat.le_of_ble_eq_true rfl, Nat.le_of_ble_eq_true rfl⟩ ⟨Nat.zero_le _, Nat.zero_le _⟩ dX6_add_9 ?_
  refine g_aload_n hC 0 rfl rfl dX6_add_12 ?_
  refine g_getR hC fF_X6_20 lkC_61_1 dX6_add_13 ?_
  refine g_aload_n hC 0 rfl rfl dX6_add_16 ?_
  refine g_getI hC fF_X6_40 lkC_61_7 dX6_add_17 ?_
  refine g_iload_n hC 2 rfl rfl dX6_add_20 ?_
  obtain ⟨v4, M5, c6, h⟩ := gq_b_i h
  refine g_Vv (as := [.int (M2 61 7), .int a2]) hC (t_X8_put lkC_64_0 arC_65 N _ _ _ _ _ c6) mV_X8_put  wm_X6_47 obC_64 rfl rfl (Nat.le_of_ble_eq_true rfl) ⟨Nat.le_of_ble_eq_true rfl, Nat.le_of_ble_eq_true rfl⟩ ⟨Nat.zero_le _, Nat.zero_le _⟩ dX6_add_21 ?_
  refine g_aload_n hC 0 rfl rfl dX6_add_24 ?_
  refine g_getR hC fF_X6_23 lkC_61_2 dX6_add_25 ?_
  refine g_aload_n hC 0 rfl rfl dX6_add_28 ?_
  refine g_getI hC fF_X6_40 lkC_61_7 dX6_add_29 ?_
  refine g_iload_n hC 3 rfl rfl dX6_add_32 ?_
  obtain ⟨v7, M8, c9, h⟩ := gq_b_i h
  refine g_Vv (as := [.int (M5 61 7), .int a3]) hC (t_X8_put lkC_66_0 arC_67 N _ _ _ _ _ c9) mV_X8_put  wm_X6_47 obC_66 rfl rfl (Nat.le_of_ble_eq_true rfl) ⟨Nat.le_of_ble_eq_true rfl, Nat.le_of_ble_eq_true rfl⟩ ⟨Nat.zero_le _, Nat.zero_le _⟩ dX6_add_33 ?_
  refine g_aload_n hC 0 rfl rfl dX6_add_36 ?_
  refine g_getR hC fF_X6_26 lkC_61_3 dX6_add_37 ?_
  refine g_aload_n hC 0 rfl rfl dX6_add_40 ?_
  refine g_getI hC fF_X6_40 lkC_61_7 dX6_add_41 ?_
  refine g_aload_n hC 0 rfl rfl dX6_add_44 ?_
  refine g_getI hC fF_X6_44 lkC_61_8 dX6_add_45 ?_
  obtain ⟨v10, M11, c12, h⟩ := gq_b_i h
  refine g_Vv (as := [.int (M8 61 7), .int (M8 61 8)]) hC (t_X8_put lkC_68_0 arC_69 N _ _ _ _ _ c12) mV_X8_put  wm_X6_47 obC_68 rfl rfl (Nat.le_of_ble_eq_true rfl) ⟨Nat.le_of_ble_eq_true rfl, Nat.le_of_ble_eq_true rfl⟩ ⟨Nat.zero_le _, Nat.zero_le _⟩ dX6_add_48 ?_
  refine g_aload_n hC 0 rfl rfl dX6_add_51 ?_
  refine g_getR hC fF_X6_29 lkC_61_4 dX6_add_52 ?_
  refine g_aload_n hC 0 rfl rfl dX6_add_55 ?_
  refine g_getI hC fF_X6_40 lkC_61_7 dX6_add_56 ?_
  refine g_aload_n hC 0 rfl rfl dX6_add_59 ?_
  refine g_getI hC fF_X6_44 lkC_61_8 dX6_add_60 ?_
  obtain ⟨v13, M14, c15, h⟩ := gq_b_i h
  refine g_Vv (as := [.int (M11 61 7), .int (M11 61 8)]) hC (t_X8_put lkC_70_0 arC_71 N _ _ _ _ _ c15) mV_X8_put  wm_X6_47 obC_70 rfl rfl (Nat.le_of_ble_eq_true rfl) ⟨Nat.le_of_ble_eq_true rfl, Nat.le_of_ble_eq_true rfl⟩ ⟨Nat.zero_le _, Nat.zero_le _⟩ dX6_add_63 ?_
  refine g_aload_n hC 0 rfl rfl dX6_add_66 ?_
  refine g_dup hC rfl dX6_add_67 ?_
  refine g_getI hC fF_X6_44 lkC_61_8 dX6_add_68 ?_
  refine g_aload_n hC 0 rfl rfl dX6_add_71 ?_
  refine g_getR hC fF_X6_37 lkC_61_6 dX6_add_72 ?_
  refine g_iload_n hC 2 rfl rfl dX6_add_75 ?_
  refine g_aload_n hC 0 rfl rfl dX6_add_76 ?_
  refine g_getI hC fF_X6_40 lkC_61_7 dX6_add_77 ?_
  obtain ⟨v16, M17, c18, h⟩ := gq_b_i h
  refine g_Vi (as := [.int a2, .int (M14 61 7)]) hC (t_X8_swap lkC_74_0 arC_75 N _ _ _ _ _ c18) mV_X8_swap  wm_X6_50 obC_74 rfl rfl (Nat.le_of_ble_eq_true rfl) ⟨Nat.le_of_ble_eq_true rfl, Nat.le_of_ble_eq_true rfl⟩ ⟨Nat.zero_le _, Nat.zero_le _⟩ dX6_add_80 ?_
  refine g_iadd hC dX6_add_83 ?_
  refine g_putI hC fG_X6_44 lkC_61_8 dX6_add_84 ?_
  refine g_topM (fun M19 hM19 => ?_)
  replace h := gq_l_i hM19 h
  refine g_aload_n hC 0 rfl rfl dX6_add_87 ?_
  refine g_dup hC rfl dX6_add_88 ?_
  refine g_getI hC fF_X6_40 lkC_61_7 dX6_add_89 ?_
  refine g_iconst (v := 1) hC (by decide) dX6_add_92 ?_
  refine g_iadd hC dX6_add_93 ?_
  refine g_putI hC fG_X6_40 lkC_61_7 dX6_add_94 ?_
  refine g_topM (fun M20 hM20 => ?_)
  replace h := gq_l_i hM20 h
  exact g_vrets hC hr h dX6_add_97
def f_X6_addBox (N : Nat) (a1 : Int32) (a2 : Int32) (M : gq_M) : Option (Int32 × gq_M) :=
  gq_b (f_X8_at 75 108 N a1 M) fun v1 M2 => gq_b (f_X8_at 71 150 N v1 M2) fun v4 M5 => gq_b (f_X8_put 73 150 N v4 a2 M5) fun v7 M8 => gq_b (f_X8_add 71 150 N v1 1 M8) fun v10 M11 => some (v1, M11)
set_option maxHeartbeats 1000000 in
set_option maxRecDepth 20000 in
theorem t_X6_addBox {l : Launch} {D : va_G} {cI cZ : ClassId} {ad : Nat → Nat} (N : Nat) (a1 : Int32) (a2 : Int32) (M : gq_M) (v9 : Int32) (M9 : gq_M) (h : f_X6_addBox N a1 a2 M = some (v9, M9)) : gq_Ci l D cI cZ ad mtC yX6_addBox cX6_addBox 4 (some .int) 1 [.ref (ad 61), .int a1, .int a2] M v9 M9 := by
  refine gq_introI (own := RX6) (by decide) rfl (Nat.le_of_ble_eq_true rfl) ?_
  intro p e s m below meth c hC hr
  refine g_cast (L2 := [(0, .ref (ad 61)), (1, .int a1), (2, .int a2)]) ?_ rfl rfl rfl rfl
  unfold f_X6_addBox at h
  refine g_aload_n hC 0 rfl rfl dX6_addBox_0 ?_
  refine g_getR hC fF_X6_37 lkC_61_6 dX6_addBox_1 ?_
  refine g_iload_n hC 1 rfl rfl dX6_addBox_4 ?_
  obtain ⟨v1, M2, c3, h⟩ := gq_b_i h
  refine g_Vi (as := [.int a1]) hC (t_X8_at lkC_74_0 arC_75 N _ _ _ _ c3) mV_X8_at  wm_X6_54 obC_74 rfl rfl (Nat.le_of_ble_eq_true rfl) ⟨Nat.le_of_ble_eq_true rfl, Nat.le_of_ble_eq_true rfl⟩ ⟨Nat.zero_le _, Nat.zero_le _⟩ dX6_addBox_5 ?_
  refine g_istore_n (L2 := [(3, .int v1), (0, .ref (ad 61)), (1, .int a1), (2, .int a2)]) hC rfl (by decide) rfl dX6_addBox_8 ?_
  refine g_aload_n hC 1 rfl rfl dX6_addBox_9 ?_
  refine g_getR hC fF_X6_32 lkC_61_5 dX6_addBox_10 ?_
  refine g_aload_n hC 1 rfl rfl dX6_addBox_13 ?_
  refine g_getR hC fF_X6_29 lkC_61_4 dX6_addBox_14 ?_
  refine g_iload_n hC 0 rfl rfl dX6_addBox_17 ?_
  obtain ⟨v4, M5, c6, h⟩ := gq_b_i h
  refine g_Vi (as := [.int v1]) hC (t_X8_at lkC_70_0 arC_71 N _ _ _ _ c6) mV_X8_at  wm_X6_54 obC_70 rfl rfl (Nat.le_of_ble_eq_true rfl) ⟨Nat.le_of_ble_eq_true rfl, Nat.le_of_ble_eq_true rfl⟩ ⟨Nat.zero_le _, Nat.zero_le _⟩ dX6_addBox_18 ?_
  refine g_iload_n hC 3 rfl rfl dX6_addBox_21 ?_
  obtain ⟨v7, M8, c9, h⟩ := gq_b_i h
  refine g_Vv (as := [.int v4, .int a2]) hC (t_X8_put lkC_72_0 arC_73 N _ _ _ _ _ c9) mV_X8_put  wm_X6_47 obC_72 rfl rfl (Nat.le_of_ble_eq_true rfl) ⟨Nat.le_of_ble_eq_true rfl, Nat.le_of_ble_eq_true rfl⟩ ⟨Nat.zero_le _, Nat.zero_le _⟩ dX6_addBox_22 ?_
  refine g_aload_n hC 1 rfl rfl dX6_addBox_25 ?_
  refine g_getR hC fF_X6_29 lkC_61_4 dX6_addBox_26 ?_
  refine g_iload_n hC 0 rfl rfl dX6_addBox_29 ?_
  refine g_iconst (v := 1) hC (by decide) dX6_addBox_30 ?_
  obtain ⟨v10, M11, c12, h⟩ := gq_b_i h
  refine g_Vv (as := [.int v1, .int 1]) hC (t_X8_add lkC_70_0 arC_71 N _ _ _ _ _ c12) mV_X8_add  wm_X6_58 obC_70 rfl rfl (Nat.le_of_ble_eq_true rfl) ⟨Nat.le_of_ble_eq_true rfl, Nat.le_of_ble_eq_true rfl⟩ ⟨Nat.zero_le _, Nat.zero_le _⟩ dX6_addBox_31 ?_
  refine g_iload_n hC 0 rfl rfl dX6_addBox_34 ?_
  exact g_irets hC hr h dX6_addBox_35
def f_X6_left (N : Nat) (a1 : Int32) (M : gq_M) : Option (Int32 × gq_M) :=
  gq_b (f_X8_at 71 150 N a1 M) fun v1 M2 => gq_b (f_X8_at 69 150 N a1 M2) fun v4 M5 => some ((v1 - v4), M5)
set_option maxHeartbeats 1000000 in
set_option maxRecDepth 20000 in
theorem t_X6_left {l : Launch} {D : va_G} {cI cZ : ClassId} {ad : Nat → Nat} (N : Nat) (a1 : Int32) (M : gq_M) (v9 : Int32) (M9 : gq_M) (h : f_X6_left N a1 M = some (v9, M9)) : gq_Ci l D cI cZ ad mtC yX6_left cX6_left 2 (some .int) 1 [.ref (ad 61), .int a1] M v9 M9 := by
  refine gq_introI (own := RX6) (by decide) rfl (Nat.le_of_ble_eq_true rfl) ?_
  intro p e s m below meth c hC hr
  refine g_cast (L2 := [(0, .ref (ad 61)), (1, .int a1)]) ?_ rfl rfl rfl rfl
  unfold f_X6_left at h
  refine g_aload_n hC 0 rfl rfl dX6_left_0 ?_
  refine g_getR hC fF_X6_29 lkC_61_4 dX6_left_1 ?_
  refine g_iload_n hC 1 rfl rfl dX6_left_4 ?_
  obtain ⟨v1, M2, c3, h⟩ := gq_b_i h
  refine g_Vi (as := [.int a1]) hC (t_X8_at lkC_70_0 arC_71 N _ _ _ _ c3) mV_X8_at  wm_X6_54 obC_70 rfl rfl (Nat.le_of_ble_eq_true rfl) ⟨Nat.le_of_ble_eq_true rfl, Nat.le_of_ble_eq_true rfl⟩ ⟨Nat.zero_le _, Nat.zero_le _⟩ dX6_left_5 ?_
  refine g_aload_n hC 0 rfl rfl dX6_left_8 ?_
  refine g_getR hC fF_X6_26 lkC_61_3 dX6_left_9 ?_
  refine g_iload_n hC 1 rfl rfl dX6_left_12 ?_
  obtain ⟨v4, M5, c6, h⟩ := gq_b_i h
  refine g_Vi (as := [.int a1]) hC (t_X8_at lkC_68_0 arC_69 N _ _ _ _ c6) mV_X8_at  wm_X6_54 obC_68 rfl rfl (Nat.le_of_ble_eq_true rfl) ⟨Nat.le_of_ble_eq_true rfl, Nat.le_of_ble_eq_true rfl⟩ ⟨Nat.zero_le _, Nat.zero_le _⟩ dX6_left_13 ?_
  refine g_isub hC dX6_left_16 ?_
  exact g_irets hC hr h dX6_left_17
def f_X6_boxAt (N : Nat) (a1 : Int32) (a2 : Int32) (M : gq_M) : Option (Int32 × gq_M) :=
  gq_b (f_X8_at 69 150 N a1 M) fun v1 M2 => gq_b (f_X8_at 73 150 N (v1 + a2) M2) fun v4 M5 => some (v4, M5)
set_option maxHeartbeats 1000000 in
set_option maxRecDepth 20000 in
theorem t_X6_boxAt {l : Launch} {D : va_G} {cI cZ : ClassId} {ad : Nat → Nat} (N : Nat) (a1 : Int32) (a2 : Int32) (M : gq_M) (v9 : Int32) (M9 : gq_M) (h : f_X6_boxAt N a1 a2 M = some (v9, M9)) : gq_Ci l D cI cZ ad mtC yX6_boxAt cX6_boxAt 3 (some .int) 1 [.ref (ad 61), .int a1, .int a2] M v9 M9 := by
  refine gq_introI (own := RX6) (by decide) rfl (Nat.le_of_ble_eq_true rfl) ?_
  intro p e s m below meth c hC hr
  refine g_cast (L2 := [(0, .ref (ad 61)), (1, .int a1), (2, .int a2)]) ?_ rfl rfl rfl rfl
  unfold f_X6_boxAt at h
  refine g_aload_n hC 0 rfl rfl dX6_boxAt_0 ?_
  refine g_getR hC fF_X6_32 lkC_61_5 dX6_boxAt_1 ?_
  refine g_aload_n hC 0 rfl rfl dX6_boxAt_4 ?_
  refine g_getR hC fF_X6_26 lkC_61_3 dX6_boxAt_5 ?_
  refine g_iload_n hC 1 rfl rfl dX6_boxAt_8 ?_
  obtain ⟨v1, M2, c3, h⟩ := gq_b_i h
  refine g_Vi (as := [.int a1]) hC (t_X8_at lkC_68_0 arC_69 N _ _ _ _ c3) mV_X8_at  wm_X6_54 obC_68 rfl rfl (Nat.le_of_ble_eq_true rfl) ⟨Nat.le_of_ble_eq_true rfl, Nat.le_of_ble_eq_true rfl⟩ ⟨Nat.zero_le _, Nat.zero_le _⟩ dX6_boxAt_9 ?_
  refine g_iload_n hC 2 rfl rfl dX6_boxAt_12 ?_
  refine g_iadd hC dX6_boxAt_13 ?_
  obtain ⟨v4, M5, c6, h⟩ := gq_b_i h
  refine g_Vi (as := [.int (v1 + a2)]) hC (t_X8_at lkC_72_0 arC_73 N _ _ _ _ c6) mV_X8_at  wm_X6_54 obC_72 rfl rfl (Nat.le_of_ble_eq_true rfl) ⟨Nat.le_of_ble_eq_true rfl, Nat.le_of_ble_eq_true rfl⟩ ⟨Nat.zero_le _, Nat.zero_le _⟩ dX6_boxAt_14 ?_
  exact g_irets hC hr h dX6_boxAt_17
def f_X6_countIn_27 (N : Nat) (kh4 : Int32 → Int32 → Int32 → gq_M → Option (Int32 × gq_M)) (x1 : Int32) (x2 : Int32) (x3 : Int32) (M : gq_M) : Option (Int32 × gq_M) :=
  kh4 x1 x2 (x3 + 1) M
set_option maxHeartbeats 1000000 in
set_option maxRecDepth 20000 in
theorem t_X6_countIn_27 {N : Nat} {kh4 : Int32 → Int32 → Int32 → gq_M → Option (Int32 × gq_M)} {v9 : Int32} {M9 : gq_M} (hC : gq_C p s m args meth c D A cI cZ ad mtC RX6 cX6_countIn 4) (hr : meth.sig.returnType = (some .int)) (hk4 : ∀ (x1 : Int32) (x2 : Int32) (x3 : Int32) (M : gq_M), kh4 x1 x2 x3 M = some (v9, M9) → gq_W p l e (gq_rm 1) s m args below meth c D A cI cZ ad mtC 4 (MQ below (gq_Qi D cI cZ ad mtC v9 M9 A) args s 0 0 A) 4 [(0, .ref (ad 61)), (1, .int x1), (2, .int x2), (3, .int x3)] [] M 0 0)  : ∀ (x1 : Int32) (x2 : Int32) (x3 : Int32) (M : gq_M), f_X6_countIn_27 N kh4 x1 x2 x3 M = some (v9, M9) → gq_W p l e (gq_rm 1) s m args below meth c D A cI cZ ad mtC 4 (MQ below (gq_Qi D cI cZ ad mtC v9 M9 A) args s 0 0 A) 27 [(0, .ref (ad 61)), (1, .int x1), (2, .int x2), (3, .int x3)] [] M 0 0 := by
  intro x1 x2 x3 M h
  unfold f_X6_countIn_27 at h
  refine g_iinc (v := (x3 + 1)) (L2 := [(3, .int (x3 + 1)), (0, .ref (ad 61)), (1, .int x1), (2, .int x2)]) hC 3 rfl (by first | rfl | decide) (by decide) rfl dX6_countIn_27 ?_
  refine g_goto (tgt := 4) hC (by decide) dX6_countIn_30 ?_
  exact g_weak [1, 2, 3, 0] rfl (hk4 x1 x2 (x3 + 1) M h)
def f_X6_countIn_4_b (N : Nat) (kh4 : Int32 → Int32 → Int32 → gq_M → Option (Int32 × gq_M)) (x1 : Int32) (x2 : Int32) (x3 : Int32) (M : gq_M) : Option (Int32 × gq_M) :=
  if (M 61 7) ≤ x3 then (some (x2, M)) else (gq_b (f_X8_at 67 150 N x3 M) fun v2 M3 => if v2 = x1 then (f_X6_countIn_27 N kh4 x1 (x2 + 1) x3 M3) else (f_X6_countIn_27 N kh4 x1 x2 x3 M3))
def f_X6_countIn_4 (N : Nat) : Nat → Int32 → Int32 → Int32 → gq_M → Option (Int32 × gq_M)
  | 0 => fun _ _ _ _ => none
  | n9 + 1 => f_X6_countIn_4_b N  (f_X6_countIn_4 N  n9)
set_option maxHeartbeats 1000000 in
set_option maxRecDepth 20000 in
theorem t_X6_countIn_4_b {N : Nat} {kh4 : Int32 → Int32 → Int32 → gq_M → Option (Int32 × gq_M)} {v9 : Int32} {M9 : gq_M} (hC : gq_C p s m args meth c D A cI cZ ad mtC RX6 cX6_countIn 4) (hr : meth.sig.returnType = (some .int))  (hk4 : ∀ (x1 : Int32) (x2 : Int32) (x3 : Int32) (M : gq_M), kh4 x1 x2 x3 M = some (v9, M9) → gq_W p l e (gq_rm 1) s m args below meth c D A cI cZ ad mtC 4 (MQ below (gq_Qi D cI cZ ad mtC v9 M9 A) args s 0 0 A) 4 [(0, .ref (ad 61)), (1, .int x1), (2, .int x2), (3, .int x3)] [] M 0 0) : ∀ (x1 : Int32) (x2 : Int32) (x3 : Int32) (M : gq_M), f_X6_countIn_4_b N  kh4 x1 x2 x3 M = some (v9, M9) → gq_W p l e (gq_rm 1) s m args below meth c D A cI cZ ad mtC 4 (MQ below (gq_Qi D cI cZ ad mtC v9 M9 A) args s 0 0 A) 4 [(0, .ref (ad 61)), (1, .int x1), (2, .int x2), (3, .int x3)] [] M 0 0 := by
  intro x1 x2 x3 M h
  unfold f_X6_countIn_4_b at h
  refine g_iload_n hC 3 rfl rfl dX6_countIn_4 ?_
  refine g_aload_n hC 0 rfl rfl dX6_countIn_5 ?_
  refine g_getI hC fF_X6_40 lkC_61_7 dX6_countIn_6 ?_
  refine g_icmp_ge (tgt := 33) hC (by decide) dX6_countIn_9 (fun c1 => ?_) (fun c1 => ?_)
  · replace h := gq_t c1 h
    refine g_iload_n hC 2 rfl rfl dX6_countIn_33 ?_
    exact g_irets hC hr h dX6_countIn_34
  · replace h := gq_f c1 h
    refine g_aload_n hC 0 rfl rfl dX6_countIn_12 ?_
    refine g_getR hC fF_X6_23 lkC_61_2 dX6_countIn_13 ?_
    refine g_iload_n hC 3 rfl rfl dX6_countIn_16 ?_
    obtain ⟨v2, M3, c4, h⟩ := gq_b_i h
    refine g_Vi (as := [.int x3]) hC (t_X8_at lkC_66_0 arC_67 N _ _ _ _ c4) mV_X8_at  wm_X6_54 obC_66 rfl rfl (Nat.le_of_ble_eq_true rfl) ⟨Nat.le_of_ble_eq_true rfl, Nat.le_of_ble_eq_true rfl⟩ ⟨Nat.zero_le _, Nat.zero_le _⟩ dX6_countIn_17 ?_
    refine g_iload_n hC 1 rfl rfl dX6_countIn_20 ?_
    refine g_icmp_ne (tgt := 27) hC (by decide) dX6_countIn_21 (fun c5 => ?_) (fun c5 => ?_)
    · replace h := gq_f c5 h
      exact g_weak [0, 1, 2, 3] rfl (t_X6_countIn_27 hC hr hk4 x1 x2 x3 M3 h)
    · replace h := gq_t c5 h
      refine g_iinc (v := (x2 + 1)) (L2 := [(2, .int (x2 + 1)), (0, .ref (ad 61)), (1, .int x1), (3, .int x3)]) hC 2 rfl (by first | rfl | decide) (by decide) rfl dX6_countIn_24 ?_
      exact g_weak [1, 2, 0, 3] rfl (t_X6_countIn_27 hC hr hk4 x1 (x2 + 1) x3 M3 h)
theorem t_X6_countIn_4 {N : Nat} {v9 : Int32} {M9 : gq_M} (hC : gq_C p s m args meth c D A cI cZ ad mtC RX6 cX6_countIn 4) (hr : meth.sig.returnType = (some .int))  : ∀ (n9 : Nat) (x1 : Int32) (x2 : Int32) (x3 : Int32) (M : gq_M), f_X6_countIn_4 N  n9 x1 x2 x3 M = some (v9, M9) → gq_W p l e (gq_rm 1) s m args below meth c D A cI cZ ad mtC 4 (MQ below (gq_Qi D cI cZ ad mtC v9 M9 A) args s 0 0 A) 4 [(0, .ref (ad 61)), (1, .int x1), (2, .int x2), (3, .int x3)] [] M 0 0 := by
  intro n9
  induction n9 with
  | zero => intro x1 x2 x3 M h; cases h
  | succ n9 ih => intro x1 x2 x3 M h; exact t_X6_countIn_4_b hC hr  ih x1 x2 x3 M h
def f_X6_countIn (N : Nat) (a1 : Int32) (M : gq_M) : Option (Int32 × gq_M) :=
  f_X6_countIn_4 N  N a1 0 0 M
set_option maxHeartbeats 1000000 in
set_option maxRecDepth 20000 in
theorem t_X6_countIn {l : Launch} {D : va_G} {cI cZ : ClassId} {ad : Nat → Nat} (N : Nat) (a1 : Int32) (M : gq_M) (v9 : Int32) (M9 : gq_M) (h : f_X6_countIn N a1 M = some (v9, M9)) : gq_Ci l D cI cZ ad mtC yX6_countIn cX6_countIn 4 (some .int) 1 [.ref (ad 61), .int a1] M v9 M9 := by
  refine gq_introI (own := RX6) (by decide) rfl (Nat.le_of_ble_eq_true rfl) ?_
  intro p e s m below meth c hC hr
  refine g_cast (L2 := [(0, .ref (ad 61)), (1, .int a1)]) ?_ rfl rfl rfl rfl
  unfold f_X6_countIn at h
  refine g_iconst (v := 0) hC (by decide) dX6_countIn_0 ?_
  refine g_istore_n (L2 := [(2, .int 0), (0, .ref (ad 61)), (1, .int a1)]) hC rfl (by decide) rfl dX6_countIn_1 ?_
  refine g_iconst (v := 0) hC (by decide) dX6_countIn_2 ?_
  refine g_istore_n (L2 := [(3, .int 0), (2, .int 0), (0, .ref (ad 61)), (1, .int a1)]) hC rfl (by decide) rfl dX6_countIn_3 ?_
  exact g_weak [2, 3, 1, 0] rfl (t_X6_countIn_4 hC hr  N a1 0 0 M h)
def f_X6_nextIn_4_b (N : Nat) (kh4 : Int32 → Int32 → gq_M → Option (Int32 × gq_M)) (x1 : Int32) (x3 : Int32) (M : gq_M) : Option (Int32 × gq_M) :=
  if (M 61 7) ≤ x3 then (some ((-1), M)) else (gq_b (f_X8_at 67 150 N x3 M) fun v2 M3 => if v2 = x1 then (some (x3, M3)) else (kh4 x1 (x3 + 1) M3))
def f_X6_nextIn_4 (N : Nat) : Nat → Int32 → Int32 → gq_M → Option (Int32 × gq_M)
  | 0 => fun _ _ _ => none
  | n9 + 1 => f_X6_nextIn_4_b N  (f_X6_nextIn_4 N  n9)
set_option maxHeartbeats 1000000 in
set_option maxRecDepth 20000 in
theorem t_X6_nextIn_4_b {N : Nat} {kh4 : Int32 → Int32 → gq_M → Option (Int32 × gq_M)} {v9 : Int32} {M9 : gq_M} (hC : gq_C p s m args meth c D A cI cZ ad mtC RX6 cX6_nextIn 4) (hr : meth.sig.returnType = (some .int))  (hk4 : ∀ (x1 : Int32) (x3 : Int32) (M : gq_M), kh4 x1 x3 M = some (v9, M9) → gq_W p l e (gq_rm 1) s m args below meth c D A cI cZ ad mtC 4 (MQ below (gq_Qi D cI cZ ad mtC v9 M9 A) args s 0 0 A) 4 [(0, .ref (ad 61)), (1, .int x1), (3, .int x3)] [] M 0 0) : ∀ (x1 : Int32) (x3 : Int32) (M : gq_M), f_X6_nextIn_4_b N  kh4 x1 x3 M = some (v9, M9) → gq_W p l e (gq_rm 1) s m args below meth c D A cI cZ ad mtC 4 (MQ below (gq_Qi D cI cZ ad mtC v9 M9 A) args s 0 0 A) 4 [(0, .ref (ad 61)), (1, .int x1), (3, .int x3)] [] M 0 0 := by
  intro x1 x3 M h
  unfold f_X6_nextIn_4_b at h
  refine g_iload_n hC 2 rfl rfl dX6_nextIn_4 ?_
  refine g_aload_n hC 0 rfl rfl dX6_nextIn_5 ?_
  refine g_getI hC fF_X6_40 lkC_61_7 dX6_nextIn_6 ?_
  refine g_icmp_ge (tgt := 32) hC (by decide) dX6_nextIn_9 (fun c1 => ?_) (fun c1 => ?_)
  · replace h := gq_t c1 h
    refine g_iconst (v := (-1)) hC (by decide) dX6_nextIn_32 ?_
    exact g_irets hC hr h dX6_nextIn_33
  · replace h := gq_f c1 h
    refine g_aload_n hC 0 rfl rfl dX6_nextIn_12 ?_
    refine g_getR hC fF_X6_23 lkC_61_2 dX6_nextIn_13 ?_
    refine g_iload_n hC 2 rfl rfl dX6_nextIn_16 ?_
    obtain ⟨v2, M3, c4, h⟩ := gq_b_i h
    refine g_Vi (as := [.int x3]) hC (t_X8_at lkC_66_0 arC_67 N _ _ _ _ c4) mV_X8_at  wm_X6_54 obC_66 rfl rfl (Nat.le_of_ble_eq_true rfl) ⟨Nat.le_of_ble_eq_true rfl, Nat.le_of_ble_eq_true rfl⟩ ⟨Nat.zero_le _, Nat.zero_le _⟩ dX6_nextIn_17 ?_
    refine g_iload_n hC 1 rfl rfl dX6_nextIn_20 ?_
    refine g_icmp_ne (tgt := 26) hC (by decide) dX6_nextIn_21 (fun c5 => ?_) (fun c5 => ?_)
    · replace h := gq_f c5 h
      refine g_iinc (v := (x3 + 1)) (L2 := [(3, .int (x3 + 1)), (0, .ref (ad 61)), (1, .int x1)]) hC 2 rfl (by first | rfl | decide) (by decide) rfl dX6_nextIn_26 ?_
      refine g_goto (tgt := 4) hC (by decide) dX6_nextIn_29 ?_
      exact g_weak [1, 2, 0] rfl (hk4 x1 (x3 + 1) M3 h)
    · replace h := gq_t c5 h
      refine g_iload_n hC 2 rfl rfl dX6_nextIn_24 ?_
      exact g_irets hC hr h dX6_nextIn_25
theorem t_X6_nextIn_4 {N : Nat} {v9 : Int32} {M9 : gq_M} (hC : gq_C p s m args meth c D A cI cZ ad mtC RX6 cX6_nextIn 4) (hr : meth.sig.returnType = (some .int))  : ∀ (n9 : Nat) (x1 : Int32) (x3 : Int32) (M : gq_M), f_X6_nextIn_4 N  n9 x1 x3 M = some (v9, M9) → gq_W p l e (gq_rm 1) s m args below meth c D A cI cZ ad mtC 4 (MQ below (gq_Qi D cI cZ ad mtC v9 M9 A) args s 0 0 A) 4 [(0, .ref (ad 61)), (1, .int x1), (3, .int x3)] [] M 0 0 := by
  intro n9
  induction n9 with
  | zero => intro x1 x3 M h; cases h
  | succ n9 ih => intro x1 x3 M h; exact t_X6_nextIn_4_b hC hr  ih x1 x3 M h
def f_X6_nextIn (N : Nat) (a1 : Int32) (a2 : Int32) (M : gq_M) : Option (Int32 × gq_M) :=
  f_X6_nextIn_4 N  N a1 (a2 + 1) M
set_option maxHeartbeats 1000000 in
set_option maxRecDepth 20000 in
theorem t_X6_nextIn {l : Launch} {D : va_G} {cI cZ : ClassId} {ad : Nat → Nat} (N : Nat) (a1 : Int32) (a2 : Int32) (M : gq_M) (v9 : Int32) (M9 : gq_M) (h : f_X6_nextIn N a1 a2 M = some (v9, M9)) : gq_Ci l D cI cZ ad mtC yX6_nextIn cX6_nextIn 4 (some .int) 1 [.ref (ad 61), .int a1, .int a2] M v9 M9 := by
  refine gq_introI (own := RX6) (by decide) rfl (Nat.le_of_ble_eq_true rfl) ?_
  intro p e s m below meth c hC hr
  refine g_cast (L2 := [(0, .ref (ad 61)), (1, .int a1), (2, .int a2)]) ?_ rfl rfl rfl rfl
  unfold f_X6_nextIn at h
  refine g_iload_n hC 2 rfl rfl dX6_nextIn_0 ?_
  refine g_iconst (v := 1) hC (by decide) dX6_nextIn_1 ?_
  refine g_iadd hC dX6_nextIn_2 ?_
  refine g_istore_n (L2 := [(3, .int (a2 + 1)), (0, .ref (ad 61)), (1, .int a1), (2, .int a2)]) hC rfl (by decide) rfl dX6_nextIn_3 ?_
  exact g_weak [1, 2, 0] rfl (t_X6_nextIn_4 hC hr  N a1 (a2 + 1) M h)
def f_X7_placeOf (N : Nat) (a0 : Int32) (a1 : Int32) (M : gq_M) : Option (Int32 × gq_M) :=
  some (((a0 * 8) + a1), M)
set_option maxHeartbeats 1000000 in
set_option maxRecDepth 20000 in
theorem t_X7_placeOf {l : Launch} {D : va_G} {cI cZ : ClassId} {ad : Nat → Nat} (N : Nat) (a0 : Int32) (a1 : Int32) (M : gq_M) (v9 : Int32) (M9 : gq_M) (h : f_X7_placeOf N a0 a1 M = some (v9, M9)) : gq_Ci l D cI cZ ad mtC yX7_placeOf cX7_placeOf 2 (some .int) 0 [.int a0, .int a1] M v9 M9 := by
  refine gq_introI (own := RX7) (by decide) rfl (Nat.le_of_ble_eq_true rfl) ?_
  intro p e s m below meth c hC hr
  refine g_cast (L2 := [(0, .int a0), (1, .int a1)]) ?_ rfl rfl rfl rfl
  unfold f_X7_placeOf at h
  refine g_iload_n hC 0 rfl rfl dX7_placeOf_0 ?_
  refine g_bipush (v := 8) hC (by decide) dX7_placeOf_1 ?_
  refine g_imul hC dX7_placeOf_3 ?_
  refine g_iload_n hC 1 rfl rfl dX7_placeOf_4 ?_
  refine g_iadd hC dX7_placeOf_5 ?_
  exact g_irets hC hr h dX7_placeOf_6
def f_X7_make (N : Nat) (a1 : Int32) (a2 : Int32) (a3 : Int32) (a4 : Int32) (a5 : Int32) (M : gq_M) : Option (Int32 × gq_M) :=
  gq_b (f_X7_placeOf N a1 a2 M) fun v1 M2 => gq_b (f_X8_put 95 24 N v1 a3 M2) fun v4 M5 => gq_b (f_X8_put 97 24 N v1 a4 M5) fun v7 M8 => gq_b (f_X8_put 99 24 N v1 a5 M8) fun v10 M11 => some (0, M11)
set_option maxHeartbeats 1000000 in
set_option maxRecDepth 20000 in
theorem t_X7_make {l : Launch} {D : va_G} {cI cZ : ClassId} {ad : Nat → Nat} (N : Nat) (a1 : Int32) (a2 : Int32) (a3 : Int32) (a4 : Int32) (a5 : Int32) (M : gq_M) (v9 : Int32) (M9 : gq_M) (h : f_X7_make N a1 a2 a3 a4 a5 M = some (v9, M9)) : gq_Cv l D cI cZ ad mtC yX7_make cX7_make 7 1 [.ref (ad 93), .int a1, .int a2, .int a3, .int a4, .int a5] M M9 := by
  refine gq_introV (own := RX7) (by decide) rfl (Nat.le_of_ble_eq_true rfl) ?_
  intro p e s m below meth c hC hr
  refine g_cast (L2 := [(0, .ref (ad 93)), (1, .int a1), (2, .int a2), (3, .int a3), (4, .int a4), (5, .int a5)]) ?_ rfl rfl rfl rfl
  unfold f_X7_make at h
  refine g_iload_n hC 1 rfl rfl dX7_make_0 ?_
  refine g_iload_n hC 2 rfl rfl dX7_make_1 ?_
  obtain ⟨v1, M2, c3, h⟩ := gq_b_i h
  refine g_Si (as := [.int a1, .int a2]) hC (t_X7_placeOf N _ _ _ _ _ c3) mS_X7_placeOf wm_X7_26 rfl rfl (Nat.le_of_ble_eq_true rfl) ⟨Nat.le_of_ble_eq_true rfl, Nat.le_of_ble_eq_true rfl⟩ ⟨Nat.zero_le _, Nat.zero_le _⟩ dX7_make_2 ?_
  refine g_istore (L2 := [(6, .int v1), (0, .ref (ad 93)), (1, .int a1), (2, .int a2), (3, .int a3), (4, .int a4), (5, .int a5)]) hC (by decide) rfl dX7_make_5 ?_
  refine g_aload_n hC 1 rfl rfl dX7_make_7 ?_
  refine g_getR hC fF_X7_14 lkC_93_0 dX7_make_8 ?_
  refine g_iload hC 0 rfl dX7_make_11 ?_
  refine g_iload_n hC 4 rfl rfl dX7_make_13 ?_
  obtain ⟨v4, M5, c6, h⟩ := gq_b_i h
  refine g_Vv (as := [.int v1, .int a3]) hC (t_X8_put lkC_94_0 arC_95 N _ _ _ _ _ c6) mV_X8_put  wm_X7_30 obC_94 rfl rfl (Nat.le_of_ble_eq_true rfl) ⟨Nat.le_of_ble_eq_true rfl, Nat.le_of_ble_eq_true rfl⟩ ⟨Nat.zero_le _, Nat.zero_le _⟩ dX7_make_14 ?_
  refine g_aload_n hC 1 rfl rfl dX7_make_17 ?_
  refine g_getR hC fF_X7_20 lkC_93_1 dX7_make_18 ?_
  refine g_iload hC 0 rfl dX7_make_21 ?_
  refine g_iload hC 5 rfl dX7_make_23 ?_
  obtain ⟨v7, M8, c9, h⟩ := gq_b_i h
  refine g_Vv (as := [.int v1, .int a4]) hC (t_X8_put lkC_96_0 arC_97 N _ _ _ _ _ c9) mV_X8_put  wm_X7_30 obC_96 rfl rfl (Nat.le_of_ble_eq_true rfl) ⟨Nat.le_of_ble_eq_true rfl, Nat.le_of_ble_eq_true rfl⟩ ⟨Nat.zero_le _, Nat.zero_le _⟩ dX7_make_25 ?_
  refine g_aload_n hC 1 rfl rfl dX7_make_28 ?_
  refine g_getR hC fF_X7_23 lkC_93_2 dX7_make_29 ?_
  refine g_iload hC 0 rfl dX7_make_32 ?_
  refine g_iload hC 6 rfl dX7_make_34 ?_
  obtain ⟨v10, M11, c12, h⟩ := gq_b_i h
  refine g_Vv (as := [.int v1, .int a5]) hC (t_X8_put lkC_98_0 arC_99 N _ _ _ _ _ c12) mV_X8_put  wm_X7_30 obC_98 rfl rfl (Nat.le_of_ble_eq_true rfl) ⟨Nat.le_of_ble_eq_true rfl, Nat.le_of_ble_eq_true rfl⟩ ⟨Nat.zero_le _, Nat.zero_le _⟩ dX7_make_36 ?_
  exact g_vrets hC hr h dX7_make_39
def f_X7_forget_2_b (N : Nat) (kh2 : Int32 → Int32 → gq_M → Option (Int32 × gq_M)) (x1 : Int32) (x2 : Int32) (M : gq_M) : Option (Int32 × gq_M) :=
  if 8 ≤ x2 then (some (0, M)) else (gq_b (f_X7_placeOf N x1 x2 M) fun v2 M3 => gq_b (f_X8_put 99 24 N v2 (-1) M3) fun v5 M6 => kh2 x1 (x2 + 1) M6)
def f_X7_forget_2 (N : Nat) : Nat → Int32 → Int32 → gq_M → Option (Int32 × gq_M)
  | 0 => fun _ _ _ => none
  | n9 + 1 => f_X7_forget_2_b N  (f_X7_forget_2 N  n9)
set_option maxHeartbeats 1000000 in
set_option maxRecDepth 20000 in
theorem t_X7_forget_2_b {N : Nat} {kh2 : Int32 → Int32 → gq_M → Option (Int32 × gq_M)} {v9 : Int32} {M9 : gq_M} (hC : gq_C p s m args meth c D A cI cZ ad mtC RX7 cX7_forget 3) (hr : meth.sig.returnType = none)  (hk2 : ∀ (x1 : Int32) (x2 : Int32) (M : gq_M), kh2 x1 x2 M = some (v9, M9) → gq_W p l e (gq_rm 1) s m args below meth c D A cI cZ ad mtC 3 (MQ below (gq_Qv D cI cZ ad mtC M9 A) args s 0 0 A) 2 [(0, .ref (ad 93)), (1, .int x1), (2, .int x2)] [] M 0 0) : ∀ (x1 : Int32) (x2 : Int32) (M : gq_M), f_X7_forget_2_b N  kh2 x1 x2 M = some (v9, M9) → gq_W p l e (gq_rm 1) s m args below meth c D A cI cZ ad mtC 3 (MQ below (gq_Qv D cI cZ ad mtC M9 A) args s 0 0 A) 2 [(0, .ref (ad 93)), (1, .int x1), (2, .int x2)] [] M 0 0 := by
  intro x1 x2 M h
  unfold f_X7_forget_2_b at h
  refine g_iload_n hC 2 rfl rfl dX7_forget_2 ?_
  refine g_bipush (v := 8) hC (by decide) dX7_forget_3 ?_
  refine g_icmp_ge (tgt := 27) hC (by decide) dX7_forget_5 (fun c1 => ?_) (fun c1 => ?_)
  · replace h := gq_t c1 h
    exact g_vrets hC hr h dX7_forget_27
  · replace h := gq_f c1 h
    refine g_aload_n hC 0 rfl rfl dX7_forget_8 ?_
    refine g_getR hC fF_X7_23 lkC_93_2 dX7_forget_9 ?_
    refine g_iload_n hC 1 rfl rfl dX7_forget_12 ?_
    refine g_iload_n hC 2 rfl rfl dX7_forget_13 ?_
    obtain ⟨v2, M3, c4, h⟩ := gq_b_i h
    refine g_Si (as := [.int x1, .int x2]) hC (t_X7_placeOf N _ _ _ _ _ c4) mS_X7_placeOf wm_X7_26 rfl rfl (Nat.le_of_ble_eq_true rfl) ⟨Nat.le_of_ble_eq_true rfl, Nat.le_of_ble_eq_true rfl⟩ ⟨Nat.zero_le _, Nat.zero_le _⟩ dX7_forget_14 ?_
    refine g_iconst (v := (-1)) hC (by decide) dX7_forget_17 ?_
    obtain ⟨v5, M6, c7, h⟩ := gq_b_i h
    refine g_Vv (as := [.int v2, .int (-1)]) hC (t_X8_put lkC_98_0 arC_99 N _ _ _ _ _ c7) mV_X8_put  wm_X7_30 obC_98 rfl rfl (Nat.le_of_ble_eq_true rfl) ⟨Nat.le_of_ble_eq_true rfl, Nat.le_of_ble_eq_true rfl⟩ ⟨Nat.zero_le _, Nat.zero_le _⟩ dX7_forget_18 ?_
    refine g_iinc (v := (x2 + 1)) (L2 := [(2, .int (x2 + 1)), (0, .ref (ad 93)), (1, .int x1)]) hC 2 rfl (by first | rfl | decide) (by decide) rfl dX7_forget_21 ?_
    refine g_goto (tgt := 2) hC (by decide) dX7_forget_24 ?_
    exact g_weak [1, 2, 0] rfl (hk2 x1 (x2 + 1) M6 h)
theorem t_X7_forget_2 {N : Nat} {v9 : Int32} {M9 : gq_M} (hC : gq_C p s m args meth c D A cI cZ ad mtC RX7 cX7_forget 3) (hr : meth.sig.returnType = none)  : ∀ (n9 : Nat) (x1 : Int32) (x2 : Int32) (M : gq_M), f_X7_forget_2 N  n9 x1 x2 M = some (v9, M9) → gq_W p l e (gq_rm 1) s m args below meth c D A cI cZ ad mtC 3 (MQ below (gq_Qv D cI cZ ad mtC M9 A) args s 0 0 A) 2 [(0, .ref (ad 93)), (1, .int x1), (2, .int x2)] [] M 0 0 := by
  intro n9
  induction n9 with
  | zero => intro x1 x2 M h; cases h
  | succ n9 ih => intro x1 x2 M h; exact t_X7_forget_2_b hC hr  ih x1 x2 M h
def f_X7_forget (N : Nat) (a1 : Int32) (M : gq_M) : Option (Int32 × gq_M) :=
  f_X7_forget_2 N  N a1 0 M
set_option maxHeartbeats 1000000 in
set_option maxRecDepth 20000 in
theorem t_X7_forget {l : Launch} {D : va_G} {cI cZ : ClassId} {ad : Nat → Nat} (N : Nat) (a1 : Int32) (M : gq_M) (v9 : Int32) (M9 : gq_M) (h : f_X7_forget N a1 M = some (v9, M9)) : gq_Cv l D cI cZ ad mtC yX7_forget cX7_forget 3 1 [.ref (ad 93), .int a1] M M9 := by
  refine gq_introV (own := RX7) (by decide) rfl (Nat.le_of_ble_eq_true rfl) ?_
  intro p e s m below meth c hC hr
  refine g_cast (L2 := [(0, .ref (ad 93)), (1, .int a1)]) ?_ rfl rfl rfl rfl
  unfold f_X7_forget at h
  refine g_iconst (v := 0) hC (by decide) dX7_forget_0 ?_
  refine g_istore_n (L2 := [(2, .int 0), (0, .ref (ad 93)), (1, .int a1)]) hC rfl (by decide) rfl dX7_forget_1 ?_
  exact g_weak [1, 2, 0] rfl (t_X7_forget_2 hC hr  N a1 0 M h)
def f_X7_isMade_21 (N : Nat) (s0 : Int32) (M : gq_M) : Option (Int32 × gq_M) :=
  gq_g (gq_bb s0) (some (s0, M))
set_option maxHeartbeats 1000000 in
set_option maxRecDepth 20000 in
theorem t_X7_isMade_21 {N : Nat} {v9 : Int32} {M9 : gq_M} (hC : gq_C p s m args meth c D A cI cZ ad mtC RX7 cX7_isMade 3) (hr : meth.sig.returnType = (some .boolean))   : ∀ (s0 : Int32) (M : gq_M), f_X7_isMade_21 N  s0 M = some (v9, M9) → gq_W p l e (gq_rm 1) s m args below meth c D A cI cZ ad mtC 3 (MQ below (gq_Qi D cI cZ ad mtC v9 M9 A) args s 0 0 A) 21 [] [.int s0] M 0 0 := by
  intro s0 M h
  unfold f_X7_isMade_21 at h
  obtain ⟨g8, h⟩ := gq_g_i h
  exact g_zrets hC hr (gq_bb_i g8) h dX7_isMade_21
def f_X7_isMade (N : Nat) (a1 : Int32) (a2 : Int32) (M : gq_M) : Option (Int32 × gq_M) :=
  gq_b (f_X7_placeOf N a1 a2 M) fun v1 M2 => gq_b (f_X8_at 99 24 N v1 M2) fun v4 M5 => if v4 = (-1) then (f_X7_isMade_21 N  0 M5) else (f_X7_isMade_21 N  1 M5)
set_option maxHeartbeats 1000000 in
set_option maxRecDepth 20000 in
theorem t_X7_isMade {l : Launch} {D : va_G} {cI cZ : ClassId} {ad : Nat → Nat} (N : Nat) (a1 : Int32) (a2 : Int32) (M : gq_M) (v9 : Int32) (M9 : gq_M) (h : f_X7_isMade N a1 a2 M = some (v9, M9)) : gq_Ci l D cI cZ ad mtC yX7_isMade cX7_isMade 3 (some .boolean) 1 [.ref (ad 93), .int a1, .int a2] M v9 M9 := by
  refine gq_introI (own := RX7) (by decide) rfl (Nat.le_of_ble_eq_true rfl) ?_
  intro p e s m below meth c hC hr
  refine g_cast (L2 := [(0, .ref (ad 93)), (1, .int a1), (2, .int a2)]) ?_ rfl rfl rfl rfl
  unfold f_X7_isMade at h
  refine g_aload_n hC 0 rfl rfl dX7_isMade_0 ?_
  refine g_getR hC fF_X7_23 lkC_93_2 dX7_isMade_1 ?_
  refine g_iload_n hC 1 rfl rfl dX7_isMade_4 ?_
  refine g_iload_n hC 2 rfl rfl dX7_isMade_5 ?_
  obtain ⟨v1, M2, c3, h⟩ := gq_b_i h
  refine g_Si (as := [.int a1, .int a2]) hC (t_X7_placeOf N _ _ _ _ _ c3) mS_X7_placeOf wm_X7_26 rfl rfl (Nat.le_of_ble_eq_true rfl) ⟨Nat.le_of_ble_eq_true rfl, Nat.le_of_ble_eq_true rfl⟩ ⟨Nat.zero_le _, Nat.zero_le _⟩ dX7_isMade_6 ?_
  obtain ⟨v4, M5, c6, h⟩ := gq_b_i h
  refine g_Vi (as := [.int v1]) hC (t_X8_at lkC_98_0 arC_99 N _ _ _ _ c6) mV_X8_at  wm_X7_33 obC_98 rfl rfl (Nat.le_of_ble_eq_true rfl) ⟨Nat.le_of_ble_eq_true rfl, Nat.le_of_ble_eq_true rfl⟩ ⟨Nat.zero_le _, Nat.zero_le _⟩ dX7_isMade_9 ?_
  refine g_iconst (v := (-1)) hC (by decide) dX7_isMade_12 ?_
  refine g_icmp_eq (tgt := 20) hC (by decide) dX7_isMade_13 (fun c7 => ?_) (fun c7 => ?_)
  · replace h := gq_t c7 h
    refine g_iconst (v := 0) hC (by decide) dX7_isMade_20 ?_
    exact g_weak [] rfl (t_X7_isMade_21 hC hr  0 M5 h)
  · replace h := gq_f c7 h
    refine g_iconst (v := 1) hC (by decide) dX7_isMade_16 ?_
    refine g_goto (tgt := 21) hC (by decide) dX7_isMade_17 ?_
    exact g_weak [] rfl (t_X7_isMade_21 hC hr  1 M5 h)
def f_X7_isHeard_30 (N : Nat) (s0 : Int32) (M : gq_M) : Option (Int32 × gq_M) :=
  gq_g (gq_bb s0) (some (s0, M))
set_option maxHeartbeats 1000000 in
set_option maxRecDepth 20000 in
theorem t_X7_isHeard_30 {N : Nat} {v9 : Int32} {M9 : gq_M} (hC : gq_C p s m args meth c D A cI cZ ad mtC RX7 cX7_isHeard 4) (hr : meth.sig.returnType = (some .boolean))   : ∀ (s0 : Int32) (M : gq_M), f_X7_isHeard_30 N  s0 M = some (v9, M9) → gq_W p l e (gq_rm 2) s m args below meth c D A cI cZ ad mtC 4 (MQ below (gq_Qi D cI cZ ad mtC v9 M9 A) args s 0 0 A) 30 [] [.int s0] M 0 0 := by
  intro s0 M h
  unfold f_X7_isHeard_30 at h
  obtain ⟨g12, h⟩ := gq_g_i h
  exact g_zrets hC hr (gq_bb_i g12) h dX7_isHeard_30
def f_X7_isHeard_29 (N : Nat) (M : gq_M) : Option (Int32 × gq_M) :=
  f_X7_isHeard_30 N  0 M
set_option maxHeartbeats 1000000 in
set_option maxRecDepth 20000 in
theorem t_X7_isHeard_29 {N : Nat} {v9 : Int32} {M9 : gq_M} (hC : gq_C p s m args meth c D A cI cZ ad mtC RX7 cX7_isHeard 4) (hr : meth.sig.returnType = (some .boolean))   : ∀ (M : gq_M), f_X7_isHeard_29 N   M = some (v9, M9) → gq_W p l e (gq_rm 2) s m args below meth c D A cI cZ ad mtC 4 (MQ below (gq_Qi D cI cZ ad mtC v9 M9 A) args s 0 0 A) 29 [] [] M 0 0 := by
  intro  M h
  unfold f_X7_isHeard_29 at h
  refine g_iconst (v := 0) hC (by decide) dX7_isHeard_29 ?_
  exact g_weak [] rfl (t_X7_isHeard_30 hC hr  0 M h)
def f_X7_isHeard (N : Nat) (a1 : Int32) (a2 : Int32) (a3 : Int32) (M : gq_M) : Option (Int32 × gq_M) :=
  gq_b (f_X7_isMade N a1 a2 M) fun v1 M2 => if v1 = 0 then (f_X7_isHeard_29 N   M2) else (gq_b (f_X7_placeOf N a1 a2 M2) fun v5 M6 => gq_b (f_X8_at 99 24 N v5 M6) fun v8 M9 => if a3 < v8 then (f_X7_isHeard_29 N   M9) else (f_X7_isHeard_30 N  1 M9))
set_option maxHeartbeats 1000000 in
set_option maxRecDepth 20000 in
theorem t_X7_isHeard {l : Launch} {D : va_G} {cI cZ : ClassId} {ad : Nat → Nat} (N : Nat) (a1 : Int32) (a2 : Int32) (a3 : Int32) (M : gq_M) (v9 : Int32) (M9 : gq_M) (h : f_X7_isHeard N a1 a2 a3 M = some (v9, M9)) : gq_Ci l D cI cZ ad mtC yX7_isHeard cX7_isHeard 4 (some .boolean) 2 [.ref (ad 93), .int a1, .int a2, .int a3] M v9 M9 := by
  refine gq_introI (own := RX7) (by decide) rfl (Nat.le_of_ble_eq_true rfl) ?_
  intro p e s m below meth c hC hr
  refine g_cast (L2 := [(0, .ref (ad 93)), (1, .int a1), (2, .int a2), (3, .int a3)]) ?_ rfl rfl rfl rfl
  unfold f_X7_isHeard at h
  refine g_aload_n hC 0 rfl rfl dX7_isHeard_0 ?_
  refine g_iload_n hC 1 rfl rfl dX7_isHeard_1 ?_
  refine g_iload_n hC 2 rfl rfl dX7_isHeard_2 ?_
  obtain ⟨v1, M2, c3, h⟩ := gq_b_i h
  refine g_Vi (as := [.int a1, .int a2]) hC (t_X7_isMade N _ _ _ _ _ c3) mV_X7_isMade  wm_X7_37 obC_93 rfl rfl (Nat.le_of_ble_eq_true rfl) ⟨Nat.le_of_ble_eq_true rfl, Nat.le_of_ble_eq_true rfl⟩ ⟨Nat.zero_le _, Nat.zero_le _⟩ dX7_isHeard_3 ?_
  refine g_if_eq (tgt := 29) hC (by decide) dX7_isHeard_6 (fun c4 => ?_) (fun c4 => ?_)
  · replace h := gq_t c4 h
    exact g_weak [] rfl (t_X7_isHeard_29 hC hr   M2 h)
  · replace h := gq_f c4 h
    refine g_aload_n hC 0 rfl rfl dX7_isHeard_9 ?_
    refine g_getR hC fF_X7_23 lkC_93_2 dX7_isHeard_10 ?_
    refine g_iload_n hC 1 rfl rfl dX7_isHeard_13 ?_
    refine g_iload_n hC 2 rfl rfl dX7_isHeard_14 ?_
    obtain ⟨v5, M6, c7, h⟩ := gq_b_i h
    refine g_Si (as := [.int a1, .int a2]) hC (t_X7_placeOf N _ _ _ _ _ c7) mS_X7_placeOf wm_X7_26 rfl rfl (Nat.le_of_ble_eq_true rfl) ⟨Nat.le_of_ble_eq_true rfl, Nat.le_of_ble_eq_true rfl⟩ ⟨Nat.zero_le _, Nat.zero_le _⟩ dX7_isHeard_15 ?_
    obtain ⟨v8, M9, c10, h⟩ := gq_b_i h
    refine g_Vi (as := [.int v5]) hC (t_X8_at lkC_98_0 arC_99 N _ _ _ _ c10) mV_X8_at  wm_X7_33 obC_98 rfl rfl (Nat.le_of_ble_eq_true rfl) ⟨Nat.le_of_ble_eq_true rfl, Nat.le_of_ble_eq_true rfl⟩ ⟨Nat.zero_le _, Nat.zero_le _⟩ dX7_isHeard_18 ?_
    refine g_iload_n hC 3 rfl rfl dX7_isHeard_21 ?_
    refine g_icmp_gt (tgt := 29) hC (by decide) dX7_isHeard_22 (fun c11 => ?_) (fun c11 => ?_)
    · replace h := gq_t c11 h
      exact g_weak [] rfl (t_X7_isHeard_29 hC hr   M9 h)
    · replace h := gq_f c11 h
      refine g_iconst (v := 1) hC (by decide) dX7_isHeard_25 ?_
      refine g_goto (tgt := 30) hC (by decide) dX7_isHeard_26 ?_
      exact g_weak [] rfl (t_X7_isHeard_30 hC hr  1 M9 h)
def f_X7_isAnyHeard_2_b (N : Nat) (kh2 : Int32 → Int32 → Int32 → gq_M → Option (Int32 × gq_M)) (x1 : Int32) (x2 : Int32) (x3 : Int32) (M : gq_M) : Option (Int32 × gq_M) :=
  if 8 ≤ x3 then (some (0, M)) else (gq_b (f_X7_isHeard N x1 x3 x2 M) fun v2 M3 => if v2 = 0 then (kh2 x1 x2 (x3 + 1) M3) else (some (1, M3)))
def f_X7_isAnyHeard_2 (N : Nat) : Nat → Int32 → Int32 → Int32 → gq_M → Option (Int32 × gq_M)
  | 0 => fun _ _ _ _ => none
  | n9 + 1 => f_X7_isAnyHeard_2_b N  (f_X7_isAnyHeard_2 N  n9)
set_option maxHeartbeats 1000000 in
set_option maxRecDepth 20000 in
theorem t_X7_isAnyHeard_2_b {N : Nat} {kh2 : Int32 → Int32 → Int32 → gq_M → Option (Int32 × gq_M)} {v9 : Int32} {M9 : gq_M} (hC : gq_C p s m args meth c D A cI cZ ad mtC RX7 cX7_isAnyHeard 4) (hr : meth.sig.returnType = (some .boolean))  (hk2 : ∀ (x1 : Int32) (x2 : Int32) (x3 : Int32) (M : gq_M), kh2 x1 x2 x3 M = some (v9, M9) → gq_W p l e (gq_rm 3) s m args below meth c D A cI cZ ad mtC 4 (MQ below (gq_Qi D cI cZ ad mtC v9 M9 A) args s 0 0 A) 2 [(0, .ref (ad 93)), (1, .int x1), (2, .int x2), (3, .int x3)] [] M 0 0) : ∀ (x1 : Int32) (x2 : Int32) (x3 : Int32) (M : gq_M), f_X7_isAnyHeard_2_b N  kh2 x1 x2 x3 M = some (v9, M9) → gq_W p l e (gq_rm 3) s m args below meth c D A cI cZ ad mtC 4 (MQ below (gq_Qi D cI cZ ad mtC v9 M9 A) args s 0 0 A) 2 [(0, .ref (ad 93)), (1, .int x1), (2, .int x2), (3, .int x3)] [] M 0 0 := by
  intro x1 x2 x3 M h
  unfold f_X7_isAnyHeard_2_b at h
  refine g_iload_n hC 3 rfl rfl dX7_isAnyHeard_2 ?_
  refine g_bipush (v := 8) hC (by decide) dX7_isAnyHeard_3 ?_
  refine g_icmp_ge (tgt := 26) hC (by decide) dX7_isAnyHeard_5 (fun c1 => ?_) (fun c1 => ?_)
  · replace h := gq_t c1 h
    refine g_iconst (v := 0) hC (by decide) dX7_isAnyHeard_26 ?_
    exact g_zrets hC hr gq_bit0 h dX7_isAnyHeard_27
  · replace h := gq_f c1 h
    refine g_aload_n hC 0 rfl rfl dX7_isAnyHeard_8 ?_
    refine g_iload_n hC 1 rfl rfl dX7_isAnyHeard_9 ?_
    refine g_iload_n hC 3 rfl rfl dX7_isAnyHeard_10 ?_
    refine g_iload_n hC 2 rfl rfl dX7_isAnyHeard_11 ?_
    obtain ⟨v2, M3, c4, h⟩ := gq_b_i h
    refine g_Vi (as := [.int x1, .int x3, .int x2]) hC (t_X7_isHeard N _ _ _ _ _ _ c4) mV_X7_isHeard  wm_X7_41 obC_93 rfl rfl (Nat.le_of_ble_eq_true rfl) ⟨Nat.le_of_ble_eq_true rfl, Nat.le_of_ble_eq_true rfl⟩ ⟨Nat.zero_le _, Nat.zero_le _⟩ dX7_isAnyHeard_12 ?_
    refine g_if_eq (tgt := 20) hC (by decide) dX7_isAnyHeard_15 (fun c5 => ?_) (fun c5 => ?_)
    · replace h := gq_t c5 h
      refine g_iinc (v := (x3 + 1)) (L2 := [(3, .int (x3 + 1)), (0, .ref (ad 93)), (1, .int x1), (2, .int x2)]) hC 3 rfl (by first | rfl | decide) (by decide) rfl dX7_isAnyHeard_20 ?_
      refine g_goto (tgt := 2) hC (by decide) dX7_isAnyHeard_23 ?_
      exact g_weak [1, 2, 3, 0] rfl (hk2 x1 x2 (x3 + 1) M3 h)
    · replace h := gq_f c5 h
      refine g_iconst (v := 1) hC (by decide) dX7_isAnyHeard_18 ?_
      exact g_zrets hC hr gq_bit1 h dX7_isAnyHeard_19
theorem t_X7_isAnyHeard_2 {N : Nat} {v9 : Int32} {M9 : gq_M} (hC : gq_C p s m args meth c D A cI cZ ad mtC RX7 cX7_isAnyHeard 4) (hr : meth.sig.returnType = (some .boolean))  : ∀ (n9 : Nat) (x1 : Int32) (x2 : Int32) (x3 : Int32) (M : gq_M), f_X7_isAnyHeard_2 N  n9 x1 x2 x3 M = some (v9, M9) → gq_W p l e (gq_rm 3) s m args below meth c D A cI cZ ad mtC 4 (MQ below (gq_Qi D cI cZ ad mtC v9 M9 A) args s 0 0 A) 2 [(0, .ref (ad 93)), (1, .int x1), (2, .int x2), (3, .int x3)] [] M 0 0 := by
  intro n9
  induction n9 with
  | zero => intro x1 x2 x3 M h; cases h
  | succ n9 ih => intro x1 x2 x3 M h; exact t_X7_isAnyHeard_2_b hC hr  ih x1 x2 x3 M h
def f_X7_isAnyHeard (N : Nat) (a1 : Int32) (a2 : Int32) (M : gq_M) : Option (Int32 × gq_M) :=
  f_X7_isAnyHeard_2 N  N a1 a2 0 M
set_option maxHeartbeats 1000000 in
set_option maxRecDepth 20000 in
theorem t_X7_isAnyHeard {l : Launch} {D : va_G} {cI cZ : ClassId} {ad : Nat → Nat} (N : Nat) (a1 : Int32) (a2 : Int32) (M : gq_M) (v9 : Int32) (M9 : gq_M) (h : f_X7_isAnyHeard N a1 a2 M = some (v9, M9)) : gq_Ci l D cI cZ ad mtC yX7_isAnyHeard cX7_isAnyHeard 4 (some .boolean) 3 [.ref (ad 93), .int a1, .int a2] M v9 M9 := by
  refine gq_introI (own := RX7) (by decide) rfl (Nat.le_of_ble_eq_true rfl) ?_
  intro p e s m below meth c hC hr
  refine g_cast (L2 := [(0, .ref (ad 93)), (1, .int a1), (2, .int a2)]) ?_ rfl rfl rfl rfl
  unfold f_X7_isAnyHeard at h
  refine g_iconst (v := 0) hC (by decide) dX7_isAnyHeard_0 ?_
  refine g_istore_n (L2 := [(3, .int 0), (0, .ref (ad 93)), (1, .int a1), (2, .int a2)]) hC rfl (by decide) rfl dX7_isAnyHeard_1 ?_
  exact g_weak [1, 2, 3, 0] rfl (t_X7_isAnyHeard_2 hC hr  N a1 a2 0 M h)
def f_X7_priceOf (N : Nat) (a1 : Int32) (a2 : Int32) (M : gq_M) : Option (Int32 × gq_M) :=
  gq_b (f_X7_placeOf N a1 a2 M) fun v1 M2 => gq_b (f_X8_at 95 24 N v1 M2) fun v4 M5 => some (v4, M5)
set_option maxHeartbeats 1000000 in
set_option maxRecDepth 20000 in
theorem t_X7_priceOf {l : Launch} {D : va_G} {cI cZ : ClassId} {ad : Nat → Nat} (N : Nat) (a1 : Int32) (a2 : Int32) (M : gq_M) (v9 : Int32) (M9 : gq_M) (h : f_X7_priceOf N a1 a2 M = some (v9, M9)) : gq_Ci l D cI cZ ad mtC yX7_priceOf cX7_priceOf 3 (some .int) 1 [.ref (ad 93), .int a1, .int a2] M v9 M9 := by
  refine gq_introI (own := RX7) (by decide) rfl (Nat.le_of_ble_eq_true rfl) ?_
  intro p e s m below meth c hC hr
  refine g_cast (L2 := [(0, .ref (ad 93)), (1, .int a1), (2, .int a2)]) ?_ rfl rfl rfl rfl
  unfold f_X7_priceOf at h
  refine g_aload_n hC 0 rfl rfl dX7_priceOf_0 ?_
  refine g_getR hC fF_X7_14 lkC_93_0 dX7_priceOf_1 ?_
  refine g_iload_n hC 1 rfl rfl dX7_priceOf_4 ?_
  refine g_iload_n hC 2 rfl rfl dX7_priceOf_5 ?_
  obtain ⟨v1, M2, c3, h⟩ := gq_b_i h
  refine g_Si (as := [.int a1, .int a2]) hC (t_X7_placeOf N _ _ _ _ _ c3) mS_X7_placeOf wm_X7_26 rfl rfl (Nat.le_of_ble_eq_true rfl) ⟨Nat.le_of_ble_eq_true rfl, Nat.le_of_ble_eq_true rfl⟩ ⟨Nat.zero_le _, Nat.zero_le _⟩ dX7_priceOf_6 ?_
  obtain ⟨v4, M5, c6, h⟩ := gq_b_i h
  refine g_Vi (as := [.int v1]) hC (t_X8_at lkC_94_0 arC_95 N _ _ _ _ c6) mV_X8_at  wm_X7_33 obC_94 rfl rfl (Nat.le_of_ble_eq_true rfl) ⟨Nat.le_of_ble_eq_true rfl, Nat.le_of_ble_eq_true rfl⟩ ⟨Nat.zero_le _, Nat.zero_le _⟩ dX7_priceOf_9 ?_
  exact g_irets hC hr h dX7_priceOf_12
def f_X7_isAhead_62 (N : Nat) (s0 : Int32) (M : gq_M) : Option (Int32 × gq_M) :=
  gq_g (gq_bb s0) (some (s0, M))
set_option maxHeartbeats 1000000 in
set_option maxRecDepth 20000 in
theorem t_X7_isAhead_62 {N : Nat} {v9 : Int32} {M9 : gq_M} (hC : gq_C p s m args meth c D A cI cZ ad mtC RX7 cX7_isAhead 6) (hr : meth.sig.returnType = (some .boolean))   : ∀ (s0 : Int32) (M : gq_M), f_X7_isAhead_62 N  s0 M = some (v9, M9) → gq_W p l e (gq_rm 2) s m args below meth c D A cI cZ ad mtC 6 (MQ below (gq_Qi D cI cZ ad mtC v9 M9 A) args s 0 0 A) 62 [] [.int s0] M 0 0 := by
  intro s0 M h
  unfold f_X7_isAhead_62 at h
  obtain ⟨g22, h⟩ := gq_g_i h
  exact g_zrets hC hr (gq_bb_i g22) h dX7_isAhead_62
def f_X7_isAhead_61 (N : Nat) (M : gq_M) : Option (Int32 × gq_M) :=
  f_X7_isAhead_62 N  0 M
set_option maxHeartbeats 1000000 in
set_option maxRecDepth 20000 in
theorem t_X7_isAhead_61 {N : Nat} {v9 : Int32} {M9 : gq_M} (hC : gq_C p s m args meth c D A cI cZ ad mtC RX7 cX7_isAhead 6) (hr : meth.sig.returnType = (some .boolean))   : ∀ (M : gq_M), f_X7_isAhead_61 N   M = some (v9, M9) → gq_W p l e (gq_rm 2) s m args below meth c D A cI cZ ad mtC 6 (MQ below (gq_Qi D cI cZ ad mtC v9 M9 A) args s 0 0 A) 61 [] [] M 0 0 := by
  intro  M h
  unfold f_X7_isAhead_61 at h
  refine g_iconst (v := 0) hC (by decide) dX7_isAhead_61 ?_
  exact g_weak [] rfl (t_X7_isAhead_62 hC hr  0 M h)
def f_X7_isAhead_57 (N : Nat) (M : gq_M) : Option (Int32 × gq_M) :=
  f_X7_isAhead_62 N  1 M
set_option maxHeartbeats 1000000 in
set_option maxRecDepth 20000 in
theorem t_X7_isAhead_57 {N : Nat} {v9 : Int32} {M9 : gq_M} (hC : gq_C p s m args meth c D A cI cZ ad mtC RX7 cX7_isAhead 6) (hr : meth.sig.returnType = (some .boolean))   : ∀ (M : gq_M), f_X7_isAhead_57 N   M = some (v9, M9) → gq_W p l e (gq_rm 2) s m args below meth c D A cI cZ ad mtC 6 (MQ below (gq_Qi D cI cZ ad mtC v9 M9 A) args s 0 0 A) 57 [] [] M 0 0 := by
  intro  M h
  unfold f_X7_isAhead_57 at h
  refine g_iconst (v := 1) hC (by decide) dX7_isAhead_57 ?_
  refine g_goto (tgt := 62) hC (by decide) dX7_isAhead_58 ?_
  exact g_weak [] rfl (t_X7_isAhead_62 hC hr  1 M h)
def f_X7_isAhead (N : Nat) (a1 : Int32) (a2 : Int32) (a3 : Int32) (M : gq_M) : Option (Int32 × gq_M) :=
  gq_b (f_X7_priceOf N a1 a2 M) fun v1 M2 => gq_b (f_X7_priceOf N a1 a3 M2) fun v4 M5 => gq_b (f_X7_placeOf N a1 a2 M5) fun v7 M8 => gq_b (f_X8_at 97 24 N v7 M8) fun v10 M11 => gq_b (f_X7_placeOf N a1 a3 M11) fun v13 M14 => gq_b (f_X8_at 97 24 N v13 M14) fun v16 M17 => if 0 < (v1 - v4) then (f_X7_isAhead_57 N   M17) else (if (v1 - v4) = 0 then (if 0 ≤ (v10 - v16) then (f_X7_isAhead_61 N   M17) else (f_X7_isAhead_57 N   M17)) else (f_X7_isAhead_61 N   M17))
set_option maxHeartbeats 1000000 in
set_option maxRecDepth 20000 in
theorem t_X7_isAhead {l : Launch} {D : va_G} {cI cZ : ClassId} {ad : Nat → Nat} (N : Nat) (a1 : Int32) (a2 : Int32) (a3 : Int32) (M : gq_M) (v9 : Int32) (M9 : gq_M) (h : f_X7_isAhead N a1 a2 a3 M = some (v9, M9)) : gq_Ci l D cI cZ ad mtC yX7_isAhead cX7_isAhead 6 (some .boolean) 2 [.ref (ad 93), .int a1, .int a2, .int a3] M v9 M9 := by
  refine gq_introI (own := RX7) (by decide) rfl (Nat.le_of_ble_eq_true rfl) ?_
  intro p e s m below meth c hC hr
  refine g_cast (L2 := [(0, .ref (ad 93)), (1, .int a1), (2, .int a2), (3, .int a3)]) ?_ rfl rfl rfl rfl
  unfold f_X7_isAhead at h
  refine g_aload_n hC 0 rfl rfl dX7_isAhead_0 ?_
  refine g_iload_n hC 1 rfl rfl dX7_isAhead_1 ?_
  refine g_iload_n hC 2 rfl rfl dX7_isAhead_2 ?_
  obtain ⟨v1, M2, c3, h⟩ := gq_b_i h
  refine g_Vi (as := [.int a1, .int a2]) hC (t_X7_priceOf N _ _ _ _ _ c3) mV_X7_priceOf  wm_X7_45 obC_93 rfl rfl (Nat.le_of_ble_eq_true rfl) ⟨Nat.le_of_ble_eq_true rfl, Nat.le_of_ble_eq_true rfl⟩ ⟨Nat.zero_le _, Nat.zero_le _⟩ dX7_isAhead_3 ?_
  refine g_aload_n hC 0 rfl rfl dX7_isAhead_6 ?_
  refine g_iload_n hC 1 rfl rfl dX7_isAhead_7 ?_
  refine g_iload_n hC 3 rfl rfl dX7_isAhead_8 ?_
  obtain ⟨v4, M5, c6, h⟩ := gq_b_i h
  refine g_Vi (as := [.int a1, .int a3]) hC (t_X7_priceOf N _ _ _ _ _ c6) mV_X7_priceOf  wm_X7_45 obC_93 rfl rfl (Nat.le_of_ble_eq_true rfl) ⟨Nat.le_of_ble_eq_true rfl, Nat.le_of_ble_eq_true rfl⟩ ⟨Nat.zero_le _, Nat.zero_le _⟩ dX7_isAhead_9 ?_
  refine g_isub hC dX7_isAhead_12 ?_
  refine g_istore (L2 := [(4, .int (v1 - v4)), (0, .ref (ad 93)), (1, .int a1), (2, .int a2), (3, .int a3)]) hC (by decide) rfl dX7_isAhead_13 ?_
  refine g_aload_n hC 1 rfl rfl dX7_isAhead_15 ?_
  refine g_getR hC fF_X7_20 lkC_93_1 dX7_isAhead_16 ?_
  refine g_iload_n hC 2 rfl rfl dX7_isAhead_19 ?_
  refine g_iload_n hC 3 rfl rfl dX7_isAhead_20 ?_
  obtain ⟨v7, M8, c9, h⟩ := gq_b_i h
  refine g_Si (as := [.int a1, .int a2]) hC (t_X7_placeOf N _ _ _ _ _ c9) mS_X7_placeOf wm_X7_26 rfl rfl (Nat.le_of_ble_eq_true rfl) ⟨Nat.le_of_ble_eq_true rfl, Nat.le_of_ble_eq_true rfl⟩ ⟨Nat.zero_le _, Nat.zero_le _⟩ dX7_isAhead_21 ?_
  obtain ⟨v10, M11, c12, h⟩ := gq_b_i h
  refine g_Vi (as := [.int v7]) hC (t_X8_at lkC_96_0 arC_97 N _ _ _ _ c12) mV_X8_at  wm_X7_33 obC_96 rfl rfl (Nat.le_of_ble_eq_true rfl) ⟨Nat.le_of_ble_eq_true rfl, Nat.le_of_ble_eq_true rfl⟩ ⟨Nat.zero_le _, Nat.zero_le _⟩ dX7_isAhead_24 ?_
  refine g_aload_n hC 1 rfl rfl dX7_isAhead_27 ?_
  refine g_getR hC fF_X7_20 lkC_93_1 dX7_isAhead_28 ?_
  refine g_iload_n hC 2 rfl rfl dX7_isAhead_31 ?_
  refine g_iload_n hC 4 rfl rfl dX7_isAhead_32 ?_
  obtain ⟨v13, M14, c15, h⟩ := gq_b_i h
  refine g_Si (as := [.int a1, .int a3]) hC (t_X7_placeOf N _ _ _ _ _ c15) mS_X7_placeOf wm_X7_26 rfl rfl (Nat.le_of_ble_eq_true rfl) ⟨Nat.le_of_ble_eq_true rfl, Nat.le_of_ble_eq_true rfl⟩ ⟨Nat.zero_le _, Nat.zero_le _⟩ dX7_isAhead_33 ?_
  obtain ⟨v16, M17, c18, h⟩ := gq_b_i h
  refine g_Vi (as := [.int v13]) hC (t_X8_at lkC_96_0 arC_97 N _ _ _ _ c18) mV_X8_at  wm_X7_33 obC_96 rfl rfl (Nat.le_of_ble_eq_true rfl) ⟨Nat.le_of_ble_eq_true rfl, Nat.le_of_ble_eq_true rfl⟩ ⟨Nat.zero_le _, Nat.zero_le _⟩ dX7_isAhead_36 ?_
  refine g_isub hC dX7_isAhead_39 ?_
  refine g_istore (L2 := [(5, .int (v10 - v16)), (4, .int (v1 - v4)), (0, .ref (ad 93)), (1, .int a1), (2, .int a2), (3, .int a3)]) hC (by decide) rfl dX7_isAhead_40 ?_
  refine g_iload hC 1 rfl dX7_isAhead_42 ?_
  refine g_if_gt (tgt := 57) hC (by decide) dX7_isAhead_44 (fun c19 => ?_) (fun c19 => ?_)
  · replace h := gq_t c19 h
    exact g_weak [] rfl (t_X7_isAhead_57 hC hr   M17 h)
  · replace h := gq_f c19 h
    refine g_iload hC 1 rfl dX7_isAhead_47 ?_
    refine g_if_ne (tgt := 61) hC (by decide) dX7_isAhead_49 (fun c20 => ?_) (fun c20 => ?_)
    · replace h := gq_f c20 h
      exact g_weak [] rfl (t_X7_isAhead_61 hC hr   M17 h)
    · replace h := gq_t c20 h
      refine g_iload hC 0 rfl dX7_isAhead_52 ?_
      refine g_if_ge (tgt := 61) hC (by decide) dX7_isAhead_54 (fun c21 => ?_) (fun c21 => ?_)
      · replace h := gq_t c21 h
        exact g_weak [] rfl (t_X7_isAhead_61 hC hr   M17 h)
      · replace h := gq_f c21 h
        exact g_weak [] rfl (t_X7_isAhead_57 hC hr   M17 h)
def f_X8_fill_2_b (r n : Nat) (N : Nat) (kh2 : Int32 → Int32 → gq_M → Option (Int32 × gq_M)) (x1 : Int32) (x2 : Int32) (M : gq_M) : Option (Int32 × gq_M) :=
  if (nI n) ≤ x2 then (some (0, M)) else (gq_g (gq_in x2 n) (gq_l (gq_up M r x2.toNatClampNeg x1) fun M3 => kh2 x1 (x2 + 1) M3))
def f_X8_fill_2 (r n : Nat) (N : Nat) : Nat → Int32 → Int32 → gq_M → Option (Int32 × gq_M)
  | 0 => fun _ _ _ => none
  | n9 + 1 => f_X8_fill_2_b r n N  (f_X8_fill_2 r n N  n9)
set_option maxHeartbeats 1000000 in
set_option maxRecDepth 20000 in
theorem t_X8_fill_2_b {N : Nat} {mt : List gq_T} {q r n : Nat} {kh2 : Int32 → Int32 → gq_M → Option (Int32 × gq_M)} {v9 : Int32} {M9 : gq_M} (hC : gq_C p s m args meth c D A cI cZ ad mt RX8 cX8_fill 3) (hr : meth.sig.returnType = none) (hq : gq_lk mt q 8 0 (some r)) (hr2 : mt[r]? = some (.inr (false, n)))  (hk2 : ∀ (x1 : Int32) (x2 : Int32) (M : gq_M), kh2 x1 x2 M = some (v9, M9) → gq_W p l e (gq_rm 0) s m args below meth c D A cI cZ ad mt 3 (MQ below (gq_Qv D cI cZ ad mt M9 A) args s 0 0 A) 2 [(0, .ref (ad q)), (1, .int x1), (2, .int x2)] [] M 0 0) : ∀ (x1 : Int32) (x2 : Int32) (M : gq_M), f_X8_fill_2_b r n N  kh2 x1 x2 M = some (v9, M9) → gq_W p l e (gq_rm 0) s m args below meth c D A cI cZ ad mt 3 (MQ below (gq_Qv D cI cZ ad mt M9 A) args s 0 0 A) 2 [(0, .ref (ad q)), (1, .int x1), (2, .int x2)] [] M 0 0 := by
  intro x1 x2 M h
  unfold f_X8_fill_2_b at h
  refine g_iload_n hC 2 rfl rfl dX8_fill_2 ?_
  refine g_aload_n hC 0 rfl rfl dX8_fill_3 ?_
  refine g_getR hC fF_X8_7 hq dX8_fill_4 ?_
  refine g_alen hC hr2 dX8_fill_7 ?_
  refine g_icmp_ge (tgt := 24) hC (by decide) dX8_fill_8 (fun c1 => ?_) (fun c1 => ?_)
  · replace h := gq_t c1 h
    exact g_vrets hC hr h dX8_fill_24
  · replace h := gq_f c1 h
    refine g_aload_n hC 0 rfl rfl dX8_fill_11 ?_
    refine g_getR hC fF_X8_7 hq dX8_fill_12 ?_
    refine g_iload_n hC 2 rfl rfl dX8_fill_15 ?_
    refine g_iload_n hC 1 rfl rfl dX8_fill_16 ?_
    obtain ⟨g2, h⟩ := gq_g_i h
    refine g_iast hC hr2 (gq_in_i g2) dX8_fill_17 ?_
    refine g_topM (fun M3 hM3 => ?_)
    replace h := gq_l_i hM3 h
    refine g_iinc (v := (x2 + 1)) (L2 := [(2, .int (x2 + 1)), (0, .ref (ad q)), (1, .int x1)]) hC 2 rfl (by first | rfl | decide) (by decide) rfl dX8_fill_18 ?_
    refine g_goto (tgt := 2) hC (by decide) dX8_fill_21 ?_
    exact g_weak [1, 2, 0] rfl (hk2 x1 (x2 + 1) M3 h)
theorem t_X8_fill_2 {N : Nat} {mt : List gq_T} {q r n : Nat} {v9 : Int32} {M9 : gq_M} (hC : gq_C p s m args meth c D A cI cZ ad mt RX8 cX8_fill 3) (hr : meth.sig.returnType = none) (hq : gq_lk mt q 8 0 (some r)) (hr2 : mt[r]? = some (.inr (false, n)))  : ∀ (n9 : Nat) (x1 : Int32) (x2 : Int32) (M : gq_M), f_X8_fill_2 r n N  n9 x1 x2 M = some (v9, M9) → gq_W p l e (gq_rm 0) s m args below meth c D A cI cZ ad mt 3 (MQ below (gq_Qv D cI cZ ad mt M9 A) args s 0 0 A) 2 [(0, .ref (ad q)), (1, .int x1), (2, .int x2)] [] M 0 0 := by
  intro n9
  induction n9 with
  | zero => intro x1 x2 M h; cases h
  | succ n9 ih => intro x1 x2 M h; exact t_X8_fill_2_b hC hr hq hr2  ih x1 x2 M h
def f_X8_fill (r n : Nat) (N : Nat) (a1 : Int32) (M : gq_M) : Option (Int32 × gq_M) :=
  f_X8_fill_2 r n N  N a1 0 M
set_option maxHeartbeats 1000000 in
set_option maxRecDepth 20000 in
theorem t_X8_fill {l : Launch} {D : va_G} {cI cZ : ClassId} {ad : Nat → Nat} {mt : List gq_T} {q r n : Nat} (hq : gq_lk mt q 8 0 (some r)) (hr2 : mt[r]? = some (.inr (false, n))) (N : Nat) (a1 : Int32) (M : gq_M) (v9 : Int32) (M9 : gq_M) (h : f_X8_fill r n N a1 M = some (v9, M9)) : gq_Cv l D cI cZ ad mt yX8_fill cX8_fill 3 0 [.ref (ad q), .int a1] M M9 := by
  refine gq_introV (own := RX8) (by decide) rfl (Nat.le_of_ble_eq_true rfl) ?_
  intro p e s m below meth c hC hr
  refine g_cast (L2 := [(0, .ref (ad q)), (1, .int a1)]) ?_ rfl rfl rfl rfl
  unfold f_X8_fill at h
  refine g_iconst (v := 0) hC (by decide) dX8_fill_0 ?_
  refine g_istore_n (L2 := [(2, .int 0), (0, .ref (ad q)), (1, .int a1)]) hC rfl (by decide) rfl dX8_fill_1 ?_
  exact g_weak [1, 2, 0] rfl (t_X8_fill_2 hC hr hq hr2  N a1 0 M h)
end
