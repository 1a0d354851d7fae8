section
variable {p : Program} {l : Launch} {e : Env} {s : State} {m : MethodId} {args : Array Value} {below : List Frame} {meth : Method} {c : Code} {D : va_G} {A : Nat → Prop} {cI cZ : ClassId} {ad : Nat → Nat}
def f_X10_thrown (N : Nat) (M : gq_M) : Option (Int32 × gq_M) :=
  some ((M 0 54), M)
set_option maxHeartbeats 1000000 in
set_option maxRecDepth 20000 in
theorem t_X10_thrown {l : Launch} {D : va_G} {cI cZ : ClassId} {ad : Nat → Nat} (N : Nat) (M : gq_M) (v9 : Int32) (M9 : gq_M) (h : f_X10_thrown N  M = some (v9, M9)) : gq_Ci l D cI cZ ad mtR yX10_thrown cX10_thrown 1 (some .int) 0 [.ref (ad 0)] M v9 M9 := by
  refine gq_introI (own := RX10) (by decide) rfl (Nat.le_of_ble_eq_true rfl) ?_
  intro p e s m below meth c hC hr
  refine g_cast (L2 := [(0, .ref (ad 0))]) ?_ rfl rfl rfl rfl
  unfold f_X10_thrown at h
  refine g_aload_n hC 0 rfl rfl dX10_thrown_0 ?_
  refine g_getI hC fF_X10_160 lkR_0_54 dX10_thrown_1 ?_
  exact g_irets hC hr h dX10_thrown_4
def f_X10_fails_14 (N : Nat) (s0 : Int32) (M : gq_M) : Option (Int32 × gq_M) :=
  gq_g (gq_bb s0) (some (s0, M))
set_option maxHeartbeats 1000000 in
set_option maxRecDepth 20000 in
theorem t_X10_fails_14 {N : Nat} {v9 : Int32} {M9 : gq_M} (hC : gq_C p s m args meth c D A cI cZ ad mtR RX10 cX10_fails 2) (hr : meth.sig.returnType = (some .boolean))   : ∀ (s0 : Int32) (M : gq_M), f_X10_fails_14 N  s0 M = some (v9, M9) → gq_W p l e (gq_rm 0) s m args below meth c D A cI cZ ad mtR 2 (MQ below (gq_Qi D cI cZ ad mtR v9 M9 A) args s 0 0 A) 14 [] [.int s0] M 0 0 := by
  intro s0 M h
  unfold f_X10_fails_14 at h
  obtain ⟨g3, h⟩ := gq_g_i h
  exact g_zrets hC hr (gq_bb_i g3) h dX10_fails_14
def f_X10_fails (N : Nat) (a1 : Int32) (M : gq_M) : Option (Int32 × gq_M) :=
  gq_l (gq_up M 0 54 a1) fun M1 => if a1 ≤ 0 then (f_X10_fails_14 N  0 M1) else (f_X10_fails_14 N  1 M1)
set_option maxHeartbeats 1000000 in
set_option maxRecDepth 20000 in
theorem t_X10_fails {l : Launch} {D : va_G} {cI cZ : ClassId} {ad : Nat → Nat} (N : Nat) (a1 : Int32) (M : gq_M) (v9 : Int32) (M9 : gq_M) (h : f_X10_fails N a1 M = some (v9, M9)) : gq_Ci l D cI cZ ad mtR yX10_fails cX10_fails 2 (some .boolean) 0 [.ref (ad 0), .int a1] M v9 M9 := by
  refine gq_introI (own := RX10) (by decide) rfl (Nat.le_of_ble_eq_true rfl) ?_
  intro p e s m below meth c hC hr
  refine g_cast (L2 := [(0, .ref (ad 0)), (1, .int a1)]) ?_ rfl rfl rfl rfl
  unfold f_X10_fails at h
  refine g_aload_n hC 0 rfl rfl dX10_fails_0 ?_
  refine g_iload_n hC 1 rfl rfl dX10_fails_1 ?_
  refine g_putI hC fG_X10_160 lkR_0_54 dX10_fails_2 ?_
  refine g_topM (fun M1 hM1 => ?_)
  replace h := gq_l_i hM1 h
  refine g_iload_n hC 1 rfl rfl dX10_fails_5 ?_
  refine g_if_le (tgt := 13) hC (by decide) dX10_fails_6 (fun c2 => ?_) (fun c2 => ?_)
  · replace h := gq_t c2 h
    refine g_iconst (v := 0) hC (by decide) dX10_fails_13 ?_
    exact g_weak [] rfl (t_X10_fails_14 hC hr  0 M1 h)
  · replace h := gq_f c2 h
    refine g_iconst (v := 1) hC (by decide) dX10_fails_9 ?_
    refine g_goto (tgt := 14) hC (by decide) dX10_fails_10 ?_
    exact g_weak [] rfl (t_X10_fails_14 hC hr  1 M1 h)
def f_X10_isIn_15 (N : Nat) (s0 : Int32) (M : gq_M) : Option (Int32 × gq_M) :=
  gq_g (gq_bb s0) (some (s0, M))
set_option maxHeartbeats 1000000 in
set_option maxRecDepth 20000 in
theorem t_X10_isIn_15 {N : Nat} {v9 : Int32} {M9 : gq_M} (hC : gq_C p s m args meth c D A cI cZ ad mtR RX10 cX10_isIn 3) (hr : meth.sig.returnType = (some .boolean))   : ∀ (s0 : Int32) (M : gq_M), f_X10_isIn_15 N  s0 M = some (v9, M9) → gq_W p l e (gq_rm 0) s m args below meth c D A cI cZ ad mtR 3 (MQ below (gq_Qi D cI cZ ad mtR v9 M9 A) args s 0 0 A) 15 [] [.int s0] M 0 0 := by
  intro s0 M h
  unfold f_X10_isIn_15 at h
  obtain ⟨g3, h⟩ := gq_g_i h
  exact g_zrets hC hr (gq_bb_i g3) h dX10_isIn_15
def f_X10_isIn_14 (N : Nat) (M : gq_M) : Option (Int32 × gq_M) :=
  f_X10_isIn_15 N  0 M
set_option maxHeartbeats 1000000 in
set_option maxRecDepth 20000 in
theorem t_X10_isIn_14 {N : Nat} {v9 : Int32} {M9 : gq_M} (hC : gq_C p s m args meth c D A cI cZ ad mtR RX10 cX10_isIn 3) (hr : meth.sig.returnType = (some .boolean))   : ∀ (M : gq_M), f_X10_isIn_14 N   M = some (v9, M9) → gq_W p l e (gq_rm 0) s m args below meth c D A cI cZ ad mtR 3 (MQ below (gq_Qi D cI cZ ad mtR v9 M9 A) args s 0 0 A) 14 [] [] M 0 0 := by
  intro  M h
  unfold f_X10_isIn_14 at h
  refine g_iconst (v := 0) hC (by decide) dX10_isIn_14 ?_
  exact g_weak [] rfl (t_X10_isIn_15 hC hr  0 M h)
def f_X10_isIn (N : Nat) (a0 : Int32) (a1 : Int32) (a2 : Int32) (M : gq_M) : Option (Int32 × gq_M) :=
  if a0 < a1 then (f_X10_isIn_14 N   M) else (if a2 < a0 then (f_X10_isIn_14 N   M) else (f_X10_isIn_15 N  1 M))
set_option maxHeartbeats 1000000 in
set_option maxRecDepth 20000 in
theorem t_X10_isIn {l : Launch} {D : va_G} {cI cZ : ClassId} {ad : Nat → Nat} (N : Nat) (a0 : Int32) (a1 : Int32) (a2 : Int32) (M : gq_M) (v9 : Int32) (M9 : gq_M) (h : f_X10_isIn N a0 a1 a2 M = some (v9, M9)) : gq_Ci l D cI cZ ad mtR yX10_isIn cX10_isIn 3 (some .boolean) 0 [.int a0, .int a1, .int a2] M v9 M9 := by
  refine gq_introI (own := RX10) (by decide) rfl (Nat.le_of_ble_eq_true rfl) ?_
  intro p e s m below meth c hC hr
  refine g_cast (L2 := [(0, .int a0), (1, .int a1), (2, .int a2)]) ?_ rfl rfl rfl rfl
  unfold f_X10_isIn at h
  refine g_iload_n hC 0 rfl rfl dX10_isIn_0 ?_
  refine g_iload_n hC 1 rfl rfl dX10_isIn_1 ?_
  refine g_icmp_lt (tgt := 14) hC (by decide) dX10_isIn_2 (fun c1 => ?_) (fun c1 => ?_)
  · replace h := gq_t c1 h
    exact g_weak [] rfl (t_X10_isIn_14 hC hr   M h)
  · replace h := gq_f c1 h
    refine g_iload_n hC 0 rfl rfl dX10_isIn_5 ?_
    refine g_iload_n hC 2 rfl rfl dX10_isIn_6 ?_
    refine g_icmp_gt (tgt := 14) hC (by decide) dX10_isIn_7 (fun c2 => ?_) (fun c2 => ?_)
    · replace h := gq_t c2 h
      exact g_weak [] rfl (t_X10_isIn_14 hC hr   M h)
    · replace h := gq_f c2 h
      refine g_iconst (v := 1) hC (by decide) dX10_isIn_10 ?_
      refine g_goto (tgt := 15) hC (by decide) dX10_isIn_11 ?_
      exact g_weak [] rfl (t_X10_isIn_15 hC hr  1 M h)
def f_X10_isEight (N : Nat) (a0 : Int32) (M : gq_M) : Option (Int32 × gq_M) :=
  gq_b (f_X10_isIn N a0 0 7 M) fun v1 M2 => gq_g (gq_bb v1) (some (v1, M2))
set_option maxHeartbeats 1000000 in
set_option maxRecDepth 20000 in
theorem t_X10_isEight {l : Launch} {D : va_G} {cI cZ : ClassId} {ad : Nat → Nat} (N : Nat) (a0 : Int32) (M : gq_M) (v9 : Int32) (M9 : gq_M) (h : f_X10_isEight N a0 M = some (v9, M9)) : gq_Ci l D cI cZ ad mtR yX10_isEight cX10_isEight 1 (some .boolean) 1 [.int a0] M v9 M9 := by
  refine gq_introI (own := RX10) (by decide) rfl (Nat.le_of_ble_eq_true rfl) ?_
  intro p e s m below meth c hC hr
  refine g_cast (L2 := [(0, .int a0)]) ?_ rfl rfl rfl rfl
  unfold f_X10_isEight at h
  refine g_iload_n hC 0 rfl rfl dX10_isEight_0 ?_
  refine g_iconst (v := 0) hC (by decide) dX10_isEight_1 ?_
  refine g_bipush (v := 7) hC (by decide) dX10_isEight_2 ?_
  obtain ⟨v1, M2, c3, h⟩ := gq_b_i h
  refine g_Si (as := [.int a0, .int 0, .int 7]) hC (t_X10_isIn N _ _ _ _ _ _ c3) mS_X10_isIn wm_X10_163 rfl rfl (Nat.le_of_ble_eq_true rfl) ⟨by decide, by decide⟩ ⟨by decide, by decide⟩ dX10_isEight_4 ?_
  obtain ⟨g4, h⟩ := gq_g_i h
  exact g_zrets hC hr (gq_bb_i g4) h dX10_isEight_7
def f_X10_isKind (N : Nat) (a0 : Int32) (M : gq_M) : Option (Int32 × gq_M) :=
  gq_b (f_X10_isIn N a0 0 3 M) fun v1 M2 => gq_g (gq_bb v1) (some (v1, M2))
set_option maxHeartbeats 1000000 in
set_option maxRecDepth 20000 in
theorem t_X10_isKind {l : Launch} {D : va_G} {cI cZ : ClassId} {ad : Nat → Nat} (N : Nat) (a0 : Int32) (M : gq_M) (v9 : Int32) (M9 : gq_M) (h : f_X10_isKind N a0 M = some (v9, M9)) : gq_Ci l D cI cZ ad mtR yX10_isKind cX10_isKind 1 (some .boolean) 1 [.int a0] M v9 M9 := by
  refine gq_introI (own := RX10) (by decide) rfl (Nat.le_of_ble_eq_true rfl) ?_
  intro p e s m below meth c hC hr
  refine g_cast (L2 := [(0, .int a0)]) ?_ rfl rfl rfl rfl
  unfold f_X10_isKind at h
  refine g_iload_n hC 0 rfl rfl dX10_isKind_0 ?_
  refine g_iconst (v := 0) hC (by decide) dX10_isKind_1 ?_
  refine g_iconst (v := 3) hC (by decide) dX10_isKind_2 ?_
  obtain ⟨v1, M2, c3, h⟩ := gq_b_i h
  refine g_Si (as := [.int a0, .int 0, .int 3]) hC (t_X10_isIn N _ _ _ _ _ _ c3) mS_X10_isIn wm_X10_163 rfl rfl (Nat.le_of_ble_eq_true rfl) ⟨by decide, by decide⟩ ⟨by decide, by decide⟩ dX10_isKind_3 ?_
  obtain ⟨g4, h⟩ := gq_g_i h
  exact g_zrets hC hr (gq_bb_i g4) h dX10_isKind_6
def f_X10_isHall (N : Nat) (a0 : Int32) (M : gq_M) : Option (Int32 × gq_M) :=
  gq_b (f_X10_isIn N a0 0 2 M) fun v1 M2 => gq_g (gq_bb v1) (some (v1, M2))
set_option maxHeartbeats 1000000 in
set_option maxRecDepth 20000 in
theorem t_X10_isHall {l : Launch} {D : va_G} {cI cZ : ClassId} {ad : Nat → Nat} (N : Nat) (a0 : Int32) (M : gq_M) (v9 : Int32) (M9 : gq_M) (h : f_X10_isHall N a0 M = some (v9, M9)) : gq_Ci l D cI cZ ad mtR yX10_isHall cX10_isHall 1 (some .boolean) 1 [.int a0] M v9 M9 := by
  refine gq_introI (own := RX10) (by decide) rfl (Nat.le_of_ble_eq_true rfl) ?_
  intro p e s m below meth c hC hr
  refine g_cast (L2 := [(0, .int a0)]) ?_ rfl rfl rfl rfl
  unfold f_X10_isHall at h
  refine g_iload_n hC 0 rfl rfl dX10_isHall_0 ?_
  refine g_iconst (v := 0) hC (by decide) dX10_isHall_1 ?_
  refine g_iconst (v := 2) hC (by decide) dX10_isHall_2 ?_
  obtain ⟨v1, M2, c3, h⟩ := gq_b_i h
  refine g_Si (as := [.int a0, .int 0, .int 2]) hC (t_X10_isIn N _ _ _ _ _ _ c3) mS_X10_isIn wm_X10_163 rfl rfl (Nat.le_of_ble_eq_true rfl) ⟨by decide, by decide⟩ ⟨by decide, by decide⟩ dX10_isHall_3 ?_
  obtain ⟨g4, h⟩ := gq_g_i h
  exact g_zrets hC hr (gq_bb_i g4) h dX10_isHall_6
def f_X10_isBox (N : Nat) (a1 : Int32) (M : gq_M) : Option (Int32 × gq_M) :=
  gq_b (f_X10_isIn N a1 0 ((M 0 16) - 1) M) fun v1 M2 => gq_g (gq_bb v1) (some (v1, M2))
set_option maxHeartbeats 1000000 in
set_option maxRecDepth 20000 in
theorem t_X10_isBox {l : Launch} {D : va_G} {cI cZ : ClassId} {ad : Nat → Nat} (N : Nat) (a1 : Int32) (M : gq_M) (v9 : Int32) (M9 : gq_M) (h : f_X10_isBox N a1 M = some (v9, M9)) : gq_Ci l D cI cZ ad mtR yX10_isBox cX10_isBox 2 (some .boolean) 1 [.ref (ad 0), .int a1] M v9 M9 := by
  refine gq_introI (own := RX10) (by decide) rfl (Nat.le_of_ble_eq_true rfl) ?_
  intro p e s m below meth c hC hr
  refine g_cast (L2 := [(0, .ref (ad 0)), (1, .int a1)]) ?_ rfl rfl rfl rfl
  unfold f_X10_isBox at h
  refine g_iload_n hC 1 rfl rfl dX10_isBox_0 ?_
  refine g_iconst (v := 0) hC (by decide) dX10_isBox_1 ?_
  refine g_aload_n hC 0 rfl rfl dX10_isBox_2 ?_
  refine g_getI hC fF_X10_167 lkR_0_16 dX10_isBox_3 ?_
  refine g_iconst (v := 1) hC (by decide) dX10_isBox_6 ?_
  refine g_isub hC dX10_isBox_7 ?_
  obtain ⟨v1, M2, c3, h⟩ := gq_b_i h
  refine g_Si (as := [.int a1, .int 0, .int ((M 0 16) - 1)]) hC (t_X10_isIn N _ _ _ _ _ _ c3) mS_X10_isIn wm_X10_163 rfl rfl (Nat.le_of_ble_eq_true rfl) ⟨by decide, by decide⟩ ⟨by decide, by decide⟩ dX10_isBox_8 ?_
  obtain ⟨g4, h⟩ := gq_g_i h
  exact g_zrets hC hr (gq_bb_i g4) h dX10_isBox_11
def f_X10_quota_46 (N : Nat) (x1 : Int32) (x2 : Int32) (x3 : Int32) (s1 : Int32) (M : gq_M) : Option (Int32 × gq_M) :=
  gq_b (f_X10_fails N s1 M) fun v14 M15 => if v14 = 0 then (gq_g (gq_in ((4 * x1) + x2) 32) (gq_l (M15 1 (((4 * x1) + x2) : Int32).toNatClampNeg) fun v19 => gq_g (gq_in ((4 * x1) + x2) 32) (gq_l (gq_up M15 1 (((4 * x1) + x2) : Int32).toNatClampNeg x3) fun M21 => some (v19, M21)))) else (some (0, M15))
set_option maxHeartbeats 1000000 in
set_option maxRecDepth 20000 in
theorem t_X10_quota_46 {N : Nat} {v9 : Int32} {M9 : gq_M} (hC : gq_C p s m args meth c D A cI cZ ad mtR RX10 cX10_quota 6) (hr : meth.sig.returnType = (some .int))   : ∀ (x1 : Int32) (x2 : Int32) (x3 : Int32) (s1 : Int32) (M : gq_M), f_X10_quota_46 N  x1 x2 x3 s1 M = some (v9, M9) → gq_W p l e (gq_rm 2) s m args below meth c D A cI cZ ad mtR 6 (MQ below (gq_Qi D cI cZ ad mtR v9 M9 A) args s 0 0 A) 46 [(0, .ref (ad 0)), (1, .int x1), (2, .int x2), (3, .int x3)] [.int s1, .ref (ad 0)] M 0 0 := by
  intro x1 x2 x3 s1 M h
  unfold f_X10_quota_46 at h
  obtain ⟨v14, M15, c16, h⟩ := gq_b_i h
  refine g_Vi (as := [.int s1]) hC (t_X10_fails N _ _ _ _ c16) mV_X10_fails  wm_X10_178 obR_0 rfl rfl (Nat.le_of_ble_eq_true rfl) ⟨by decide, by decide⟩ ⟨by decide, by decide⟩ dX10_quota_46 ?_
  refine g_if_eq (tgt := 54) hC (by decide) dX10_quota_49 (fun c17 => ?_) (fun c17 => ?_)
  · replace h := gq_t c17 h
    refine g_aload_n hC 0 rfl rfl dX10_quota_54 ?_
    refine g_getR hC fF_X10_13 lkR_0_4 dX10_quota_55 ?_
    refine g_iconst (v := 4) hC (by decide) dX10_quota_58 ?_
    refine g_iload_n hC 1 rfl rfl dX10_quota_59 ?_
    refine g_imul hC dX10_quota_60 ?_
    refine g_iload_n hC 2 rfl rfl dX10_quota_61 ?_
    refine g_iadd hC dX10_quota_62 ?_
    obtain ⟨g18, h⟩ := gq_g_i h
    refine g_iald hC arR_1 (gq_in_i g18) dX10_quota_63 ?_
    refine g_topi (fun v19 hv19 => ?_)
    replace h := gq_l_i hv19 h
    refine g_istore (L2 := [(5, .int v19), (0, .ref (ad 0)), (1, .int x1), (2, .int x2), (3, .int x3)]) hC (by decide) rfl dX10_quota_64 ?_
    refine g_aload_n hC 1 rfl rfl dX10_quota_66 ?_
    refine g_getR hC fF_X10_13 lkR_0_4 dX10_quota_67 ?_
    refine g_iconst (v := 4) hC (by decide) dX10_quota_70 ?_
    refine g_iload_n hC 2 rfl rfl dX10_quota_71 ?_
    refine g_imul hC dX10_quota_72 ?_
    refine g_iload_n hC 3 rfl rfl dX10_quota_73 ?_
    refine g_iadd hC dX10_quota_74 ?_
    refine g_iload_n hC 4 rfl rfl dX10_quota_75 ?_
    obtain ⟨g20, h⟩ := gq_g_i h
    refine g_iast hC arR_1 (gq_in_i g20) dX10_quota_76 ?_
    refine g_topM (fun M21 hM21 => ?_)
    replace h := gq_l_i hM21 h
    refine g_iload hC 0 rfl dX10_quota_77 ?_
    exact g_irets hC hr h dX10_quota_79
  · replace h := gq_f c17 h
    refine g_iconst (v := 0) hC (by decide) dX10_quota_52 ?_
    exact g_irets hC hr h dX10_quota_53
def f_X10_quota_19 (N : Nat) (x1 : Int32) (x2 : Int32) (x3 : Int32) (s0 : Int32) (M : gq_M) : Option (Int32 × gq_M) :=
  if s0 = 0 then (f_X10_quota_46 N  x1 x2 x3 1 M) else (gq_b (f_X10_isIn N x3 0 100000 M) fun v10 M11 => if v10 = 0 then (f_X10_quota_46 N  x1 x2 x3 2 M11) else (f_X10_quota_46 N  x1 x2 x3 0 M11))
set_option maxHeartbeats 1000000 in
set_option maxRecDepth 20000 in
theorem t_X10_quota_19 {N : Nat} {v9 : Int32} {M9 : gq_M} (hC : gq_C p s m args meth c D A cI cZ ad mtR RX10 cX10_quota 6) (hr : meth.sig.returnType = (some .int))   : ∀ (x1 : Int32) (x2 : Int32) (x3 : Int32) (s0 : Int32) (M : gq_M), f_X10_quota_19 N  x1 x2 x3 s0 M = some (v9, M9) → gq_W p l e (gq_rm 2) s m args below meth c D A cI cZ ad mtR 6 (MQ below (gq_Qi D cI cZ ad mtR v9 M9 A) args s 0 0 A) 19 [(0, .ref (ad 0)), (1, .int x1), (2, .int x2), (3, .int x3)] [.int s0] M 0 0 := by
  intro x1 x2 x3 s0 M h
  unfold f_X10_quota_19 at h
  refine g_istore (L2 := [(4, .int s0), (0, .ref (ad 0)), (1, .int x1), (2, .int x2), (3, .int x3)]) hC (by decide) rfl dX10_quota_19 ?_
  refine g_aload_n hC 1 rfl rfl dX10_quota_21 ?_
  refine g_iload hC 0 rfl dX10_quota_22 ?_
  refine g_if_ne (tgt := 31) hC (by decide) dX10_quota_24 (fun c9 => ?_) (fun c9 => ?_)
  · replace h := gq_f c9 h
    refine g_iload_n hC 4 rfl rfl dX10_quota_31 ?_
    refine g_iconst (v := 0) hC (by decide) dX10_quota_32 ?_
    refine g_ldc (v := 100000) hC wk_X10_177 dX10_quota_33 ?_
    obtain ⟨v10, M11, c12, h⟩ := gq_b_i h
    refine g_Si (as := [.int x3, .int 0, .int 100000]) hC (t_X10_isIn N _ _ _ _ _ _ c12) mS_X10_isIn wm_X10_163 rfl rfl (Nat.le_of_ble_eq_true rfl) ⟨by decide, by decide⟩ ⟨by decide, by decide⟩ dX10_quota_35 ?_
    refine g_if_eq (tgt := 45) hC (by decide) dX10_quota_38 (fun c13 => ?_) (fun c13 => ?_)
    · replace h := gq_t c13 h
      refine g_iconst (v := 2) hC (by decide) dX10_quota_45 ?_
      exact g_weak [1, 2, 3, 4] rfl (t_X10_quota_46 hC hr  x1 x2 x3 2 M11 h)
    · replace h := gq_f c13 h
      refine g_iconst (v := 0) hC (by decide) dX10_quota_41 ?_
      refine g_goto (tgt := 46) hC (by decide) dX10_quota_42 ?_
      exact g_weak [1, 2, 3, 4] rfl (t_X10_quota_46 hC hr  x1 x2 x3 0 M11 h)
  · replace h := gq_t c9 h
    refine g_iconst (v := 1) hC (by decide) dX10_quota_27 ?_
    refine g_goto (tgt := 46) hC (by decide) dX10_quota_28 ?_
    exact g_weak [1, 2, 3, 4] rfl (t_X10_quota_46 hC hr  x1 x2 x3 1 M h)
def f_X10_quota_18 (N : Nat) (x1 : Int32) (x2 : Int32) (x3 : Int32) (M : gq_M) : Option (Int32 × gq_M) :=
  f_X10_quota_19 N  x1 x2 x3 0 M
set_option maxHeartbeats 1000000 in
set_option maxRecDepth 20000 in
theorem t_X10_quota_18 {N : Nat} {v9 : Int32} {M9 : gq_M} (hC : gq_C p s m args meth c D A cI cZ ad mtR RX10 cX10_quota 6) (hr : meth.sig.returnType = (some .int))   : ∀ (x1 : Int32) (x2 : Int32) (x3 : Int32) (M : gq_M), f_X10_quota_18 N  x1 x2 x3 M = some (v9, M9) → gq_W p l e (gq_rm 2) s m args below meth c D A cI cZ ad mtR 6 (MQ below (gq_Qi D cI cZ ad mtR v9 M9 A) args s 0 0 A) 18 [(0, .ref (ad 0)), (1, .int x1), (2, .int x2), (3, .int x3)] [] M 0 0 := by
  intro x1 x2 x3 M h
  unfold f_X10_quota_18 at h
  refine g_iconst (v := 0) hC (by decide) dX10_quota_18 ?_
  exact g_weak [0, 1, 2, 3] rfl (t_X10_quota_19 hC hr  x1 x2 x3 0 M h)
def f_X10_quota (N : Nat) (a1 : Int32) (a2 : Int32) (a3 : Int32) (M : gq_M) : Option (Int32 × gq_M) :=
  gq_b (f_X10_isEight N a1 M) fun v1 M2 => if v1 = 0 then (f_X10_quota_18 N  a1 a2 a3 M2) else (gq_b (f_X10_isKind N a2 M2) fun v5 M6 => if v5 = 0 then (f_X10_quota_18 N  a1 a2 a3 M6) else (f_X10_quota_19 N  a1 a2 a3 1 M6))
set_option maxHeartbeats 1000000 in
set_option maxRecDepth 20000 in
theorem t_X10_quota {l : Launch} {D : va_G} {cI cZ : ClassId} {ad : Nat → Nat} (N : Nat) (a1 : Int32) (a2 : Int32) (a3 : Int32) (M : gq_M) (v9 : Int32) (M9 : gq_M) (h : f_X10_quota N a1 a2 a3 M = some (v9, M9)) : gq_Ci l D cI cZ ad mtR yX10_quota cX10_quota 6 (some .int) 2 [.ref (ad 0), .int a1, .int a2, .int a3] M v9 M9 := by
  refine gq_introI (own := RX10) (by decide) rfl (Nat.le_of_ble_eq_true rfl) ?_
  intro p e s m below meth c hC hr
  refine g_cast (L2 := [(0, .ref (ad 0)), (1, .int a1), (2, .int a2), (3, .int a3)]) ?_ rfl rfl rfl rfl
  unfold f_X10_quota at h
  refine g_iload_n hC 1 rfl rfl dX10_quota_0 ?_
  obtain ⟨v1, M2, c3, h⟩ := gq_b_i h
  refine g_Si (as := [.int a1]) hC (t_X10_isEight N _ _ _ _ c3) mS_X10_isEight wm_X10_170 rfl rfl (Nat.le_of_ble_eq_true rfl) ⟨by decide, by decide⟩ ⟨by decide, by decide⟩ dX10_quota_1 ?_
  refine g_if_eq (tgt := 18) hC (by decide) dX10_quota_4 (fun c4 => ?_) (fun c4 => ?_)
  · replace h := gq_t c4 h
    exact g_weak [0, 1, 2, 3] rfl (t_X10_quota_18 hC hr  a1 a2 a3 M2 h)
  · replace h := gq_f c4 h
    refine g_iload_n hC 2 rfl rfl dX10_quota_7 ?_
    obtain ⟨v5, M6, c7, h⟩ := gq_b_i h
    refine g_Si (as := [.int a2]) hC (t_X10_isKind N _ _ _ _ c7) mS_X10_isKind wm_X10_174 rfl rfl (Nat.le_of_ble_eq_true rfl) ⟨by decide, by decide⟩ ⟨by decide, by decide⟩ dX10_quota_8 ?_
    refine g_if_eq (tgt := 18) hC (by decide) dX10_quota_11 (fun c8 => ?_) (fun c8 => ?_)
    · replace h := gq_t c8 h
      exact g_weak [0, 1, 2, 3] rfl (t_X10_quota_18 hC hr  a1 a2 a3 M6 h)
    · replace h := gq_f c8 h
      refine g_iconst (v := 1) hC (by decide) dX10_quota_14 ?_
      refine g_goto (tgt := 19) hC (by decide) dX10_quota_15 ?_
      exact g_weak [0, 1, 2, 3] rfl (t_X10_quota_19 hC hr  a1 a2 a3 1 M6 h)
def f_X10_aid_27 (N : Nat) (x1 : Int32) (x2 : Int32) (x3 : Int32) (s1 : Int32) (M : gq_M) : Option (Int32 × gq_M) :=
  gq_b (f_X10_fails N s1 M) fun v9 M10 => if v9 = 0 then (gq_g (gq_in x1 8) (gq_l (M10 3 x1.toNatClampNeg) fun v14 => gq_g (gq_in x1 8) (gq_l (gq_up M10 3 x1.toNatClampNeg x2) fun M16 => gq_g (gq_in x1 8) (gq_g (gq_bb x3) (gq_l (gq_up M16 4 x1.toNatClampNeg x3) fun M19 => some (v14, M19)))))) else (some (0, M10))
set_option maxHeartbeats 1000000 in
set_option maxRecDepth 20000 in
theorem t_X10_aid_27 {N : Nat} {v9 : Int32} {M9 : gq_M} (hC : gq_C p s m args meth c D A cI cZ ad mtR RX10 cX10_aid 5) (hr : meth.sig.returnType = (some .int))   : ∀ (x1 : Int32) (x2 : Int32) (x3 : Int32) (s1 : Int32) (M : gq_M), f_X10_aid_27 N  x1 x2 x3 s1 M = some (v9, M9) → gq_W p l e (gq_rm 2) s m args below meth c D A cI cZ ad mtR 5 (MQ below (gq_Qi D cI cZ ad mtR v9 M9 A) args s 0 0 A) 27 [(0, .ref (ad 0)), (1, .int x1), (2, .int x2), (3, .int x3)] [.int s1, .ref (ad 0)] M 0 0 := by
  intro x1 x2 x3 s1 M h
  unfold f_X10_aid_27 at h
  obtain ⟨v9, M10, c11, h⟩ := gq_b_i h
  refine g_Vi (as := [.int s1]) hC (t_X10_fails N _ _ _ _ c11) mV_X10_fails  wm_X10_178 obR_0 rfl rfl (Nat.le_of_ble_eq_true rfl) ⟨by decide, by decide⟩ ⟨by decide, by decide⟩ dX10_aid_27 ?_
  refine g_if_eq (tgt := 35) hC (by decide) dX10_aid_30 (fun c12 => ?_) (fun c12 => ?_)
  · replace h := gq_t c12 h
    refine g_aload_n hC 0 rfl rfl dX10_aid_35 ?_
    refine g_getR hC fF_X10_20 lkR_0_6 dX10_aid_36 ?_
    refine g_iload_n hC 1 rfl rfl dX10_aid_39 ?_
    obtain ⟨g13, h⟩ := gq_g_i h
    refine g_iald hC arR_3 (gq_in_i g13) dX10_aid_40 ?_
    refine g_topi (fun v14 hv14 => ?_)
    replace h := gq_l_i hv14 h
    refine g_istore (L2 := [(4, .int v14), (0, .ref (ad 0)), (1, .int x1), (2, .int x2), (3, .int x3)]) hC (by decide) rfl dX10_aid_41 ?_
    refine g_aload_n hC 1 rfl rfl dX10_aid_43 ?_
    refine g_getR hC fF_X10_20 lkR_0_6 dX10_aid_44 ?_
    refine g_iload_n hC 2 rfl rfl dX10_aid_47 ?_
    refine g_iload_n hC 3 rfl rfl dX10_aid_48 ?_
    obtain ⟨g15, h⟩ := gq_g_i h
    refine g_iast hC arR_3 (gq_in_i g15) dX10_aid_49 ?_
    refine g_topM (fun M16 hM16 => ?_)
    replace h := gq_l_i hM16 h
    refine g_aload_n hC 1 rfl rfl dX10_aid_50 ?_
    refine g_getR hC fF_X10_23 lkR_0_7 dX10_aid_51 ?_
    refine g_iload_n hC 2 rfl rfl dX10_aid_54 ?_
    refine g_iload_n hC 4 rfl rfl dX10_aid_55 ?_
    obtain ⟨g17, h⟩ := gq_g_i h
    obtain ⟨g18, h⟩ := gq_g_i h
    refine g_zast hC arR_4 (gq_in_i g17) (gq_bb_i g18) dX10_aid_56 ?_
    refine g_topM (fun M19 hM19 => ?_)
    replace h := gq_l_i hM19 h
    refine g_iload hC 0 rfl dX10_aid_57 ?_
    exact g_irets hC hr h dX10_aid_59
  · replace h := gq_f c12 h
    refine g_iconst (v := 0) hC (by decide) dX10_aid_33 ?_
    exact g_irets hC hr h dX10_aid_34
def f_X10_aid (N : Nat) (a1 : Int32) (a2 : Int32) (a3 : Int32) (M : gq_M) : Option (Int32 × gq_M) :=
  gq_b (f_X10_isEight N a1 M) fun v1 M2 => if v1 = 0 then (f_X10_aid_27 N  a1 a2 a3 1 M2) else (gq_b (f_X10_isIn N a2 0 100000 M2) fun v5 M6 => if v5 = 0 then (f_X10_aid_27 N  a1 a2 a3 2 M6) else (f_X10_aid_27 N  a1 a2 a3 0 M6))
set_option maxHeartbeats 1000000 in
set_option maxRecDepth 20000 in
theorem t_X10_aid {l : Launch} {D : va_G} {cI cZ : ClassId} {ad : Nat → Nat} (N : Nat) (a1 : Int32) (a2 : Int32) (a3 : Int32) (M : gq_M) (v9 : Int32) (M9 : gq_M) (h : f_X10_aid N a1 a2 a3 M = some (v9, M9)) : gq_Ci l D cI cZ ad mtR yX10_aid cX10_aid 5 (some .int) 2 [.ref (ad 0), .int a1, .int a2, .int a3] M v9 M9 := by
  refine gq_introI (own := RX10) (by decide) rfl (Nat.le_of_ble_eq_true rfl) ?_
  intro p e s m below meth c hC hr
  refine g_cast (L2 := [(0, .ref (ad 0)), (1, .int a1), (2, .int a2), (3, .int a3)]) ?_ rfl rfl rfl rfl
  unfold f_X10_aid at h
  refine g_aload_n hC 0 rfl rfl dX10_aid_0 ?_
  refine g_iload_n hC 1 rfl rfl dX10_aid_1 ?_
  obtain ⟨v1, M2, c3, h⟩ := gq_b_i h
  refine g_Si (as := [.int a1]) hC (t_X10_isEight N _ _ _ _ c3) mS_X10_isEight wm_X10_170 rfl rfl (Nat.le_of_ble_eq_true rfl) ⟨by decide, by decide⟩ ⟨by decide, by decide⟩ dX10_aid_2 ?_
  refine g_if_ne (tgt := 12) hC (by decide) dX10_aid_5 (fun c4 => ?_) (fun c4 => ?_)
  · replace h := gq_f c4 h
    refine g_iload_n hC 2 rfl rfl dX10_aid_12 ?_
    refine g_iconst (v := 0) hC (by decide) dX10_aid_13 ?_
    refine g_ldc (v := 100000) hC wk_X10_177 dX10_aid_14 ?_
    obtain ⟨v5, M6, c7, h⟩ := gq_b_i h
    refine g_Si (as := [.int a2, .int 0, .int 100000]) hC (t_X10_isIn N _ _ _ _ _ _ c7) mS_X10_isIn wm_X10_163 rfl rfl (Nat.le_of_ble_eq_true rfl) ⟨by decide, by decide⟩ ⟨by decide, by decide⟩ dX10_aid_16 ?_
    refine g_if_eq (tgt := 26) hC (by decide) dX10_aid_19 (fun c8 => ?_) (fun c8 => ?_)
    · replace h := gq_t c8 h
      refine g_iconst (v := 2) hC (by decide) dX10_aid_26 ?_
      exact g_weak [0, 1, 2, 3] rfl (t_X10_aid_27 hC hr  a1 a2 a3 2 M6 h)
    · replace h := gq_f c8 h
      refine g_iconst (v := 0) hC (by decide) dX10_aid_22 ?_
      refine g_goto (tgt := 27) hC (by decide) dX10_aid_23 ?_
      exact g_weak [0, 1, 2, 3] rfl (t_X10_aid_27 hC hr  a1 a2 a3 0 M6 h)
  · replace h := gq_t c4 h
    refine g_iconst (v := 1) hC (by decide) dX10_aid_8 ?_
    refine g_goto (tgt := 27) hC (by decide) dX10_aid_9 ?_
    exact g_weak [0, 1, 2, 3] rfl (t_X10_aid_27 hC hr  a1 a2 a3 1 M2 h)
def f_X10_kind_71 (N : Nat) (x1 : Int32) (x2 : Int32) (x3 : Int32) (x4 : Int32) (s1 : Int32) (M : gq_M) : Option (Int32 × gq_M) :=
  gq_b (f_X10_fails N s1 M) fun v19 M20 => if v19 = 0 then (gq_g (gq_in x1 4) (gq_l (gq_up M20 6 x1.toNatClampNeg x2) fun M24 => gq_g (gq_in x1 4) (gq_l (gq_up M24 7 x1.toNatClampNeg x3) fun M26 => gq_g (gq_in x1 4) (gq_l (gq_up M26 8 x1.toNatClampNeg x4) fun M28 => some (0, M28))))) else (some (0, M20))
set_option maxHeartbeats 1000000 in
set_option maxRecDepth 20000 in
theorem t_X10_kind_71 {N : Nat} {v9 : Int32} {M9 : gq_M} (hC : gq_C p s m args meth c D A cI cZ ad mtR RX10 cX10_kind 7) (hr : meth.sig.returnType = none)   : ∀ (x1 : Int32) (x2 : Int32) (x3 : Int32) (x4 : Int32) (s1 : Int32) (M : gq_M), f_X10_kind_71 N  x1 x2 x3 x4 s1 M = some (v9, M9) → gq_W p l e (gq_rm 2) s m args below meth c D A cI cZ ad mtR 7 (MQ below (gq_Qv D cI cZ ad mtR M9 A) args s 0 0 A) 71 [(0, .ref (ad 0)), (1, .int x1), (2, .int x2), (3, .int x3), (4, .int x4)] [.int s1, .ref (ad 0)] M 0 0 := by
  intro x1 x2 x3 x4 s1 M h
  unfold f_X10_kind_71 at h
  obtain ⟨v19, M20, c21, h⟩ := gq_b_i h
  refine g_Vi (as := [.int s1]) hC (t_X10_fails N _ _ _ _ c21) mV_X10_fails  wm_X10_178 obR_0 rfl rfl (Nat.le_of_ble_eq_true rfl) ⟨by decide, by decide⟩ ⟨by decide, by decide⟩ dX10_kind_71 ?_
  refine g_if_ne (tgt := 99) hC (by decide) dX10_kind_74 (fun c22 => ?_) (fun c22 => ?_)
  · replace h := gq_f c22 h
    exact g_vrets hC hr h dX10_kind_99
  · replace h := gq_t c22 h
    refine g_aload_n hC 0 rfl rfl dX10_kind_77 ?_
    refine g_getR hC fF_X10_30 lkR_0_9 dX10_kind_78 ?_
    refine g_iload_n hC 1 rfl rfl dX10_kind_81 ?_
    refine g_iload_n hC 2 rfl rfl dX10_kind_82 ?_
    obtain ⟨g23, h⟩ := gq_g_i h
    refine g_iast hC arR_6 (gq_in_i g23) dX10_kind_83 ?_
    refine g_topM (fun M24 hM24 => ?_)
    replace h := gq_l_i hM24 h
    refine g_aload_n hC 0 rfl rfl dX10_kind_84 ?_
    refine g_getR hC fF_X10_33 lkR_0_10 dX10_kind_85 ?_
    refine g_iload_n hC 1 rfl rfl dX10_kind_88 ?_
    refine g_iload_n hC 3 rfl rfl dX10_kind_89 ?_
    obtain ⟨g25, h⟩ := gq_g_i h
    refine g_iast hC arR_7 (gq_in_i g25) dX10_kind_90 ?_
    refine g_topM (fun M26 hM26 => ?_)
    replace h := gq_l_i hM26 h
    refine g_aload_n hC 0 rfl rfl dX10_kind_91 ?_
    refine g_getR hC fF_X10_36 lkR_0_11 dX10_kind_92 ?_
    refine g_iload_n hC 1 rfl rfl dX10_kind_95 ?_
    refine g_iload hC 4 rfl dX10_kind_96 ?_
    obtain ⟨g27, h⟩ := gq_g_i h
    refine g_iast hC arR_8 (gq_in_i g27) dX10_kind_98 ?_
    refine g_topM (fun M28 hM28 => ?_)
    replace h := gq_l_i hM28 h
    exact g_vrets hC hr h dX10_kind_99
def f_X10_kind_49 (N : Nat) (x1 : Int32) (x2 : Int32) (x3 : Int32) (x4 : Int32) (x5 : Int32) (s0 : Int32) (M : gq_M) : Option (Int32 × gq_M) :=
  if x5 = 0 then (f_X10_kind_71 N  x1 x2 x3 x4 1 M) else (if s0 = 0 then (f_X10_kind_71 N  x1 x2 x3 x4 2 M) else (f_X10_kind_71 N  x1 x2 x3 x4 0 M))
set_option maxHeartbeats 1000000 in
set_option maxRecDepth 20000 in
theorem t_X10_kind_49 {N : Nat} {v9 : Int32} {M9 : gq_M} (hC : gq_C p s m args meth c D A cI cZ ad mtR RX10 cX10_kind 7) (hr : meth.sig.returnType = none)   : ∀ (x1 : Int32) (x2 : Int32) (x3 : Int32) (x4 : Int32) (x5 : Int32) (s0 : Int32) (M : gq_M), f_X10_kind_49 N  x1 x2 x3 x4 x5 s0 M = some (v9, M9) → gq_W p l e (gq_rm 2) s m args below meth c D A cI cZ ad mtR 7 (MQ below (gq_Qv D cI cZ ad mtR M9 A) args s 0 0 A) 49 [(0, .ref (ad 0)), (1, .int x1), (2, .int x2), (3, .int x3), (4, .int x4), (5, .int x5)] [.int s0] M 0 0 := by
  intro x1 x2 x3 x4 x5 s0 M h
  unfold f_X10_kind_49 at h
  refine g_istore (L2 := [(6, .int s0), (0, .ref (ad 0)), (1, .int x1), (2, .int x2), (3, .int x3), (4, .int x4), (5, .int x5)]) hC (by decide) rfl dX10_kind_49 ?_
  refine g_aload_n hC 1 rfl rfl dX10_kind_51 ?_
  refine g_iload hC 6 rfl dX10_kind_52 ?_
  refine g_if_ne (tgt := 61) hC (by decide) dX10_kind_54 (fun c17 => ?_) (fun c17 => ?_)
  · replace h := gq_f c17 h
    refine g_iload hC 0 rfl dX10_kind_61 ?_
    refine g_if_eq (tgt := 70) hC (by decide) dX10_kind_63 (fun c18 => ?_) (fun c18 => ?_)
    · replace h := gq_t c18 h
      refine g_iconst (v := 2) hC (by decide) dX10_kind_70 ?_
      exact g_weak [1, 2, 3, 4, 5] rfl (t_X10_kind_71 hC hr  x1 x2 x3 x4 2 M h)
    · replace h := gq_f c18 h
      refine g_iconst (v := 0) hC (by decide) dX10_kind_66 ?_
      refine g_goto (tgt := 71) hC (by decide) dX10_kind_67 ?_
      exact g_weak [1, 2, 3, 4, 5] rfl (t_X10_kind_71 hC hr  x1 x2 x3 x4 0 M h)
  · replace h := gq_t c17 h
    refine g_iconst (v := 1) hC (by decide) dX10_kind_57 ?_
    refine g_goto (tgt := 71) hC (by decide) dX10_kind_58 ?_
    exact g_weak [1, 2, 3, 4, 5] rfl (t_X10_kind_71 hC hr  x1 x2 x3 x4 1 M h)
def f_X10_kind_48 (N : Nat) (x1 : Int32) (x2 : Int32) (x3 : Int32) (x4 : Int32) (x5 : Int32) (M : gq_M) : Option (Int32 × gq_M) :=
  f_X10_kind_49 N  x1 x2 x3 x4 x5 0 M
set_option maxHeartbeats 1000000 in
set_option maxRecDepth 20000 in
theorem t_X10_kind_48 {N : Nat} {v9 : Int32} {M9 : gq_M} (hC : gq_C p s m args meth c D A cI cZ ad mtR RX10 cX10_kind 7) (hr : meth.sig.returnType = none)   : ∀ (x1 : Int32) (x2 : Int32) (x3 : Int32) (x4 : Int32) (x5 : Int32) (M : gq_M), f_X10_kind_48 N  x1 x2 x3 x4 x5 M = some (v9, M9) → gq_W p l e (gq_rm 2) s m args below meth c D A cI cZ ad mtR 7 (MQ below (gq_Qv D cI cZ ad mtR M9 A) args s 0 0 A) 48 [(0, .ref (ad 0)), (1, .int x1), (2, .int x2), (3, .int x3), (4, .int x4), (5, .int x5)] [] M 0 0 := by
  intro x1 x2 x3 x4 x5 M h
  unfold f_X10_kind_48 at h
  refine g_iconst (v := 0) hC (by decide) dX10_kind_48 ?_
  exact g_weak [0, 1, 2, 3, 4, 5] rfl (t_X10_kind_49 hC hr  x1 x2 x3 x4 x5 0 M h)
def f_X10_kind_20 (N : Nat) (x1 : Int32) (x2 : Int32) (x3 : Int32) (x4 : Int32) (s0 : Int32) (M : gq_M) : Option (Int32 × gq_M) :=
  gq_b (f_X10_isIn N x2 1 10000 M) fun v9 M10 => if v9 = 0 then (f_X10_kind_48 N  x1 x2 x3 x4 s0 M10) else (gq_b (f_X10_isIn N x3 1 10000 M10) fun v13 M14 => if v13 = 0 then (f_X10_kind_48 N  x1 x2 x3 x4 s0 M14) else (f_X10_kind_49 N  x1 x2 x3 x4 s0 1 M14))
set_option maxHeartbeats 1000000 in
set_option maxRecDepth 20000 in
theorem t_X10_kind_20 {N : Nat} {v9 : Int32} {M9 : gq_M} (hC : gq_C p s m args meth c D A cI cZ ad mtR RX10 cX10_kind 7) (hr : meth.sig.returnType = none)   : ∀ (x1 : Int32) (x2 : Int32) (x3 : Int32) (x4 : Int32) (s0 : Int32) (M : gq_M), f_X10_kind_20 N  x1 x2 x3 x4 s0 M = some (v9, M9) → gq_W p l e (gq_rm 2) s m args below meth c D A cI cZ ad mtR 7 (MQ below (gq_Qv D cI cZ ad mtR M9 A) args s 0 0 A) 20 [(0, .ref (ad 0)), (1, .int x1), (2, .int x2), (3, .int x3), (4, .int x4)] [.int s0] M 0 0 := by
  intro x1 x2 x3 x4 s0 M h
  unfold f_X10_kind_20 at h
  refine g_istore (L2 := [(5, .int s0), (0, .ref (ad 0)), (1, .int x1), (2, .int x2), (3, .int x3), (4, .int x4)]) hC (by decide) rfl dX10_kind_20 ?_
  refine g_iload_n hC 3 rfl rfl dX10_kind_22 ?_
  refine g_iconst (v := 1) hC (by decide) dX10_kind_23 ?_
  refine g_sipush (v := 10000) hC (by decide) dX10_kind_24 ?_
  obtain ⟨v9, M10, c11, h⟩ := gq_b_i h
  refine g_Si (as := [.int x2, .int 1, .int 10000]) hC (t_X10_isIn N _ _ _ _ _ _ c11) mS_X10_isIn wm_X10_163 rfl rfl (Nat.le_of_ble_eq_true rfl) ⟨by decide, by decide⟩ ⟨by decide, by decide⟩ dX10_kind_27 ?_
  refine g_if_eq (tgt := 48) hC (by decide) dX10_kind_30 (fun c12 => ?_) (fun c12 => ?_)
  · replace h := gq_t c12 h
    exact g_weak [1, 2, 3, 4, 5, 0] rfl (t_X10_kind_48 hC hr  x1 x2 x3 x4 s0 M10 h)
  · replace h := gq_f c12 h
    refine g_iload_n hC 4 rfl rfl dX10_kind_33 ?_
    refine g_iconst (v := 1) hC (by decide) dX10_kind_34 ?_
    refine g_sipush (v := 10000) hC (by decide) dX10_kind_35 ?_
    obtain ⟨v13, M14, c15, h⟩ := gq_b_i h
    refine g_Si (as := [.int x3, .int 1, .int 10000]) hC (t_X10_isIn N _ _ _ _ _ _ c15) mS_X10_isIn wm_X10_163 rfl rfl (Nat.le_of_ble_eq_true rfl) ⟨by decide, by decide⟩ ⟨by decide, by decide⟩ dX10_kind_38 ?_
    refine g_if_eq (tgt := 48) hC (by decide) dX10_kind_41 (fun c16 => ?_) (fun c16 => ?_)
    · replace h := gq_t c16 h
      exact g_weak [1, 2, 3, 4, 5, 0] rfl (t_X10_kind_48 hC hr  x1 x2 x3 x4 s0 M14 h)
    · replace h := gq_f c16 h
      refine g_iconst (v := 1) hC (by decide) dX10_kind_44 ?_
      refine g_goto (tgt := 49) hC (by decide) dX10_kind_45 ?_
      exact g_weak [1, 2, 3, 4, 5, 0] rfl (t_X10_kind_49 hC hr  x1 x2 x3 x4 s0 1 M14 h)
def f_X10_kind_19 (N : Nat) (x1 : Int32) (x2 : Int32) (x3 : Int32) (x4 : Int32) (M : gq_M) : Option (Int32 × gq_M) :=
  f_X10_kind_20 N  x1 x2 x3 x4 0 M
set_option maxHeartbeats 1000000 in
set_option maxRecDepth 20000 in
theorem t_X10_kind_19 {N : Nat} {v9 : Int32} {M9 : gq_M} (hC : gq_C p s m args meth c D A cI cZ ad mtR RX10 cX10_kind 7) (hr : meth.sig.returnType = none)   : ∀ (x1 : Int32) (x2 : Int32) (x3 : Int32) (x4 : Int32) (M : gq_M), f_X10_kind_19 N  x1 x2 x3 x4 M = some (v9, M9) → gq_W p l e (gq_rm 2) s m args below meth c D A cI cZ ad mtR 7 (MQ below (gq_Qv D cI cZ ad mtR M9 A) args s 0 0 A) 19 [(0, .ref (ad 0)), (1, .int x1), (2, .int x2), (3, .int x3), (4, .int x4)] [] M 0 0 := by
  intro x1 x2 x3 x4 M h
  unfold f_X10_kind_19 at h
  refine g_iconst (v := 0) hC (by decide) dX10_kind_19 ?_
  exact g_weak [0, 1, 2, 3, 4] rfl (t_X10_kind_20 hC hr  x1 x2 x3 x4 0 M h)
def f_X10_kind (N : Nat) (a1 : Int32) (a2 : Int32) (a3 : Int32) (a4 : Int32) (M : gq_M) : Option (Int32 × gq_M) :=
  gq_b (f_X10_isKind N a1 M) fun v1 M2 => if v1 = 0 then (f_X10_kind_19 N  a1 a2 a3 a4 M2) else (gq_b (f_X10_isHall N a4 M2) fun v5 M6 => if v5 = 0 then (f_X10_kind_19 N  a1 a2 a3 a4 M6) else (f_X10_kind_20 N  a1 a2 a3 a4 1 M6))
set_option maxHeartbeats 1000000 in
set_option maxRecDepth 20000 in
theorem t_X10_kind {l : Launch} {D : va_G} {cI cZ : ClassId} {ad : Nat → Nat} (N : Nat) (a1 : Int32) (a2 : Int32) (a3 : Int32) (a4 : Int32) (M : gq_M) (v9 : Int32) (M9 : gq_M) (h : f_X10_kind N a1 a2 a3 a4 M = some (v9, M9)) : gq_Cv l D cI cZ ad mtR yX10_kind cX10_kind 7 2 [.ref (ad 0), .int a1, .int a2, .int a3, .int a4] M M9 := by
  refine gq_introV (own := RX10) (by decide) rfl (Nat.le_of_ble_eq_true rfl) ?_
  intro p e s m below meth c hC hr
  refine g_cast (L2 := [(0, .ref (ad 0)), (1, .int a1), (2, .int a2), (3, .int a3), (4, .int a4)]) ?_ rfl rfl rfl rfl
  unfold f_X10_kind at h
  refine g_iload_n hC 1 rfl rfl dX10_kind_0 ?_
  obtain ⟨v1, M2, c3, h⟩ := gq_b_i h
  refine g_Si (as := [.int a1]) hC (t_X10_isKind N _ _ _ _ c3) mS_X10_isKind wm_X10_174 rfl rfl (Nat.le_of_ble_eq_true rfl) ⟨by decide, by decide⟩ ⟨by decide, by decide⟩ dX10_kind_1 ?_
  refine g_if_eq (tgt := 19) hC (by decide) dX10_kind_4 (fun c4 => ?_) (fun c4 => ?_)
  · replace h := gq_t c4 h
    exact g_weak [0, 1, 2, 3, 4] rfl (t_X10_kind_19 hC hr  a1 a2 a3 a4 M2 h)
  · replace h := gq_f c4 h
    refine g_iload hC 4 rfl dX10_kind_7 ?_
    obtain ⟨v5, M6, c7, h⟩ := gq_b_i h
    refine g_Si (as := [.int a4]) hC (t_X10_isHall N _ _ _ _ c7) mS_X10_isHall wm_X10_181 rfl rfl (Nat.le_of_ble_eq_true rfl) ⟨by decide, by decide⟩ ⟨by decide, by decide⟩ dX10_kind_9 ?_
    refine g_if_eq (tgt := 19) hC (by decide) dX10_kind_12 (fun c8 => ?_) (fun c8 => ?_)
    · replace h := gq_t c8 h
      exact g_weak [0, 1, 2, 3, 4] rfl (t_X10_kind_19 hC hr  a1 a2 a3 a4 M6 h)
    · replace h := gq_f c8 h
      refine g_iconst (v := 1) hC (by decide) dX10_kind_15 ?_
      refine g_goto (tgt := 20) hC (by decide) dX10_kind_16 ?_
      exact g_weak [0, 1, 2, 3, 4] rfl (t_X10_kind_20 hC hr  a1 a2 a3 a4 1 M6 h)
def f_X10_step_28 (N : Nat) (x1 : Int32) (x2 : Int32) (s1 : Int32) (M : gq_M) : Option (Int32 × gq_M) :=
  gq_b (f_X10_fails N s1 M) fun v9 M10 => if v9 = 0 then (gq_g (gq_in x1 3) (gq_l (M10 33 x1.toNatClampNeg) fun v14 => gq_g (gq_in x1 3) (gq_l (gq_up M10 33 x1.toNatClampNeg x2) fun M16 => some (v14, M16)))) else (some (0, M10))
set_option maxHeartbeats 1000000 in
set_option maxRecDepth 20000 in
theorem t_X10_step_28 {N : Nat} {v9 : Int32} {M9 : gq_M} (hC : gq_C p s m args meth c D A cI cZ ad mtR RX10 cX10_step 4) (hr : meth.sig.returnType = (some .int))   : ∀ (x1 : Int32) (x2 : Int32) (s1 : Int32) (M : gq_M), f_X10_step_28 N  x1 x2 s1 M = some (v9, M9) → gq_W p l e (gq_rm 2) s m args below meth c D A cI cZ ad mtR 4 (MQ below (gq_Qi D cI cZ ad mtR v9 M9 A) args s 0 0 A) 28 [(0, .ref (ad 0)), (1, .int x1), (2, .int x2)] [.int s1, .ref (ad 0)] M 0 0 := by
  intro x1 x2 s1 M h
  unfold f_X10_step_28 at h
  obtain ⟨v9, M10, c11, h⟩ := gq_b_i h
  refine g_Vi (as := [.int s1]) hC (t_X10_fails N _ _ _ _ c11) mV_X10_fails  wm_X10_178 obR_0 rfl rfl (Nat.le_of_ble_eq_true rfl) ⟨by decide, by decide⟩ ⟨by decide, by decide⟩ dX10_step_28 ?_
  refine g_if_eq (tgt := 36) hC (by decide) dX10_step_31 (fun c12 => ?_) (fun c12 => ?_)
  · replace h := gq_t c12 h
    refine g_aload_n hC 0 rfl rfl dX10_step_36 ?_
    refine g_getR hC fF_X10_111 lkR_0_38 dX10_step_37 ?_
    refine g_iload_n hC 1 rfl rfl dX10_step_40 ?_
    obtain ⟨g13, h⟩ := gq_g_i h
    refine g_iald hC arR_33 (gq_in_i g13) dX10_step_41 ?_
    refine g_topi (fun v14 hv14 => ?_)
    replace h := gq_l_i hv14 h
    refine g_istore_n (L2 := [(3, .int v14), (0, .ref (ad 0)), (1, .int x1), (2, .int x2)]) hC rfl (by decide) rfl dX10_step_42 ?_
    refine g_aload_n hC 1 rfl rfl dX10_step_43 ?_
    refine g_getR hC fF_X10_111 lkR_0_38 dX10_step_44 ?_
    refine g_iload_n hC 2 rfl rfl dX10_step_47 ?_
    refine g_iload_n hC 3 rfl rfl dX10_step_48 ?_
    obtain ⟨g15, h⟩ := gq_g_i h
    refine g_iast hC arR_33 (gq_in_i g15) dX10_step_49 ?_
    refine g_topM (fun M16 hM16 => ?_)
    replace h := gq_l_i hM16 h
    refine g_iload_n hC 0 rfl rfl dX10_step_50 ?_
    exact g_irets hC hr h dX10_step_51
  · replace h := gq_f c12 h
    refine g_iconst (v := 0) hC (by decide) dX10_step_34 ?_
    exact g_irets hC hr h dX10_step_35
def f_X10_step (N : Nat) (a1 : Int32) (a2 : Int32) (M : gq_M) : Option (Int32 × gq_M) :=
  gq_b (f_X10_isHall N a1 M) fun v1 M2 => if v1 = 0 then (f_X10_step_28 N  a1 a2 1 M2) else (gq_b (f_X10_isIn N a2 1 500 M2) fun v5 M6 => if v5 = 0 then (f_X10_step_28 N  a1 a2 2 M6) else (f_X10_step_28 N  a1 a2 0 M6))
set_option maxHeartbeats 1000000 in
set_option maxRecDepth 20000 in
theorem t_X10_step {l : Launch} {D : va_G} {cI cZ : ClassId} {ad : Nat → Nat} (N : Nat) (a1 : Int32) (a2 : Int32) (M : gq_M) (v9 : Int32) (M9 : gq_M) (h : f_X10_step N a1 a2 M = some (v9, M9)) : gq_Ci l D cI cZ ad mtR yX10_step cX10_step 4 (some .int) 2 [.ref (ad 0), .int a1, .int a2] M v9 M9 := by
  refine gq_introI (own := RX10) (by decide) rfl (Nat.le_of_ble_eq_true rfl) ?_
  intro p e s m below meth c hC hr
  refine g_cast (L2 := [(0, .ref (ad 0)), (1, .int a1), (2, .int a2)]) ?_ rfl rfl rfl rfl
  unfold f_X10_step at h
  refine g_aload_n hC 0 rfl rfl dX10_step_0 ?_
  refine g_iload_n hC 1 rfl rfl dX10_step_1 ?_
  obtain ⟨v1, M2, c3, h⟩ := gq_b_i h
  refine g_Si (as := [.int a1]) hC (t_X10_isHall N _ _ _ _ c3) mS_X10_isHall wm_X10_181 rfl rfl (Nat.le_of_ble_eq_true rfl) ⟨by decide, by decide⟩ ⟨by decide, by decide⟩ dX10_step_2 ?_
  refine g_if_ne (tgt := 12) hC (by decide) dX10_step_5 (fun c4 => ?_) (fun c4 => ?_)
  · replace h := gq_f c4 h
    refine g_iload_n hC 2 rfl rfl dX10_step_12 ?_
    refine g_iconst (v := 1) hC (by decide) dX10_step_13 ?_
    refine g_sipush (v := 500) hC (by decide) dX10_step_14 ?_
    obtain ⟨v5, M6, c7, h⟩ := gq_b_i h
    refine g_Si (as := [.int a2, .int 1, .int 500]) hC (t_X10_isIn N _ _ _ _ _ _ c7) mS_X10_isIn wm_X10_163 rfl rfl (Nat.le_of_ble_eq_true rfl) ⟨by decide, by decide⟩ ⟨by decide, by decide⟩ dX10_step_17 ?_
    refine g_if_eq (tgt := 27) hC (by decide) dX10_step_20 (fun c8 => ?_) (fun c8 => ?_)
    · replace h := gq_t c8 h
      refine g_iconst (v := 2) hC (by decide) dX10_step_27 ?_
      exact g_weak [0, 1, 2] rfl (t_X10_step_28 hC hr  a1 a2 2 M6 h)
    · replace h := gq_f c8 h
      refine g_iconst (v := 0) hC (by decide) dX10_step_23 ?_
      refine g_goto (tgt := 28) hC (by decide) dX10_step_24 ?_
      exact g_weak [0, 1, 2] rfl (t_X10_step_28 hC hr  a1 a2 0 M6 h)
  · replace h := gq_t c4 h
    refine g_iconst (v := 1) hC (by decide) dX10_step_8 ?_
    refine g_goto (tgt := 28) hC (by decide) dX10_step_9 ?_
    exact g_weak [0, 1, 2] rfl (t_X10_step_28 hC hr  a1 a2 1 M2 h)
def f_X10_buyer_49 (N : Nat) (x1 : Int32) (x2 : Int32) (x3 : Int32) (s1 : Int32) (M : gq_M) : Option (Int32 × gq_M) :=
  gq_b (f_X10_fails N s1 M) fun v14 M15 => if v14 = 0 then (gq_g (gq_in x1 8) (gq_l (M15 9 x1.toNatClampNeg) fun v19 => gq_g (gq_in x1 8) (gq_l (gq_up M15 9 x1.toNatClampNeg x2) fun M21 => gq_g (gq_in x1 8) (gq_l (gq_up M21 10 x1.toNatClampNeg x3) fun M23 => some (v19, M23))))) else (some (0, M15))
set_option maxHeartbeats 1000000 in
set_option maxRecDepth 20000 in
theorem t_X10_buyer_49 {N : Nat} {v9 : Int32} {M9 : gq_M} (hC : gq_C p s m args meth c D A cI cZ ad mtR RX10 cX10_buyer 6) (hr : meth.sig.returnType = (some .int))   : ∀ (x1 : Int32) (x2 : Int32) (x3 : Int32) (s1 : Int32) (M : gq_M), f_X10_buyer_49 N  x1 x2 x3 s1 M = some (v9, M9) → gq_W p l e (gq_rm 2) s m args below meth c D A cI cZ ad mtR 6 (MQ below (gq_Qi D cI cZ ad mtR v9 M9 A) args s 0 0 A) 49 [(0, .ref (ad 0)), (1, .int x1), (2, .int x2), (3, .int x3)] [.int s1, .ref (ad 0)] M 0 0 := by
  intro x1 x2 x3 s1 M h
  unfold f_X10_buyer_49 at h
  obtain ⟨v14, M15, c16, h⟩ := gq_b_i h
  refine g_Vi (as := [.int s1]) hC (t_X10_fails N _ _ _ _ c16) mV_X10_fails  wm_X10_178 obR_0 rfl rfl (Nat.le_of_ble_eq_true rfl) ⟨by decide, by decide⟩ ⟨by decide, by decide⟩ dX10_buyer_49 ?_
  refine g_if_eq (tgt := 57) hC (by decide) dX10_buyer_52 (fun c17 => ?_) (fun c17 => ?_)
  · replace h := gq_t c17 h
    refine g_aload_n hC 0 rfl rfl dX10_buyer_57 ?_
    refine g_getR hC fF_X10_39 lkR_0_12 dX10_buyer_58 ?_
    refine g_iload_n hC 1 rfl rfl dX10_buyer_61 ?_
    obtain ⟨g18, h⟩ := gq_g_i h
    refine g_iald hC arR_9 (gq_in_i g18) dX10_buyer_62 ?_
    refine g_topi (fun v19 hv19 => ?_)
    replace h := gq_l_i hv19 h
    refine g_istore (L2 := [(5, .int v19), (0, .ref (ad 0)), (1, .int x1), (2, .int x2), (3, .int x3)]) hC (by decide) rfl dX10_buyer_63 ?_
    refine g_aload_n hC 1 rfl rfl dX10_buyer_65 ?_
    refine g_getR hC fF_X10_39 lkR_0_12 dX10_buyer_66 ?_
    refine g_iload_n hC 2 rfl rfl dX10_buyer_69 ?_
    refine g_iload_n hC 3 rfl rfl dX10_buyer_70 ?_
    obtain ⟨g20, h⟩ := gq_g_i h
    refine g_iast hC arR_9 (gq_in_i g20) dX10_buyer_71 ?_
    refine g_topM (fun M21 hM21 => ?_)
    replace h := gq_l_i hM21 h
    refine g_aload_n hC 1 rfl rfl dX10_buyer_72 ?_
    refine g_getR hC fF_X10_42 lkR_0_13 dX10_buyer_73 ?_
    refine g_iload_n hC 2 rfl rfl dX10_buyer_76 ?_
    refine g_iload_n hC 4 rfl rfl dX10_buyer_77 ?_
    obtain ⟨g22, h⟩ := gq_g_i h
    refine g_iast hC arR_10 (gq_in_i g22) dX10_buyer_78 ?_
    refine g_topM (fun M23 hM23 => ?_)
    replace h := gq_l_i hM23 h
    refine g_iload hC 0 rfl dX10_buyer_79 ?_
    exact g_irets hC hr h dX10_buyer_81
  · replace h := gq_f c17 h
    refine g_iconst (v := 0) hC (by decide) dX10_buyer_55 ?_
    exact g_irets hC hr h dX10_buyer_56
def f_X10_buyer_25 (N : Nat) (x1 : Int32) (x2 : Int32) (x3 : Int32) (s0 : Int32) (M : gq_M) : Option (Int32 × gq_M) :=
  gq_b (f_X10_isEight N x1 M) fun v9 M10 => if v9 = 0 then (f_X10_buyer_49 N  x1 x2 x3 1 M10) else (if s0 = 0 then (f_X10_buyer_49 N  x1 x2 x3 2 M10) else (f_X10_buyer_49 N  x1 x2 x3 0 M10))
set_option maxHeartbeats 1000000 in
set_option maxRecDepth 20000 in
theorem t_X10_buyer_25 {N : Nat} {v9 : Int32} {M9 : gq_M} (hC : gq_C p s m args meth c D A cI cZ ad mtR RX10 cX10_buyer 6) (hr : meth.sig.returnType = (some .int))   : ∀ (x1 : Int32) (x2 : Int32) (x3 : Int32) (s0 : Int32) (M : gq_M), f_X10_buyer_25 N  x1 x2 x3 s0 M = some (v9, M9) → gq_W p l e (gq_rm 2) s m args below meth c D A cI cZ ad mtR 6 (MQ below (gq_Qi D cI cZ ad mtR v9 M9 A) args s 0 0 A) 25 [(0, .ref (ad 0)), (1, .int x1), (2, .int x2), (3, .int x3)] [.int s0] M 0 0 := by
  intro x1 x2 x3 s0 M h
  unfold f_X10_buyer_25 at h
  refine g_istore (L2 := [(4, .int s0), (0, .ref (ad 0)), (1, .int x1), (2, .int x2), (3, .int x3)]) hC (by decide) rfl dX10_buyer_25 ?_
  refine g_aload_n hC 1 rfl rfl dX10_buyer_27 ?_
  refine g_iload_n hC 2 rfl rfl dX10_buyer_28 ?_
  obtain ⟨v9, M10, c11, h⟩ := gq_b_i h
  refine g_Si (as := [.int x1]) hC (t_X10_isEight N _ _ _ _ c11) mS_X10_isEight wm_X10_170 rfl rfl (Nat.le_of_ble_eq_true rfl) ⟨by decide, by decide⟩ ⟨by decide, by decide⟩ dX10_buyer_29 ?_
  refine g_if_ne (tgt := 39) hC (by decide) dX10_buyer_32 (fun c12 => ?_) (fun c12 => ?_)
  · replace h := gq_f c12 h
    refine g_iload hC 0 rfl dX10_buyer_39 ?_
    refine g_if_eq (tgt := 48) hC (by decide) dX10_buyer_41 (fun c13 => ?_) (fun c13 => ?_)
    · replace h := gq_t c13 h
      refine g_iconst (v := 2) hC (by decide) dX10_buyer_48 ?_
      exact g_weak [1, 2, 3, 4] rfl (t_X10_buyer_49 hC hr  x1 x2 x3 2 M10 h)
    · replace h := gq_f c13 h
      refine g_iconst (v := 0) hC (by decide) dX10_buyer_44 ?_
      refine g_goto (tgt := 49) hC (by decide) dX10_buyer_45 ?_
      exact g_weak [1, 2, 3, 4] rfl (t_X10_buyer_49 hC hr  x1 x2 x3 0 M10 h)
  · replace h := gq_t c12 h
    refine g_iconst (v := 1) hC (by decide) dX10_buyer_35 ?_
    refine g_goto (tgt := 49) hC (by decide) dX10_buyer_36 ?_
    exact g_weak [1, 2, 3, 4] rfl (t_X10_buyer_49 hC hr  x1 x2 x3 1 M10 h)
def f_X10_buyer_24 (N : Nat) (x1 : Int32) (x2 : Int32) (x3 : Int32) (M : gq_M) : Option (Int32 × gq_M) :=
  f_X10_buyer_25 N  x1 x2 x3 0 M
set_option maxHeartbeats 1000000 in
set_option maxRecDepth 20000 in
theorem t_X10_buyer_24 {N : Nat} {v9 : Int32} {M9 : gq_M} (hC : gq_C p s m args meth c D A cI cZ ad mtR RX10 cX10_buyer 6) (hr : meth.sig.returnType = (some .int))   : ∀ (x1 : Int32) (x2 : Int32) (x3 : Int32) (M : gq_M), f_X10_buyer_24 N  x1 x2 x3 M = some (v9, M9) → gq_W p l e (gq_rm 2) s m args below meth c D A cI cZ ad mtR 6 (MQ below (gq_Qi D cI cZ ad mtR v9 M9 A) args s 0 0 A) 24 [(0, .ref (ad 0)), (1, .int x1), (2, .int x2), (3, .int x3)] [] M 0 0 := by
  intro x1 x2 x3 M h
  unfold f_X10_buyer_24 at h
  refine g_iconst (v := 0) hC (by decide) dX10_buyer_24 ?_
  exact g_weak [0, 1, 2, 3] rfl (t_X10_buyer_25 hC hr  x1 x2 x3 0 M h)
def f_X10_buyer (N : Nat) (a1 : Int32) (a2 : Int32) (a3 : Int32) (M : gq_M) : Option (Int32 × gq_M) :=
  gq_b (f_X10_isIn N a2 0 100000000 M) fun v1 M2 => if v1 = 0 then (f_X10_buyer_24 N  a1 a2 a3 M2) else (gq_b (f_X10_isIn N a3 1 9 M2) fun v5 M6 => if v5 = 0 then (f_X10_buyer_24 N  a1 a2 a3 M6) else (f_X10_buyer_25 N  a1 a2 a3 1 M6))
set_option maxHeartbeats 1000000 in
set_option maxRecDepth 20000 in
theorem t_X10_buyer {l : Launch} {D : va_G} {cI cZ : ClassId} {ad : Nat → Nat} (N : Nat) (a1 : Int32) (a2 : Int32) (a3 : Int32) (M : gq_M) (v9 : Int32) (M9 : gq_M) (h : f_X10_buyer N a1 a2 a3 M = some (v9, M9)) : gq_Ci l D cI cZ ad mtR yX10_buyer cX10_buyer 6 (some .int) 2 [.ref (ad 0), .int a1, .int a2, .int a3] M v9 M9 := by
  refine gq_introI (own := RX10) (by decide) rfl (Nat.le_of_ble_eq_true rfl) ?_
  intro p e s m below meth c hC hr
  refine g_cast (L2 := [(0, .ref (ad 0)), (1, .int a1), (2, .int a2), (3, .int a3)]) ?_ rfl rfl rfl rfl
  unfold f_X10_buyer at h
  refine g_iload_n hC 2 rfl rfl dX10_buyer_0 ?_
  refine g_iconst (v := 0) hC (by decide) dX10_buyer_1 ?_
  refine g_ldc (v := 100000000) hC wk_X10_184 dX10_buyer_2 ?_
  obtain ⟨v1, M2, c3, h⟩ := gq_b_i h
  refine g_Si (as := [.int a2, .int 0, .int 100000000]) hC (t_X10_isIn N _ _ _ _ _ _ c3) mS_X10_isIn wm_X10_163 rfl rfl (Nat.le_of_ble_eq_true rfl) ⟨by decide, by decide⟩ ⟨by decide, by decide⟩ dX10_buyer_4 ?_
  refine g_if_eq (tgt := 24) hC (by decide) dX10_buyer_7 (fun c4 => ?_) (fun c4 => ?_)
  · replace h := gq_t c4 h
    exact g_weak [0, 1, 2, 3] rfl (t_X10_buyer_24 hC hr  a1 a2 a3 M2 h)
  · replace h := gq_f c4 h
    refine g_iload_n hC 3 rfl rfl dX10_buyer_10 ?_
    refine g_iconst (v := 1) hC (by decide) dX10_buyer_11 ?_
    refine g_bipush (v := 9) hC (by decide) dX10_buyer_12 ?_
    obtain ⟨v5, M6, c7, h⟩ := gq_b_i h
    refine g_Si (as := [.int a3, .int 1, .int 9]) hC (t_X10_isIn N _ _ _ _ _ _ c7) mS_X10_isIn wm_X10_163 rfl rfl (Nat.le_of_ble_eq_true rfl) ⟨by decide, by decide⟩ ⟨by decide, by decide⟩ dX10_buyer_14 ?_
    refine g_if_eq (tgt := 24) hC (by decide) dX10_buyer_17 (fun c8 => ?_) (fun c8 => ?_)
    · replace h := gq_t c8 h
      exact g_weak [0, 1, 2, 3] rfl (t_X10_buyer_24 hC hr  a1 a2 a3 M6 h)
    · replace h := gq_f c8 h
      refine g_iconst (v := 1) hC (by decide) dX10_buyer_20 ?_
      refine g_goto (tgt := 25) hC (by decide) dX10_buyer_21 ?_
      exact g_weak [0, 1, 2, 3] rfl (t_X10_buyer_25 hC hr  a1 a2 a3 1 M6 h)
def f_X10_draw (N : Nat) (a1 : Int32) (M : gq_M) : Option (Int32 × gq_M) :=
  gq_l (gq_up M 0 54 0) fun M1 => gq_l (gq_up M1 0 3 a1) fun M2 => some ((M1 0 3), M2)
set_option maxHeartbeats 1000000 in
set_option maxRecDepth 20000 in
theorem t_X10_draw {l : Launch} {D : va_G} {cI cZ : ClassId} {ad : Nat → Nat} (N : Nat) (a1 : Int32) (M : gq_M) (v9 : Int32) (M9 : gq_M) (h : f_X10_draw N a1 M = some (v9, M9)) : gq_Ci l D cI cZ ad mtR yX10_draw cX10_draw 3 (some .int) 0 [.ref (ad 0), .int a1] M v9 M9 := by
  refine gq_introI (own := RX10) (by decide) rfl (Nat.le_of_ble_eq_true rfl) ?_
  intro p e s m below meth c hC hr
  refine g_cast (L2 := [(0, .ref (ad 0)), (1, .int a1)]) ?_ rfl rfl rfl rfl
  unfold f_X10_draw at h
  refine g_aload_n hC 0 rfl rfl dX10_draw_0 ?_
  refine g_iconst (v := 0) hC (by decide) dX10_draw_1 ?_
  refine g_putI hC fG_X10_160 lkR_0_54 dX10_draw_2 ?_
  refine g_topM (fun M1 hM1 => ?_)
  replace h := gq_l_i hM1 h
  refine g_aload_n hC 0 rfl rfl dX10_draw_5 ?_
  refine g_getI hC fF_X10_7 lkR_0_3 dX10_draw_6 ?_
  refine g_istore_n (L2 := [(2, .int (M1 0 3)), (0, .ref (ad 0)), (1, .int a1)]) hC rfl (by decide) rfl dX10_draw_9 ?_
  refine g_aload_n hC 1 rfl rfl dX10_draw_10 ?_
  refine g_iload_n hC 2 rfl rfl dX10_draw_11 ?_
  refine g_putI hC fG_X10_7 lkR_0_3 dX10_draw_12 ?_
  refine g_topM (fun M2 hM2 => ?_)
  replace h := gq_l_i hM2 h
  refine g_iload_n hC 0 rfl rfl dX10_draw_15 ?_
  exact g_irets hC hr h dX10_draw_16
def f_X10_power_13 (N : Nat) (x1 : Int32) (x2 : Int32) (s1 : Int32) (M : gq_M) : Option (Int32 × gq_M) :=
  gq_b (f_X10_fails N s1 M) fun v5 M6 => if v5 = 0 then (gq_g (gq_in x1 3) (gq_l (M6 34 x1.toNatClampNeg) fun v10 => gq_g (gq_in x1 3) (gq_g (gq_bb x2) (gq_l (gq_up M6 34 x1.toNatClampNeg x2) fun M13 => gq_g (gq_bb v10) (some (v10, M13)))))) else (some (0, M6))
set_option maxHeartbeats 1000000 in
set_option maxRecDepth 20000 in
theorem t_X10_power_13 {N : Nat} {v9 : Int32} {M9 : gq_M} (hC : gq_C p s m args meth c D A cI cZ ad mtR RX10 cX10_power 4) (hr : meth.sig.returnType = (some .boolean))   : ∀ (x1 : Int32) (x2 : Int32) (s1 : Int32) (M : gq_M), f_X10_power_13 N  x1 x2 s1 M = some (v9, M9) → gq_W p l e (gq_rm 2) s m args below meth c D A cI cZ ad mtR 4 (MQ below (gq_Qi D cI cZ ad mtR v9 M9 A) args s 0 0 A) 13 [(0, .ref (ad 0)), (1, .int x1), (2, .int x2)] [.int s1, .ref (ad 0)] M 0 0 := by
  intro x1 x2 s1 M h
  unfold f_X10_power_13 at h
  obtain ⟨v5, M6, c7, h⟩ := gq_b_i h
  refine g_Vi (as := [.int s1]) hC (t_X10_fails N _ _ _ _ c7) mV_X10_fails  wm_X10_178 obR_0 rfl rfl (Nat.le_of_ble_eq_true rfl) ⟨by decide, by decide⟩ ⟨by decide, by decide⟩ dX10_power_13 ?_
  refine g_if_eq (tgt := 21) hC (by decide) dX10_power_16 (fun c8 => ?_) (fun c8 => ?_)
  · replace h := gq_t c8 h
    refine g_aload_n hC 0 rfl rfl dX10_power_21 ?_
    refine g_getR hC fF_X10_114 lkR_0_39 dX10_power_22 ?_
    refine g_iload_n hC 1 rfl rfl dX10_power_25 ?_
    obtain ⟨g9, h⟩ := gq_g_i h
    refine g_zald hC arR_34 (gq_in_i g9) dX10_power_26 ?_
    refine g_topi (fun v10 hv10 => ?_)
    replace h := gq_l_i hv10 h
    refine g_istore_n (L2 := [(3, .int v10), (0, .ref (ad 0)), (1, .int x1), (2, .int x2)]) hC rfl (by decide) rfl dX10_power_27 ?_
    refine g_aload_n hC 1 rfl rfl dX10_power_28 ?_
    refine g_getR hC fF_X10_114 lkR_0_39 dX10_power_29 ?_
    refine g_iload_n hC 2 rfl rfl dX10_power_32 ?_
    refine g_iload_n hC 3 rfl rfl dX10_power_33 ?_
    obtain ⟨g11, h⟩ := gq_g_i h
    obtain ⟨g12, h⟩ := gq_g_i h
    refine g_zast hC arR_34 (gq_in_i g11) (gq_bb_i g12) dX10_power_34 ?_
    refine g_topM (fun M13 hM13 => ?_)
    replace h := gq_l_i hM13 h
    refine g_iload_n hC 0 rfl rfl dX10_power_35 ?_
    obtain ⟨g14, h⟩ := gq_g_i h
    exact g_zrets hC hr (gq_bb_i g14) h dX10_power_36
  · replace h := gq_f c8 h
    refine g_iconst (v := 0) hC (by decide) dX10_power_19 ?_
    exact g_zrets hC hr gq_bit0 h dX10_power_20
def f_X10_power (N : Nat) (a1 : Int32) (a2 : Int32) (M : gq_M) : Option (Int32 × gq_M) :=
  gq_b (f_X10_isHall N a1 M) fun v1 M2 => if v1 = 0 then (f_X10_power_13 N  a1 a2 1 M2) else (f_X10_power_13 N  a1 a2 0 M2)
set_option maxHeartbeats 1000000 in
set_option maxRecDepth 20000 in
theorem t_X10_power {l : Launch} {D : va_G} {cI cZ : ClassId} {ad : Nat → Nat} (N : Nat) (a1 : Int32) (a2 : Int32) (M : gq_M) (v9 : Int32) (M9 : gq_M) (h : f_X10_power N a1 a2 M = some (v9, M9)) : gq_Ci l D cI cZ ad mtR yX10_power cX10_power 4 (some .boolean) 2 [.ref (ad 0), .int a1, .int a2] M v9 M9 := by
  refine gq_introI (own := RX10) (by decide) rfl (Nat.le_of_ble_eq_true rfl) ?_
  intro p e s m below meth c hC hr
  refine g_cast (L2 := [(0, .ref (ad 0)), (1, .int a1), (2, .int a2)]) ?_ rfl rfl rfl rfl
  unfold f_X10_power at h
  refine g_aload_n hC 0 rfl rfl dX10_power_0 ?_
  refine g_iload_n hC 1 rfl rfl dX10_power_1 ?_
  obtain ⟨v1, M2, c3, h⟩ := gq_b_i h
  refine g_Si (as := [.int a1]) hC (t_X10_isHall N _ _ _ _ c3) mS_X10_isHall wm_X10_181 rfl rfl (Nat.le_of_ble_eq_true rfl) ⟨by decide, by decide⟩ ⟨by decide, by decide⟩ dX10_power_2 ?_
  refine g_if_eq (tgt := 12) hC (by decide) dX10_power_5 (fun c4 => ?_) (fun c4 => ?_)
  · replace h := gq_t c4 h
    refine g_iconst (v := 1) hC (by decide) dX10_power_12 ?_
    exact g_weak [0, 1, 2] rfl (t_X10_power_13 hC hr  a1 a2 1 M2 h)
  · replace h := gq_f c4 h
    refine g_iconst (v := 0) hC (by decide) dX10_power_8 ?_
    refine g_goto (tgt := 13) hC (by decide) dX10_power_9 ?_
    exact g_weak [0, 1, 2] rfl (t_X10_power_13 hC hr  a1 a2 0 M2 h)
def f_X10_line_13 (N : Nat) (x1 : Int32) (x2 : Int32) (s1 : Int32) (M : gq_M) : Option (Int32 × gq_M) :=
  gq_b (f_X10_fails N s1 M) fun v5 M6 => if v5 = 0 then (gq_g (gq_in x1 8) (gq_l (M6 12 x1.toNatClampNeg) fun v10 => gq_g (gq_in x1 8) (gq_g (gq_bb x2) (gq_l (gq_up M6 12 x1.toNatClampNeg x2) fun M13 => gq_g (gq_bb v10) (some (v10, M13)))))) else (some (0, M6))
set_option maxHeartbeats 1000000 in
set_option maxRecDepth 20000 in
theorem t_X10_line_13 {N : Nat} {v9 : Int32} {M9 : gq_M} (hC : gq_C p s m args meth c D A cI cZ ad mtR RX10 cX10_line 4) (hr : meth.sig.returnType = (some .boolean))   : ∀ (x1 : Int32) (x2 : Int32) (s1 : Int32) (M : gq_M), f_X10_line_13 N  x1 x2 s1 M = some (v9, M9) → gq_W p l e (gq_rm 2) s m args below meth c D A cI cZ ad mtR 4 (MQ below (gq_Qi D cI cZ ad mtR v9 M9 A) args s 0 0 A) 13 [(0, .ref (ad 0)), (1, .int x1), (2, .int x2)] [.int s1, .ref (ad 0)] M 0 0 := by
  intro x1 x2 s1 M h
  unfold f_X10_line_13 at h
  obtain ⟨v5, M6, c7, h⟩ := gq_b_i h
  refine g_Vi (as := [.int s1]) hC (t_X10_fails N _ _ _ _ c7) mV_X10_fails  wm_X10_178 obR_0 rfl rfl (Nat.le_of_ble_eq_true rfl) ⟨by decide, by decide⟩ ⟨by decide, by decide⟩ dX10_line_13 ?_
  refine g_if_eq (tgt := 21) hC (by decide) dX10_line_16 (fun c8 => ?_) (fun c8 => ?_)
  · replace h := gq_t c8 h
    refine g_aload_n hC 0 rfl rfl dX10_line_21 ?_
    refine g_getR hC fF_X10_48 lkR_0_15 dX10_line_22 ?_
    refine g_iload_n hC 1 rfl rfl dX10_line_25 ?_
    obtain ⟨g9, h⟩ := gq_g_i h
    refine g_zald hC arR_12 (gq_in_i g9) dX10_line_26 ?_
    refine g_topi (fun v10 hv10 => ?_)
    replace h := gq_l_i hv10 h
    refine g_istore_n (L2 := [(3, .int v10), (0, .ref (ad 0)), (1, .int x1), (2, .int x2)]) hC rfl (by decide) rfl dX10_line_27 ?_
    refine g_aload_n hC 1 rfl rfl dX10_line_28 ?_
    refine g_getR hC fF_X10_48 lkR_0_15 dX10_line_29 ?_
    refine g_iload_n hC 2 rfl rfl dX10_line_32 ?_
    refine g_iload_n hC 3 rfl rfl dX10_line_33 ?_
    obtain ⟨g11, h⟩ := gq_g_i h
    obtain ⟨g12, h⟩ := gq_g_i h
    refine g_zast hC arR_12 (gq_in_i g11) (gq_bb_i g12) dX10_line_34 ?_
    refine g_topM (fun M13 hM13 => ?_)
    replace h := gq_l_i hM13 h
    refine g_iload_n hC 0 rfl rfl dX10_line_35 ?_
    obtain ⟨g14, h⟩ := gq_g_i h
    exact g_zrets hC hr (gq_bb_i g14) h dX10_line_36
  · replace h := gq_f c8 h
    refine g_iconst (v := 0) hC (by decide) dX10_line_19 ?_
    exact g_zrets hC hr gq_bit0 h dX10_line_20
def f_X10_line (N : Nat) (a1 : Int32) (a2 : Int32) (M : gq_M) : Option (Int32 × gq_M) :=
  gq_b (f_X10_isEight N a1 M) fun v1 M2 => if v1 = 0 then (f_X10_line_13 N  a1 a2 1 M2) else (f_X10_line_13 N  a1 a2 0 M2)
set_option maxHeartbeats 1000000 in
set_option maxRecDepth 20000 in
theorem t_X10_line {l : Launch} {D : va_G} {cI cZ : ClassId} {ad : Nat → Nat} (N : Nat) (a1 : Int32) (a2 : Int32) (M : gq_M) (v9 : Int32) (M9 : gq_M) (h : f_X10_line N a1 a2 M = some (v9, M9)) : gq_Ci l D cI cZ ad mtR yX10_line cX10_line 4 (some .boolean) 2 [.ref (ad 0), .int a1, .int a2] M v9 M9 := by
  refine gq_introI (own := RX10) (by decide) rfl (Nat.le_of_ble_eq_true rfl) ?_
  intro p e s m below meth c hC hr
  refine g_cast (L2 := [(0, .ref (ad 0)), (1, .int a1), (2, .int a2)]) ?_ rfl rfl rfl rfl
  unfold f_X10_line at h
  refine g_aload_n hC 0 rfl rfl dX10_line_0 ?_
  refine g_iload_n hC 1 rfl rfl dX10_line_1 ?_
  obtain ⟨v1, M2, c3, h⟩ := gq_b_i h
  refine g_Si (as := [.int a1]) hC (t_X10_isEight N _ _ _ _ c3) mS_X10_isEight wm_X10_170 rfl rfl (Nat.le_of_ble_eq_true rfl) ⟨by decide, by decide⟩ ⟨by decide, by decide⟩ dX10_line_2 ?_
  refine g_if_eq (tgt := 12) hC (by decide) dX10_line_5 (fun c4 => ?_) (fun c4 => ?_)
  · replace h := gq_t c4 h
    refine g_iconst (v := 1) hC (by decide) dX10_line_12 ?_
    exact g_weak [0, 1, 2] rfl (t_X10_line_13 hC hr  a1 a2 1 M2 h)
  · replace h := gq_f c4 h
    refine g_iconst (v := 0) hC (by decide) dX10_line_8 ?_
    refine g_goto (tgt := 13) hC (by decide) dX10_line_9 ?_
    exact g_weak [0, 1, 2] rfl (t_X10_line_13 hC hr  a1 a2 0 M2 h)
def f_X10_land_235 (N : Nat) (s1 : Int32) (s2 : Int32) (M : gq_M) : Option (Int32 × gq_M) :=
  gq_g (gq_in s1 150) (gq_l (gq_up M 19 s1.toNatClampNeg s2) fun M56 => gq_g (gq_in (M56 0 16) 150) (gq_l (gq_up M56 21 ((M56 0 16) : Int32).toNatClampNeg (-1)) fun M58 => gq_g (gq_in (M58 0 16) 150) (gq_l (gq_up M58 22 ((M58 0 16) : Int32).toNatClampNeg (-1)) fun M60 => gq_g (gq_in (M60 0 16) 150) (gq_l (gq_up M60 26 ((M60 0 16) : Int32).toNatClampNeg (-1)) fun M62 => gq_l (gq_up M62 0 16 ((M62 0 16) + 1)) fun M63 => some (((M63 0 16) - 1), M63)))))
set_option maxHeartbeats 1000000 in
set_option maxRecDepth 20000 in
theorem t_X10_land_235 {N : Nat} {v9 : Int32} {M9 : gq_M} (hC : gq_C p s m args meth c D A cI cZ ad mtR RX10 cX10_land 10) (hr : meth.sig.returnType = (some .int))   : ∀ (s1 : Int32) (s2 : Int32) (M : gq_M), f_X10_land_235 N  s1 s2 M = some (v9, M9) → gq_W p l e (gq_rm 2) s m args below meth c D A cI cZ ad mtR 10 (MQ below (gq_Qi D cI cZ ad mtR v9 M9 A) args s 0 0 A) 235 [(0, .ref (ad 0))] [.int s2, .int s1, .ref (ad 19)] M 0 0 := by
  intro s1 s2 M h
  unfold f_X10_land_235 at h
  obtain ⟨g55, h⟩ := gq_g_i h
  refine g_iast hC arR_19 (gq_in_i g55) dX10_land_235 ?_
  refine g_topM (fun M56 hM56 => ?_)
  replace h := gq_l_i hM56 h
  refine g_aload_n hC 0 rfl rfl dX10_land_236 ?_
  refine g_getR hC fF_X10_75 lkR_0_25 dX10_land_237 ?_
  refine g_aload_n hC 0 rfl rfl dX10_land_240 ?_
  refine g_getI hC fF_X10_167 lkR_0_16 dX10_land_241 ?_
  refine g_iconst (v := (-1)) hC (by decide) dX10_land_244 ?_
  obtain ⟨g57, h⟩ := gq_g_i h
  refine g_iast hC arR_21 (gq_in_i g57) dX10_land_245 ?_
  refine g_topM (fun M58 hM58 => ?_)
  replace h := gq_l_i hM58 h
  refine g_aload_n hC 0 rfl rfl dX10_land_246 ?_
  refine g_getR hC fF_X10_78 lkR_0_26 dX10_land_247 ?_
  refine g_aload_n hC 0 rfl rfl dX10_land_250 ?_
  refine g_getI hC fF_X10_167 lkR_0_16 dX10_land_251 ?_
  refine g_iconst (v := (-1)) hC (by decide) dX10_land_254 ?_
  obtain ⟨g59, h⟩ := gq_g_i h
  refine g_iast hC arR_22 (gq_in_i g59) dX10_land_255 ?_
  refine g_topM (fun M60 hM60 => ?_)
  replace h := gq_l_i hM60 h
  refine g_aload_n hC 0 rfl rfl dX10_land_256 ?_
  refine g_getR hC fF_X10_90 lkR_0_30 dX10_land_257 ?_
  refine g_aload_n hC 0 rfl rfl dX10_land_260 ?_
  refine g_getI hC fF_X10_167 lkR_0_16 dX10_land_261 ?_
  refine g_iconst (v := (-1)) hC (by decide) dX10_land_264 ?_
  obtain ⟨g61, h⟩ := gq_g_i h
  refine g_iast hC arR_26 (gq_in_i g61) dX10_land_265 ?_
  refine g_topM (fun M62 hM62 => ?_)
  replace h := gq_l_i hM62 h
  refine g_aload_n hC 0 rfl rfl dX10_land_266 ?_
  refine g_dup hC rfl dX10_land_267 ?_
  refine g_getI hC fF_X10_167 lkR_0_16 dX10_land_268 ?_
  refine g_iconst (v := 1) hC (by decide) dX10_land_271 ?_
  refine g_iadd hC dX10_land_272 ?_
  refine g_putI hC fG_X10_167 lkR_0_16 dX10_land_273 ?_
  refine g_topM (fun M63 hM63 => ?_)
  replace h := gq_l_i hM63 h
  refine g_aload_n hC 0 rfl rfl dX10_land_276 ?_
  refine g_getI hC fF_X10_167 lkR_0_16 dX10_land_277 ?_
  refine g_iconst (v := 1) hC (by decide) dX10_land_280 ?_
  refine g_isub hC dX10_land_281 ?_
  exact g_irets hC hr h dX10_land_282
def f_X10_land_104 (N : Nat) (x1 : Int32) (x2 : Int32) (x3 : Int32) (x4 : Int32) (x5 : Int32) (x6 : Int32) (s1 : Int32) (M : gq_M) : Option (Int32 × gq_M) :=
  gq_b (f_X10_fails N s1 M) fun v28 M29 => if v28 = 0 then (gq_g (gq_in ((4 * x1) + x2) 32) (gq_l (M29 2 (((4 * x1) + x2) : Int32).toNatClampNeg) fun v33 => gq_g (gq_in ((4 * x1) + x2) 32) (gq_l (gq_up M29 2 (((4 * x1) + x2) : Int32).toNatClampNeg (v33 + x5)) fun M35 => gq_g (gq_in (M35 0 16) 150) (gq_l (gq_up M35 13 ((M35 0 16) : Int32).toNatClampNeg x1) fun M37 => gq_g (gq_in (M37 0 16) 150) (gq_l (gq_up M37 14 ((M37 0 16) : Int32).toNatClampNeg x2) fun M39 => gq_g (gq_in (M39 0 16) 150) (gq_l (gq_up M39 15 ((M39 0 16) : Int32).toNatClampNeg x3) fun M41 => gq_g (gq_in (M41 0 16) 150) (gq_l (gq_up M41 16 ((M41 0 16) : Int32).toNatClampNeg x4) fun M43 => gq_g (gq_in (M43 0 16) 150) (gq_l (gq_up M43 17 ((M43 0 16) : Int32).toNatClampNeg x5) fun M45 => gq_g (gq_in (M45 0 16) 150) (gq_l (gq_up M45 18 ((M45 0 16) : Int32).toNatClampNeg x6) fun M47 => gq_g (gq_in ((4 * x1) + x2) 32) (gq_l (M47 2 (((4 * x1) + x2) : Int32).toNatClampNeg) fun v49 => gq_g (gq_in ((4 * x1) + x2) 32) (gq_l (M47 1 (((4 * x1) + x2) : Int32).toNatClampNeg) fun v51 => gq_g (gq_in ((4 * x1) + x2) 32) (gq_l (M47 1 (((4 * x1) + x2) : Int32).toNatClampNeg) fun v53 => if v49 ≤ (v51 + (v53 / 10)) then (f_X10_land_235 N  (M47 0 16) 0 M47) else (f_X10_land_235 N  (M47 0 16) 1 M47))))))))))))) else (some (0, M29))
set_option maxHeartbeats 1000000 in
set_option maxRecDepth 20000 in
theorem t_X10_land_104 {N : Nat} {v9 : Int32} {M9 : gq_M} (hC : gq_C p s m args meth c D A cI cZ ad mtR RX10 cX10_land 10) (hr : meth.sig.returnType = (some .int))   : ∀ (x1 : Int32) (x2 : Int32) (x3 : Int32) (x4 : Int32) (x5 : Int32) (x6 : Int32) (s1 : Int32) (M : gq_M), f_X10_land_104 N  x1 x2 x3 x4 x5 x6 s1 M = some (v9, M9) → gq_W p l e (gq_rm 2) s m args below meth c D A cI cZ ad mtR 10 (MQ below (gq_Qi D cI cZ ad mtR v9 M9 A) args s 0 0 A) 104 [(0, .ref (ad 0)), (1, .int x1), (2, .int x2), (3, .int x3), (4, .int x4), (5, .int x5), (6, .int x6)] [.int s1, .ref (ad 0)] M 0 0 := by
  intro x1 x2 x3 x4 x5 x6 s1 M h
  unfold f_X10_land_104 at h
  obtain ⟨v28, M29, c30, h⟩ := gq_b_i h
  refine g_Vi (as := [.int s1]) hC (t_X10_fails N _ _ _ _ c30) mV_X10_fails  wm_X10_178 obR_0 rfl rfl (Nat.le_of_ble_eq_true rfl) ⟨by decide, by decide⟩ ⟨by decide, by decide⟩ dX10_land_104 ?_
  refine g_if_eq (tgt := 112) hC (by decide) dX10_land_107 (fun c31 => ?_) (fun c31 => ?_)
  · replace h := gq_t c31 h
    refine g_iconst (v := 4) hC (by decide) dX10_land_112 ?_
    refine g_iload_n hC 1 rfl rfl dX10_land_113 ?_
    refine g_imul hC dX10_land_114 ?_
    refine g_iload_n hC 2 rfl rfl dX10_land_115 ?_
    refine g_iadd hC dX10_land_116 ?_
    refine g_istore (L2 := [(9, .int ((4 * x1) + x2)), (0, .ref (ad 0)), (1, .int x1), (2, .int x2), (3, .int x3), (4, .int x4), (5, .int x5), (6, .int x6)]) hC (by decide) rfl dX10_land_117 ?_
    refine g_aload_n hC 1 rfl rfl dX10_land_119 ?_
    refine g_getR hC fF_X10_17 lkR_0_5 dX10_land_120 ?_
    refine g_iload hC 0 rfl dX10_land_123 ?_
    refine g_dup2 hC rfl rfl dX10_land_125 ?_
    obtain ⟨g32, h⟩ := gq_g_i h
    refine g_iald hC arR_2 (gq_in_i g32) dX10_land_126 ?_
    refine g_topi (fun v33 hv33 => ?_)
    replace h := gq_l_i hv33 h
    refine g_iload hC 6 rfl dX10_land_127 ?_
    refine g_iadd hC dX10_land_129 ?_
    obtain ⟨g34, h⟩ := gq_g_i h
    refine g_iast hC arR_2 (gq_in_i g34) dX10_land_130 ?_
    refine g_topM (fun M35 hM35 => ?_)
    replace h := gq_l_i hM35 h
    refine g_aload_n hC 1 rfl rfl dX10_land_131 ?_
    refine g_getR hC fF_X10_51 lkR_0_17 dX10_land_132 ?_
    refine g_aload_n hC 1 rfl rfl dX10_land_135 ?_
    refine g_getI hC fF_X10_167 lkR_0_16 dX10_land_136 ?_
    refine g_iload_n hC 2 rfl rfl dX10_land_139 ?_
    obtain ⟨g36, h⟩ := gq_g_i h
    refine g_iast hC arR_13 (gq_in_i g36) dX10_land_140 ?_
    refine g_topM (fun M37 hM37 => ?_)
    replace h := gq_l_i hM37 h
    refine g_aload_n hC 1 rfl rfl dX10_land_141 ?_
    refine g_getR hC fF_X10_54 lkR_0_18 dX10_land_142 ?_
    refine g_aload_n hC 1 rfl rfl dX10_land_145 ?_
    refine g_getI hC fF_X10_167 lkR_0_16 dX10_land_146 ?_
    refine g_iload_n hC 3 rfl rfl dX10_land_149 ?_
    obtain ⟨g38, h⟩ := gq_g_i h
    refine g_iast hC arR_14 (gq_in_i g38) dX10_land_150 ?_
    refine g_topM (fun M39 hM39 => ?_)
    replace h := gq_l_i hM39 h
    refine g_aload_n hC 1 rfl rfl dX10_land_151 ?_
    refine g_getR hC fF_X10_57 lkR_0_19 dX10_land_152 ?_
    refine g_aload_n hC 1 rfl rfl dX10_land_155 ?_
    refine g_getI hC fF_X10_167 lkR_0_16 dX10_land_156 ?_
    refine g_iload_n hC 4 rfl rfl dX10_land_159 ?_
    obtain ⟨g40, h⟩ := gq_g_i h
    refine g_iast hC arR_15 (gq_in_i g40) dX10_land_160 ?_
    refine g_topM (fun M41 hM41 => ?_)
    replace h := gq_l_i hM41 h
    refine g_aload_n hC 1 rfl rfl dX10_land_161 ?_
    refine g_getR hC fF_X10_60 lkR_0_20 dX10_land_162 ?_
    refine g_aload_n hC 1 rfl rfl dX10_land_165 ?_
    refine g_getI hC fF_X10_167 lkR_0_16 dX10_land_166 ?_
    refine g_iload hC 5 rfl dX10_land_169 ?_
    obtain ⟨g42, h⟩ := gq_g_i h
    refine g_iast hC arR_16 (gq_in_i g42) dX10_land_171 ?_
    refine g_topM (fun M43 hM43 => ?_)
    replace h := gq_l_i hM43 h
    refine g_aload_n hC 1 rfl rfl dX10_land_172 ?_
    refine g_getR hC fF_X10_63 lkR_0_21 dX10_land_173 ?_
    refine g_aload_n hC 1 rfl rfl dX10_land_176 ?_
    refine g_getI hC fF_X10_167 lkR_0_16 dX10_land_177 ?_
    refine g_iload hC 6 rfl dX10_land_180 ?_
    obtain ⟨g44, h⟩ := gq_g_i h
    refine g_iast hC arR_17 (gq_in_i g44) dX10_land_182 ?_
    refine g_topM (fun M45 hM45 => ?_)
    replace h := gq_l_i hM45 h
    refine g_aload_n hC 1 rfl rfl dX10_land_183 ?_
    refine g_getR hC fF_X10_66 lkR_0_22 dX10_land_184 ?_
    refine g_aload_n hC 1 rfl rfl dX10_land_187 ?_
    refine g_getI hC fF_X10_167 lkR_0_16 dX10_land_188 ?_
    refine g_iload hC 7 rfl dX10_land_191 ?_
    obtain ⟨g46, h⟩ := gq_g_i h
    refine g_iast hC arR_18 (gq_in_i g46) dX10_land_193 ?_
    refine g_topM (fun M47 hM47 => ?_)
    replace h := gq_l_i hM47 h
    refine g_aload_n hC 1 rfl rfl dX10_land_194 ?_
    refine g_getR hC fF_X10_69 lkR_0_23 dX10_land_195 ?_
    refine g_aload_n hC 1 rfl rfl dX10_land_198 ?_
    refine g_getI hC fF_X10_167 lkR_0_16 dX10_land_199 ?_
    refine g_aload_n hC 1 rfl rfl dX10_land_202 ?_
    refine g_getR hC fF_X10_17 lkR_0_5 dX10_land_203 ?_
    refine g_iload hC 0 rfl dX10_land_206 ?_
    obtain ⟨g48, h⟩ := gq_g_i h
    refine g_iald hC arR_2 (gq_in_i g48) dX10_land_208 ?_
    refine g_topi (fun v49 hv49 => ?_)
    replace h := gq_l_i hv49 h
    refine g_aload_n hC 1 rfl rfl dX10_land_209 ?_
    refine g_getR hC fF_X10_13 lkR_0_4 dX10_land_210 ?_
    refine g_iload hC 0 rfl dX10_land_213 ?_
    obtain ⟨g50, h⟩ := gq_g_i h
    refine g_iald hC arR_1 (gq_in_i g50) dX10_land_215 ?_
    refine g_topi (fun v51 hv51 => ?_)
    replace h := gq_l_i hv51 h
    refine g_aload_n hC 1 rfl rfl dX10_land_216 ?_
    refine g_getR hC fF_X10_13 lkR_0_4 dX10_land_217 ?_
    refine g_iload hC 0 rfl dX10_land_220 ?_
    obtain ⟨g52, h⟩ := gq_g_i h
    refine g_iald hC arR_1 (gq_in_i g52) dX10_land_222 ?_
    refine g_topi (fun v53 hv53 => ?_)
    replace h := gq_l_i hv53 h
    refine g_bipush (v := 10) hC (by decide) dX10_land_223 ?_
    refine g_idiv hC (by decide) dX10_land_225 ?_
    refine g_iadd hC dX10_land_226 ?_
    refine g_icmp_le (tgt := 234) hC (by decide) dX10_land_227 (fun c54 => ?_) (fun c54 => ?_)
    · replace h := gq_t c54 h
      refine g_iconst (v := 0) hC (by decide) dX10_land_234 ?_
      exact g_weak [1] rfl (t_X10_land_235 hC hr  (M47 0 16) 0 M47 h)
    · replace h := gq_f c54 h
      refine g_iconst (v := 1) hC (by decide) dX10_land_230 ?_
      refine g_goto (tgt := 235) hC (by decide) dX10_land_231 ?_
      exact g_weak [1] rfl (t_X10_land_235 hC hr  (M47 0 16) 1 M47 h)
  · replace h := gq_f c31 h
    refine g_iconst (v := 0) hC (by decide) dX10_land_110 ?_
    exact g_irets hC hr h dX10_land_111
def f_X10_land_68 (N : Nat) (x1 : Int32) (x2 : Int32) (x3 : Int32) (x4 : Int32) (x5 : Int32) (x6 : Int32) (x7 : Int32) (s0 : Int32) (M : gq_M) : Option (Int32 × gq_M) :=
  if x7 = 0 then (f_X10_land_104 N  x1 x2 x3 x4 x5 x6 1 M) else (if s0 = 0 then (f_X10_land_104 N  x1 x2 x3 x4 x5 x6 2 M) else (if (M 0 16) = 150 then (f_X10_land_104 N  x1 x2 x3 x4 x5 x6 3 M) else (f_X10_land_104 N  x1 x2 x3 x4 x5 x6 0 M)))
set_option maxHeartbeats 1000000 in
set_option maxRecDepth 20000 in
theorem t_X10_land_68 {N : Nat} {v9 : Int32} {M9 : gq_M} (hC : gq_C p s m args meth c D A cI cZ ad mtR RX10 cX10_land 10) (hr : meth.sig.returnType = (some .int))   : ∀ (x1 : Int32) (x2 : Int32) (x3 : Int32) (x4 : Int32) (x5 : Int32) (x6 : Int32) (x7 : Int32) (s0 : Int32) (M : gq_M), f_X10_land_68 N  x1 x2 x3 x4 x5 x6 x7 s0 M = some (v9, M9) → gq_W p l e (gq_rm 2) s m args below meth c D A cI cZ ad mtR 10 (MQ below (gq_Qi D cI cZ ad mtR v9 M9 A) args s 0 0 A) 68 [(0, .ref (ad 0)), (1, .int x1), (2, .int x2), (3, .int x3), (4, .int x4), (5, .int x5), (6, .int x6), (7, .int x7)] [.int s0] M 0 0 := by
  intro x1 x2 x3 x4 x5 x6 x7 s0 M h
  unfold f_X10_land_68 at h
  refine g_istore (L2 := [(8, .int s0), (0, .ref (ad 0)), (1, .int x1), (2, .int x2), (3, .int x3), (4, .int x4), (5, .int x5), (6, .int x6), (7, .int x7)]) hC (by decide) rfl dX10_land_68 ?_
  refine g_aload_n hC 1 rfl rfl dX10_land_70 ?_
  refine g_iload hC 8 rfl dX10_land_71 ?_
  refine g_if_ne (tgt := 80) hC (by decide) dX10_land_73 (fun c25 => ?_) (fun c25 => ?_)
  · replace h := gq_f c25 h
    refine g_iload hC 0 rfl dX10_land_80 ?_
    refine g_if_ne (tgt := 89) hC (by decide) dX10_land_82 (fun c26 => ?_) (fun c26 => ?_)
    · replace h := gq_f c26 h
      refine g_aload_n hC 1 rfl rfl dX10_land_89 ?_
      refine g_getI hC fF_X10_167 lkR_0_16 dX10_land_90 ?_
      refine g_sipush (v := 150) hC (by decide) dX10_land_93 ?_
      refine g_icmp_ne (tgt := 103) hC (by decide) dX10_land_96 (fun c27 => ?_) (fun c27 => ?_)
      · replace h := gq_f c27 h
        refine g_iconst (v := 0) hC (by decide) dX10_land_103 ?_
        exact g_weak [1, 2, 3, 4, 5, 6, 7] rfl (t_X10_land_104 hC hr  x1 x2 x3 x4 x5 x6 0 M h)
      · replace h := gq_t c27 h
        refine g_iconst (v := 3) hC (by decide) dX10_land_99 ?_
        refine g_goto (tgt := 104) hC (by decide) dX10_land_100 ?_
        exact g_weak [1, 2, 3, 4, 5, 6, 7] rfl (t_X10_land_104 hC hr  x1 x2 x3 x4 x5 x6 3 M h)
    · replace h := gq_t c26 h
      refine g_iconst (v := 2) hC (by decide) dX10_land_85 ?_
      refine g_goto (tgt := 104) hC (by decide) dX10_land_86 ?_
      exact g_weak [1, 2, 3, 4, 5, 6, 7] rfl (t_X10_land_104 hC hr  x1 x2 x3 x4 x5 x6 2 M h)
  · replace h := gq_t c25 h
    refine g_iconst (v := 1) hC (by decide) dX10_land_76 ?_
    refine g_goto (tgt := 104) hC (by decide) dX10_land_77 ?_
    exact g_weak [1, 2, 3, 4, 5, 6, 7] rfl (t_X10_land_104 hC hr  x1 x2 x3 x4 x5 x6 1 M h)
def f_X10_land_67 (N : Nat) (x1 : Int32) (x2 : Int32) (x3 : Int32) (x4 : Int32) (x5 : Int32) (x6 : Int32) (x7 : Int32) (M : gq_M) : Option (Int32 × gq_M) :=
  f_X10_land_68 N  x1 x2 x3 x4 x5 x6 x7 0 M
set_option maxHeartbeats 1000000 in
set_option maxRecDepth 20000 in
theorem t_X10_land_67 {N : Nat} {v9 : Int32} {M9 : gq_M} (hC : gq_C p s m args meth c D A cI cZ ad mtR RX10 cX10_land 10) (hr : meth.sig.returnType = (some .int))   : ∀ (x1 : Int32) (x2 : Int32) (x3 : Int32) (x4 : Int32) (x5 : Int32) (x6 : Int32) (x7 : Int32) (M : gq_M), f_X10_land_67 N  x1 x2 x3 x4 x5 x6 x7 M = some (v9, M9) → gq_W p l e (gq_rm 2) s m args below meth c D A cI cZ ad mtR 10 (MQ below (gq_Qi D cI cZ ad mtR v9 M9 A) args s 0 0 A) 67 [(0, .ref (ad 0)), (1, .int x1), (2, .int x2), (3, .int x3), (4, .int x4), (5, .int x5), (6, .int x6), (7, .int x7)] [] M 0 0 := by
  intro x1 x2 x3 x4 x5 x6 x7 M h
  unfold f_X10_land_67 at h
  refine g_iconst (v := 0) hC (by decide) dX10_land_67 ?_
  exact g_weak [0, 1, 2, 3, 4, 5, 6, 7] rfl (t_X10_land_68 hC hr  x1 x2 x3 x4 x5 x6 x7 0 M h)
def f_X10_land_19 (N : Nat) (x1 : Int32) (x2 : Int32) (x3 : Int32) (x4 : Int32) (x5 : Int32) (x6 : Int32) (s0 : Int32) (M : gq_M) : Option (Int32 × gq_M) :=
  gq_b (f_X10_isIn N x3 0 2 M) fun v9 M10 => if v9 = 0 then (f_X10_land_67 N  x1 x2 x3 x4 x5 x6 s0 M10) else (gq_b (f_X10_isIn N x4 1 9 M10) fun v13 M14 => if v13 = 0 then (f_X10_land_67 N  x1 x2 x3 x4 x5 x6 s0 M14) else (gq_b (f_X10_isIn N x5 1 100 M14) fun v17 M18 => if v17 = 0 then (f_X10_land_67 N  x1 x2 x3 x4 x5 x6 s0 M18) else (gq_b (f_X10_isIn N x6 1 100 M18) fun v21 M22 => if v21 = 0 then (f_X10_land_67 N  x1 x2 x3 x4 x5 x6 s0 M22) else (f_X10_land_68 N  x1 x2 x3 x4 x5 x6 s0 1 M22))))
set_option maxHeartbeats 1000000 in
set_option maxRecDepth 20000 in
theorem t_X10_land_19 {N : Nat} {v9 : Int32} {M9 : gq_M} (hC : gq_C p s m args meth c D A cI cZ ad mtR RX10 cX10_land 10) (hr : meth.sig.returnType = (some .int))   : ∀ (x1 : Int32) (x2 : Int32) (x3 : Int32) (x4 : Int32) (x5 : Int32) (x6 : Int32) (s0 : Int32) (M : gq_M), f_X10_land_19 N  x1 x2 x3 x4 x5 x6 s0 M = some (v9, M9) → gq_W p l e (gq_rm 2) s m args below meth c D A cI cZ ad mtR 10 (MQ below (gq_Qi D cI cZ ad mtR v9 M9 A) args s 0 0 A) 19 [(0, .ref (ad 0)), (1, .int x1), (2, .int x2), (3, .int x3), (4, .int x4), (5, .int x5), (6, .int x6)] [.int s0] M 0 0 := by
  intro x1 x2 x3 x4 x5 x6 s0 M h
  unfold f_X10_land_19 at h
  refine g_istore (L2 := [(7, .int s0), (0, .ref (ad 0)), (1, .int x1), (2, .int x2), (3, .int x3), (4, .int x4), (5, .int x5), (6, .int x6)]) hC (by decide) rfl dX10_land_19 ?_
  refine g_iload_n hC 4 rfl rfl dX10_land_21 ?_
  refine g_iconst (v := 0) hC (by decide) dX10_land_22 ?_
  refine g_iconst (v := 2) hC (by decide) dX10_land_23 ?_
  obtain ⟨v9, M10, c11, h⟩ := gq_b_i h
  refine g_Si (as := [.int x3, .int 0, .int 2]) hC (t_X10_isIn N _ _ _ _ _ _ c11) mS_X10_isIn wm_X10_163 rfl rfl (Nat.le_of_ble_eq_true rfl) ⟨by decide, by decide⟩ ⟨by decide, by decide⟩ dX10_land_24 ?_
  refine g_if_eq (tgt := 67) hC (by decide) dX10_land_27 (fun c12 => ?_) (fun c12 => ?_)
  · replace h := gq_t c12 h
    exact g_weak [1, 2, 3, 4, 5, 6, 7, 0] rfl (t_X10_land_67 hC hr  x1 x2 x3 x4 x5 x6 s0 M10 h)
  · replace h := gq_f c12 h
    refine g_iload hC 5 rfl dX10_land_30 ?_
    refine g_iconst (v := 1) hC (by decide) dX10_land_32 ?_
    refine g_bipush (v := 9) hC (by decide) dX10_land_33 ?_
    obtain ⟨v13, M14, c15, h⟩ := gq_b_i h
    refine g_Si (as := [.int x4, .int 1, .int 9]) hC (t_X10_isIn N _ _ _ _ _ _ c15) mS_X10_isIn wm_X10_163 rfl rfl (Nat.le_of_ble_eq_true rfl) ⟨by decide, by decide⟩ ⟨by decide, by decide⟩ dX10_land_35 ?_
    refine g_if_eq (tgt := 67) hC (by decide) dX10_land_38 (fun c16 => ?_) (fun c16 => ?_)
    · replace h := gq_t c16 h
      exact g_weak [1, 2, 3, 4, 5, 6, 7, 0] rfl (t_X10_land_67 hC hr  x1 x2 x3 x4 x5 x6 s0 M14 h)
    · replace h := gq_f c16 h
      refine g_iload hC 6 rfl dX10_land_41 ?_
      refine g_iconst (v := 1) hC (by decide) dX10_land_43 ?_
      refine g_bipush (v := 100) hC (by decide) dX10_land_44 ?_
      obtain ⟨v17, M18, c19, h⟩ := gq_b_i h
      refine g_Si (as := [.int x5, .int 1, .int 100]) hC (t_X10_isIn N _ _ _ _ _ _ c19) mS_X10_isIn wm_X10_163 rfl rfl (Nat.le_of_ble_eq_true rfl) ⟨by decide, by decide⟩ ⟨by decide, by decide⟩ dX10_land_46 ?_
      refine g_if_eq (tgt := 67) hC (by decide) dX10_land_49 (fun c20 => ?_) (fun c20 => ?_)
      · replace h := gq_t c20 h
        exact g_weak [1, 2, 3, 4, 5, 6, 7, 0] rfl (t_X10_land_67 hC hr  x1 x2 x3 x4 x5 x6 s0 M18 h)
      · replace h := gq_f c20 h
        refine g_iload hC 7 rfl dX10_land_52 ?_
        refine g_iconst (v := 1) hC (by decide) dX10_land_54 ?_
        refine g_bipush (v := 100) hC (by decide) dX10_land_55 ?_
        obtain ⟨v21, M22, c23, h⟩ := gq_b_i h
        refine g_Si (as := [.int x6, .int 1, .int 100]) hC (t_X10_isIn N _ _ _ _ _ _ c23) mS_X10_isIn wm_X10_163 rfl rfl (Nat.le_of_ble_eq_true rfl) ⟨by decide, by decide⟩ ⟨by decide, by decide⟩ dX10_land_57 ?_
        refine g_if_eq (tgt := 67) hC (by decide) dX10_land_60 (fun c24 => ?_) (fun c24 => ?_)
        · replace h := gq_t c24 h
          exact g_weak [1, 2, 3, 4, 5, 6, 7, 0] rfl (t_X10_land_67 hC hr  x1 x2 x3 x4 x5 x6 s0 M22 h)
        · replace h := gq_f c24 h
          refine g_iconst (v := 1) hC (by decide) dX10_land_63 ?_
          refine g_goto (tgt := 68) hC (by decide) dX10_land_64 ?_
          exact g_weak [1, 2, 3, 4, 5, 6, 7, 0] rfl (t_X10_land_68 hC hr  x1 x2 x3 x4 x5 x6 s0 1 M22 h)
def f_X10_land_18 (N : Nat) (x1 : Int32) (x2 : Int32) (x3 : Int32) (x4 : Int32) (x5 : Int32) (x6 : Int32) (M : gq_M) : Option (Int32 × gq_M) :=
  f_X10_land_19 N  x1 x2 x3 x4 x5 x6 0 M
set_option maxHeartbeats 1000000 in
set_option maxRecDepth 20000 in
theorem t_X10_land_18 {N : Nat} {v9 : Int32} {M9 : gq_M} (hC : gq_C p s m args meth c D A cI cZ ad mtR RX10 cX10_land 10) (hr : meth.sig.returnType = (some .int))   : ∀ (x1 : Int32) (x2 : Int32) (x3 : Int32) (x4 : Int32) (x5 : Int32) (x6 : Int32) (M : gq_M), f_X10_land_18 N  x1 x2 x3 x4 x5 x6 M = some (v9, M9) → gq_W p l e (gq_rm 2) s m args below meth c D A cI cZ ad mtR 10 (MQ below (gq_Qi D cI cZ ad mtR v9 M9 A) args s 0 0 A) 18 [(0, .ref (ad 0)), (1, .int x1), (2, .int x2), (3, .int x3), (4, .int x4), (5, .int x5), (6, .int x6)] [] M 0 0 := by
  intro x1 x2 x3 x4 x5 x6 M h
  unfold f_X10_land_18 at h
  refine g_iconst (v := 0) hC (by decide) dX10_land_18 ?_
  exact g_weak [0, 1, 2, 3, 4, 5, 6] rfl (t_X10_land_19 hC hr  x1 x2 x3 x4 x5 x6 0 M h)
def f_X10_land (N : Nat) (a1 : Int32) (a2 : Int32) (a3 : Int32) (a4 : Int32) (a5 : Int32) (a6 : Int32) (M : gq_M) : Option (Int32 × gq_M) :=
  gq_b (f_X10_isEight N a1 M) fun v1 M2 => if v1 = 0 then (f_X10_land_18 N  a1 a2 a3 a4 a5 a6 M2) else (gq_b (f_X10_isKind N a2 M2) fun v5 M6 => if v5 = 0 then (f_X10_land_18 N  a1 a2 a3 a4 a5 a6 M6) else (f_X10_land_19 N  a1 a2 a3 a4 a5 a6 1 M6))
set_option maxHeartbeats 1000000 in
set_option maxRecDepth 20000 in
theorem t_X10_land {l : Launch} {D : va_G} {cI cZ : ClassId} {ad : Nat → Nat} (N : Nat) (a1 : Int32) (a2 : Int32) (a3 : Int32) (a4 : Int32) (a5 : Int32) (a6 : Int32) (M : gq_M) (v9 : Int32) (M9 : gq_M) (h : f_X10_land N a1 a2 a3 a4 a5 a6 M = some (v9, M9)) : gq_Ci l D cI cZ ad mtR yX10_land cX10_land 10 (some .int) 2 [.ref (ad 0), .int a1, .int a2, .int a3, .int a4, .int a5, .int a6] M v9 M9 := by
  refine gq_introI (own := RX10) (by decide) rfl (Nat.le_of_ble_eq_true rfl) ?_
  intro p e s m below meth c hC hr
  refine g_cast (L2 := [(0, .ref (ad 0)), (1, .int a1), (2, .int a2), (3, .int a3), (4, .int a4), (5, .int a5), (6, .int a6)]) ?_ rfl rfl rfl rfl
  unfold f_X10_land at h
  refine g_iload_n hC 1 rfl rfl dX10_land_0 ?_
  obtain ⟨v1, M2, c3, h⟩ := gq_b_i h
  refine g_Si (as := [.int a1]) hC (t_X10_isEight N _ _ _ _ c3) mS_X10_isEight wm_X10_170 rfl rfl (Nat.le_of_ble_eq_true rfl) ⟨by decide, by decide⟩ ⟨by decide, by decide⟩ dX10_land_1 ?_
  refine g_if_eq (tgt := 18) hC (by decide) dX10_land_4 (fun c4 => ?_) (fun c4 => ?_)
  · replace h := gq_t c4 h
    exact g_weak [0, 1, 2, 3, 4, 5, 6] rfl (t_X10_land_18 hC hr  a1 a2 a3 a4 a5 a6 M2 h)
  · replace h := gq_f c4 h
    refine g_iload_n hC 2 rfl rfl dX10_land_7 ?_
    obtain ⟨v5, M6, c7, h⟩ := gq_b_i h
    refine g_Si (as := [.int a2]) hC (t_X10_isKind N _ _ _ _ c7) mS_X10_isKind wm_X10_174 rfl rfl (Nat.le_of_ble_eq_true rfl) ⟨by decide, by decide⟩ ⟨by decide, by decide⟩ dX10_land_8 ?_
    refine g_if_eq (tgt := 18) hC (by decide) dX10_land_11 (fun c8 => ?_) (fun c8 => ?_)
    · replace h := gq_t c8 h
      exact g_weak [0, 1, 2, 3, 4, 5, 6] rfl (t_X10_land_18 hC hr  a1 a2 a3 a4 a5 a6 M6 h)
    · replace h := gq_f c8 h
      refine g_iconst (v := 1) hC (by decide) dX10_land_14 ?_
      refine g_goto (tgt := 19) hC (by decide) dX10_land_15 ?_
      exact g_weak [0, 1, 2, 3, 4, 5, 6] rfl (t_X10_land_19 hC hr  a1 a2 a3 a4 a5 a6 1 M6 h)
def f_X10_isToSell_25 (N : Nat) (s0 : Int32) (M : gq_M) : Option (Int32 × gq_M) :=
  gq_g (gq_bb s0) (some (s0, M))
set_option maxHeartbeats 1000000 in
set_option maxRecDepth 20000 in
theorem t_X10_isToSell_25 {N : Nat} {v9 : Int32} {M9 : gq_M} (hC : gq_C p s m args meth c D A cI cZ ad mtR RX10 cX10_isToSell 2) (hr : meth.sig.returnType = (some .boolean))   : ∀ (s0 : Int32) (M : gq_M), f_X10_isToSell_25 N  s0 M = some (v9, M9) → gq_W p l e (gq_rm 0) s m args below meth c D A cI cZ ad mtR 2 (MQ below (gq_Qi D cI cZ ad mtR v9 M9 A) args s 0 0 A) 25 [] [.int s0] M 0 0 := by
  intro s0 M h
  unfold f_X10_isToSell_25 at h
  obtain ⟨g7, h⟩ := gq_g_i h
  exact g_zrets hC hr (gq_bb_i g7) h dX10_isToSell_25
def f_X10_isToSell_20 (N : Nat) (M : gq_M) : Option (Int32 × gq_M) :=
  f_X10_isToSell_25 N  1 M
set_option maxHeartbeats 1000000 in
set_option maxRecDepth 20000 in
theorem t_X10_isToSell_20 {N : Nat} {v9 : Int32} {M9 : gq_M} (hC : gq_C p s m args meth c D A cI cZ ad mtR RX10 cX10_isToSell 2) (hr : meth.sig.returnType = (some .boolean))   : ∀ (M : gq_M), f_X10_isToSell_20 N   M = some (v9, M9) → gq_W p l e (gq_rm 0) s m args below meth c D A cI cZ ad mtR 2 (MQ below (gq_Qi D cI cZ ad mtR v9 M9 A) args s 0 0 A) 20 [] [] M 0 0 := by
  intro  M h
  unfold f_X10_isToSell_20 at h
  refine g_iconst (v := 1) hC (by decide) dX10_isToSell_20 ?_
  refine g_goto (tgt := 25) hC (by decide) dX10_isToSell_21 ?_
  exact g_weak [] rfl (t_X10_isToSell_25 hC hr  1 M h)
def f_X10_isToSell (N : Nat) (a1 : Int32) (M : gq_M) : Option (Int32 × gq_M) :=
  gq_g (gq_in a1 150) (gq_l (M 19 a1.toNatClampNeg) fun v2 => if v2 = 0 then (f_X10_isToSell_20 N   M) else (gq_g (gq_in a1 150) (gq_l (M 19 a1.toNatClampNeg) fun v5 => if v5 = 6 then (f_X10_isToSell_20 N   M) else (f_X10_isToSell_25 N  0 M))))
set_option maxHeartbeats 1000000 in
set_option maxRecDepth 20000 in
theorem t_X10_isToSell {l : Launch} {D : va_G} {cI cZ : ClassId} {ad : Nat → Nat} (N : Nat) (a1 : Int32) (M : gq_M) (v9 : Int32) (M9 : gq_M) (h : f_X10_isToSell N a1 M = some (v9, M9)) : gq_Ci l D cI cZ ad mtR yX10_isToSell cX10_isToSell 2 (some .boolean) 0 [.ref (ad 0), .int a1] M v9 M9 := by
  refine gq_introI (own := RX10) (by decide) rfl (Nat.le_of_ble_eq_true rfl) ?_
  intro p e s m below meth c hC hr
  refine g_cast (L2 := [(0, .ref (ad 0)), (1, .int a1)]) ?_ rfl rfl rfl rfl
  unfold f_X10_isToSell at h
  refine g_aload_n hC 0 rfl rfl dX10_isToSell_0 ?_
  refine g_getR hC fF_X10_69 lkR_0_23 dX10_isToSell_1 ?_
  refine g_iload_n hC 1 rfl rfl dX10_isToSell_4 ?_
  obtain ⟨g1, h⟩ := gq_g_i h
  refine g_iald hC arR_19 (gq_in_i g1) dX10_isToSell_5 ?_
  refine g_topi (fun v2 hv2 => ?_)
  replace h := gq_l_i hv2 h
  refine g_if_eq (tgt := 20) hC (by decide) dX10_isToSell_6 (fun c3 => ?_) (fun c3 => ?_)
  · replace h := gq_t c3 h
    exact g_weak [] rfl (t_X10_isToSell_20 hC hr   M h)
  · replace h := gq_f c3 h
    refine g_aload_n hC 0 rfl rfl dX10_isToSell_9 ?_
    refine g_getR hC fF_X10_69 lkR_0_23 dX10_isToSell_10 ?_
    refine g_iload_n hC 1 rfl rfl dX10_isToSell_13 ?_
    obtain ⟨g4, h⟩ := gq_g_i h
    refine g_iald hC arR_19 (gq_in_i g4) dX10_isToSell_14 ?_
    refine g_topi (fun v5 hv5 => ?_)
    replace h := gq_l_i hv5 h
    refine g_bipush (v := 6) hC (by decide) dX10_isToSell_15 ?_
    refine g_icmp_ne (tgt := 24) hC (by decide) dX10_isToSell_17 (fun c6 => ?_) (fun c6 => ?_)
    · replace h := gq_f c6 h
      refine g_iconst (v := 0) hC (by decide) dX10_isToSell_24 ?_
      exact g_weak [] rfl (t_X10_isToSell_25 hC hr  0 M h)
    · replace h := gq_t c6 h
      exact g_weak [] rfl (t_X10_isToSell_20 hC hr   M h)
def f_X10_ready_48 (N : Nat) (kh4 : Int32 → Int32 → Int32 → gq_M → Option (Int32 × gq_M)) (x1 : Int32) (x3 : Int32) (s0 : Int32) (s1 : Int32) (M : gq_M) : Option (Int32 × gq_M) :=
  kh4 x1 (s0 ||| s1) (x3 + 1) M
set_option maxHeartbeats 1000000 in
set_option maxRecDepth 20000 in
theorem t_X10_ready_48 {N : Nat} {kh4 : Int32 → Int32 → Int32 → gq_M → Option (Int32 × gq_M)} {v9 : Int32} {M9 : gq_M} (hC : gq_C p s m args meth c D A cI cZ ad mtR RX10 cX10_ready 4) (hr : meth.sig.returnType = (some .int)) (hk4 : ∀ (x1 : Int32) (x2 : Int32) (x3 : Int32) (M : gq_M), kh4 x1 x2 x3 M = some (v9, M9) → gq_W p l e (gq_rm 1) s m args below meth c D A cI cZ ad mtR 4 (MQ below (gq_Qi D cI cZ ad mtR v9 M9 A) args s 0 0 A) 4 [(0, .ref (ad 0)), (1, .int x1), (2, .int x2), (3, .int x3)] [] M 0 0)  : ∀ (x1 : Int32) (x3 : Int32) (s0 : Int32) (s1 : Int32) (M : gq_M), f_X10_ready_48 N kh4 x1 x3 s0 s1 M = some (v9, M9) → gq_W p l e (gq_rm 1) s m args below meth c D A cI cZ ad mtR 4 (MQ below (gq_Qi D cI cZ ad mtR v9 M9 A) args s 0 0 A) 48 [(0, .ref (ad 0)), (1, .int x1), (3, .int x3)] [.int s1, .int s0] M 0 0 := by
  intro x1 x3 s0 s1 M h
  unfold f_X10_ready_48 at h
  refine g_ior hC dX10_ready_48 ?_
  refine g_istore_n (L2 := [(2, .int (s0 ||| s1)), (0, .ref (ad 0)), (1, .int x1), (3, .int x3)]) hC rfl (by decide) rfl dX10_ready_49 ?_
  refine g_iinc (v := (x3 + 1)) (L2 := [(3, .int (x3 + 1)), (2, .int (s0 ||| s1)), (0, .ref (ad 0)), (1, .int x1)]) hC 3 rfl (by first | rfl | decide) (by decide) rfl dX10_ready_50 ?_
  refine g_goto (tgt := 4) hC (by decide) dX10_ready_53 ?_
  exact g_weak [2, 3, 1, 0] rfl (hk4 x1 (s0 ||| s1) (x3 + 1) M h)
def f_X10_ready_47 (N : Nat) (kh4 : Int32 → Int32 → Int32 → gq_M → Option (Int32 × gq_M)) (x1 : Int32) (x3 : Int32) (s0 : Int32) (M : gq_M) : Option (Int32 × gq_M) :=
  f_X10_ready_48 N kh4 x1 x3 s0 0 M
set_option maxHeartbeats 1000000 in
set_option maxRecDepth 20000 in
theorem t_X10_ready_47 {N : Nat} {kh4 : Int32 → Int32 → Int32 → gq_M → Option (Int32 × gq_M)} {v9 : Int32} {M9 : gq_M} (hC : gq_C p s m args meth c D A cI cZ ad mtR RX10 cX10_ready 4) (hr : meth.sig.returnType = (some .int)) (hk4 : ∀ (x1 : Int32) (x2 : Int32) (x3 : Int32) (M : gq_M), kh4 x1 x2 x3 M = some (v9, M9) → gq_W p l e (gq_rm 1) s m args below meth c D A cI cZ ad mtR 4 (MQ below (gq_Qi D cI cZ ad mtR v9 M9 A) args s 0 0 A) 4 [(0, .ref (ad 0)), (1, .int x1), (2, .int x2), (3, .int x3)] [] M 0 0)  : ∀ (x1 : Int32) (x3 : Int32) (s0 : Int32) (M : gq_M), f_X10_ready_47 N kh4 x1 x3 s0 M = some (v9, M9) → gq_W p l e (gq_rm 1) s m args below meth c D A cI cZ ad mtR 4 (MQ below (gq_Qi D cI cZ ad mtR v9 M9 A) args s 0 0 A) 47 [(0, .ref (ad 0)), (1, .int x1), (3, .int x3)] [.int s0] M 0 0 := by
  intro x1 x3 s0 M h
  unfold f_X10_ready_47 at h
  refine g_iconst (v := 0) hC (by decide) dX10_ready_47 ?_
  exact g_weak [0, 1, 2] rfl (t_X10_ready_48 hC hr hk4 x1 x3 s0 0 M h)
def f_X10_ready_4_b (N : Nat) (kh4 : Int32 → Int32 → Int32 → gq_M → Option (Int32 × gq_M)) (x1 : Int32) (x2 : Int32) (x3 : Int32) (M : gq_M) : Option (Int32 × gq_M) :=
  if (M 0 16) ≤ x3 then (some (x2, M)) else (gq_b (f_X10_isToSell N x3 M) fun v2 M3 => if v2 = 0 then (f_X10_ready_47 N kh4 x1 x3 x2 M3) else (gq_g (gq_in x3 150) (gq_l (M3 13 x3.toNatClampNeg) fun v7 => gq_g (gq_in v7 8) (gq_l (M3 4 v7.toNatClampNeg) fun v9 => if v9 = x1 then (gq_g (gq_in x3 150) (gq_l (M3 13 x3.toNatClampNeg) fun v12 => f_X10_ready_48 N kh4 x1 x3 x2 (1 <<< (v12 &&& 31)) M3)) else (f_X10_ready_47 N kh4 x1 x3 x2 M3)))))
def f_X10_ready_4 (N : Nat) : Nat → Int32 → Int32 → Int32 → gq_M → Option (Int32 × gq_M)
  | 0 => fun _ _ _ _ => none
  | n9 + 1 => f_X10_ready_4_b N  (f_X10_ready_4 N  n9)
set_option maxHeartbeats 1000000 in
set_option maxRecDepth 20000 in
theorem t_X10_ready_4_b {N : Nat} {kh4 : Int32 → Int32 → Int32 → gq_M → Option (Int32 × gq_M)} {v9 : Int32} {M9 : gq_M} (hC : gq_C p s m args meth c D A cI cZ ad mtR RX10 cX10_ready 4) (hr : meth.sig.returnType = (some .int))  (hk4 : ∀ (x1 : Int32) (x2 : Int32) (x3 : Int32) (M : gq_M), kh4 x1 x2 x3 M = some (v9, M9) → gq_W p l e (gq_rm 1) s m args below meth c D A cI cZ ad mtR 4 (MQ below (gq_Qi D cI cZ ad mtR v9 M9 A) args s 0 0 A) 4 [(0, .ref (ad 0)), (1, .int x1), (2, .int x2), (3, .int x3)] [] M 0 0) : ∀ (x1 : Int32) (x2 : Int32) (x3 : Int32) (M : gq_M), f_X10_ready_4_b N  kh4 x1 x2 x3 M = some (v9, M9) → gq_W p l e (gq_rm 1) s m args below meth c D A cI cZ ad mtR 4 (MQ below (gq_Qi D cI cZ ad mtR v9 M9 A) args s 0 0 A) 4 [(0, .ref (ad 0)), (1, .int x1), (2, .int x2), (3, .int x3)] [] M 0 0 := by
  intro x1 x2 x3 M h
  unfold f_X10_ready_4_b at h
  refine g_iload_n hC 3 rfl rfl dX10_ready_4 ?_
  refine g_aload_n hC 0 rfl rfl dX10_ready_5 ?_
  refine g_getI hC fF_X10_167 lkR_0_16 dX10_ready_6 ?_
  refine g_icmp_ge (tgt := 56) hC (by decide) dX10_ready_9 (fun c1 => ?_) (fun c1 => ?_)
  · replace h := gq_t c1 h
    refine g_iload_n hC 2 rfl rfl dX10_ready_56 ?_
    exact g_irets hC hr h dX10_ready_57
  · replace h := gq_f c1 h
    refine g_iload_n hC 2 rfl rfl dX10_ready_12 ?_
    refine g_aload_n hC 0 rfl rfl dX10_ready_13 ?_
    refine g_iload_n hC 3 rfl rfl dX10_ready_14 ?_
    obtain ⟨v2, M3, c4, h⟩ := gq_b_i h
    refine g_Vi (as := [.int x3]) hC (t_X10_isToSell N _ _ _ _ c4) mV_X10_isToSell  wm_X10_185 obR_0 rfl rfl (Nat.le_of_ble_eq_true rfl) ⟨by decide, by decide⟩ ⟨by decide, by decide⟩ dX10_ready_15 ?_
    refine g_if_eq (tgt := 47) hC (by decide) dX10_ready_18 (fun c5 => ?_) (fun c5 => ?_)
    · replace h := gq_t c5 h
      exact g_weak [0, 1, 3] rfl (t_X10_ready_47 hC hr hk4 x1 x3 x2 M3 h)
    · replace h := gq_f c5 h
      refine g_aload_n hC 0 rfl rfl dX10_ready_21 ?_
      refine g_getR hC fF_X10_23 lkR_0_7 dX10_ready_22 ?_
      refine g_aload_n hC 0 rfl rfl dX10_ready_25 ?_
      refine g_getR hC fF_X10_51 lkR_0_17 dX10_ready_26 ?_
      refine g_iload_n hC 3 rfl rfl dX10_ready_29 ?_
      obtain ⟨g6, h⟩ := gq_g_i h
      refine g_iald hC arR_13 (gq_in_i g6) dX10_ready_30 ?_
      refine g_topi (fun v7 hv7 => ?_)
      replace h := gq_l_i hv7 h
      obtain ⟨g8, h⟩ := gq_g_i h
      refine g_zald hC arR_4 (gq_in_i g8) dX10_ready_31 ?_
      refine g_topi (fun v9 hv9 => ?_)
      replace h := gq_l_i hv9 h
      refine g_iload_n hC 1 rfl rfl dX10_ready_32 ?_
      refine g_icmp_ne (tgt := 47) hC (by decide) dX10_ready_33 (fun c10 => ?_) (fun c10 => ?_)
      · replace h := gq_f c10 h
        exact g_weak [0, 1, 3] rfl (t_X10_ready_47 hC hr hk4 x1 x3 x2 M3 h)
      · replace h := gq_t c10 h
        refine g_iconst (v := 1) hC (by decide) dX10_ready_36 ?_
        refine g_aload_n hC 0 rfl rfl dX10_ready_37 ?_
        refine g_getR hC fF_X10_51 lkR_0_17 dX10_ready_38 ?_
        refine g_iload_n hC 3 rfl rfl dX10_ready_41 ?_
        obtain ⟨g11, h⟩ := gq_g_i h
        refine g_iald hC arR_13 (gq_in_i g11) dX10_ready_42 ?_
        refine g_topi (fun v12 hv12 => ?_)
        replace h := gq_l_i hv12 h
        refine g_ishl hC dX10_ready_43 ?_
        refine g_goto (tgt := 48) hC (by decide) dX10_ready_44 ?_
        exact g_weak [0, 1, 3] rfl (t_X10_ready_48 hC hr hk4 x1 x3 x2 (1 <<< (v12 &&& 31)) M3 h)
theorem t_X10_ready_4 {N : Nat} {v9 : Int32} {M9 : gq_M} (hC : gq_C p s m args meth c D A cI cZ ad mtR RX10 cX10_ready 4) (hr : meth.sig.returnType = (some .int))  : ∀ (n9 : Nat) (x1 : Int32) (x2 : Int32) (x3 : Int32) (M : gq_M), f_X10_ready_4 N  n9 x1 x2 x3 M = some (v9, M9) → gq_W p l e (gq_rm 1) s m args below meth c D A cI cZ ad mtR 4 (MQ below (gq_Qi D cI cZ ad mtR v9 M9 A) args s 0 0 A) 4 [(0, .ref (ad 0)), (1, .int x1), (2, .int x2), (3, .int x3)] [] M 0 0 := by
  intro n9
  induction n9 with
  | zero => intro x1 x2 x3 M h; cases h
  | succ n9 ih => intro x1 x2 x3 M h; exact t_X10_ready_4_b hC hr  ih x1 x2 x3 M h
def f_X10_ready (N : Nat) (a1 : Int32) (M : gq_M) : Option (Int32 × gq_M) :=
  f_X10_ready_4 N  N a1 0 0 M
set_option maxHeartbeats 1000000 in
set_option maxRecDepth 20000 in
theorem t_X10_ready {l : Launch} {D : va_G} {cI cZ : ClassId} {ad : Nat → Nat} (N : Nat) (a1 : Int32) (M : gq_M) (v9 : Int32) (M9 : gq_M) (h : f_X10_ready N a1 M = some (v9, M9)) : gq_Ci l D cI cZ ad mtR yX10_ready cX10_ready 4 (some .int) 1 [.ref (ad 0), .int a1] M v9 M9 := by
  refine gq_introI (own := RX10) (by decide) rfl (Nat.le_of_ble_eq_true rfl) ?_
  intro p e s m below meth c hC hr
  refine g_cast (L2 := [(0, .ref (ad 0)), (1, .int a1)]) ?_ rfl rfl rfl rfl
  unfold f_X10_ready at h
  refine g_iconst (v := 0) hC (by decide) dX10_ready_0 ?_
  refine g_istore_n (L2 := [(2, .int 0), (0, .ref (ad 0)), (1, .int a1)]) hC rfl (by decide) rfl dX10_ready_1 ?_
  refine g_iconst (v := 0) hC (by decide) dX10_ready_2 ?_
  refine g_istore_n (L2 := [(3, .int 0), (2, .int 0), (0, .ref (ad 0)), (1, .int a1)]) hC rfl (by decide) rfl dX10_ready_3 ?_
  exact g_weak [2, 3, 1, 0] rfl (t_X10_ready_4 hC hr  N a1 0 0 M h)
def f_X10_size_4_b (N : Nat) (kh4 : Int32 → Int32 → Int32 → gq_M → Option (Int32 × gq_M)) (x0 : Int32) (x1 : Int32) (x2 : Int32) (M : gq_M) : Option (Int32 × gq_M) :=
  if 8 ≤ x2 then (some (x1, M)) else (kh4 x0 (x1 + ((x0 >>> (x2 &&& 31)) &&& 1)) (x2 + 1) M)
def f_X10_size_4 (N : Nat) : Nat → Int32 → Int32 → Int32 → gq_M → Option (Int32 × gq_M)
  | 0 => fun _ _ _ _ => none
  | n9 + 1 => f_X10_size_4_b N  (f_X10_size_4 N  n9)
set_option maxHeartbeats 1000000 in
set_option maxRecDepth 20000 in
theorem t_X10_size_4_b {N : Nat} {kh4 : Int32 → Int32 → Int32 → gq_M → Option (Int32 × gq_M)} {v9 : Int32} {M9 : gq_M} (hC : gq_C p s m args meth c D A cI cZ ad mtR RX10 cX10_size 3) (hr : meth.sig.returnType = (some .int))  (hk4 : ∀ (x0 : Int32) (x1 : Int32) (x2 : Int32) (M : gq_M), kh4 x0 x1 x2 M = some (v9, M9) → gq_W p l e (gq_rm 0) s m args below meth c D A cI cZ ad mtR 3 (MQ below (gq_Qi D cI cZ ad mtR v9 M9 A) args s 0 0 A) 4 [(0, .int x0), (1, .int x1), (2, .int x2)] [] M 0 0) : ∀ (x0 : Int32) (x1 : Int32) (x2 : Int32) (M : gq_M), f_X10_size_4_b N  kh4 x0 x1 x2 M = some (v9, M9) → gq_W p l e (gq_rm 0) s m args below meth c D A cI cZ ad mtR 3 (MQ below (gq_Qi D cI cZ ad mtR v9 M9 A) args s 0 0 A) 4 [(0, .int x0), (1, .int x1), (2, .int x2)] [] M 0 0 := by
  intro x0 x1 x2 M h
  unfold f_X10_size_4_b at h
  refine g_iload_n hC 2 rfl rfl dX10_size_4 ?_
  refine g_bipush (v := 8) hC (by decide) dX10_size_5 ?_
  refine g_icmp_ge (tgt := 24) hC (by decide) dX10_size_7 (fun c1 => ?_) (fun c1 => ?_)
  · replace h := gq_t c1 h
    refine g_iload_n hC 1 rfl rfl dX10_size_24 ?_
    exact g_irets hC hr h dX10_size_25
  · replace h := gq_f c1 h
    refine g_iload_n hC 1 rfl rfl dX10_size_10 ?_
    refine g_iload_n hC 0 rfl rfl dX10_size_11 ?_
    refine g_iload_n hC 2 rfl rfl dX10_size_12 ?_
    refine g_ishr hC dX10_size_13 ?_
    refine g_iconst (v := 1) hC (by decide) dX10_size_14 ?_
    refine g_iand hC dX10_size_15 ?_
    refine g_iadd hC dX10_size_16 ?_
    refine g_istore_n (L2 := [(1, .int (x1 + ((x0 >>> (x2 &&& 31)) &&& 1))), (0, .int x0), (2, .int x2)]) hC rfl (by decide) rfl dX10_size_17 ?_
    refine g_iinc (v := (x2 + 1)) (L2 := [(2, .int (x2 + 1)), (1, .int (x1 + ((x0 >>> (x2 &&& 31)) &&& 1))), (0, .int x0)]) hC 2 rfl (by first | rfl | decide) (by decide) rfl dX10_size_18 ?_
    refine g_goto (tgt := 4) hC (by decide) dX10_size_21 ?_
    exact g_weak [2, 1, 0] rfl (hk4 x0 (x1 + ((x0 >>> (x2 &&& 31)) &&& 1)) (x2 + 1) M h)
theorem t_X10_size_4 {N : Nat} {v9 : Int32} {M9 : gq_M} (hC : gq_C p s m args meth c D A cI cZ ad mtR RX10 cX10_size 3) (hr : meth.sig.returnType = (some .int))  : ∀ (n9 : Nat) (x0 : Int32) (x1 : Int32) (x2 : Int32) (M : gq_M), f_X10_size_4 N  n9 x0 x1 x2 M = some (v9, M9) → gq_W p l e (gq_rm 0) s m args below meth c D A cI cZ ad mtR 3 (MQ below (gq_Qi D cI cZ ad mtR v9 M9 A) args s 0 0 A) 4 [(0, .int x0), (1, .int x1), (2, .int x2)] [] M 0 0 := by
  intro n9
  induction n9 with
  | zero => intro x0 x1 x2 M h; cases h
  | succ n9 ih => intro x0 x1 x2 M h; exact t_X10_size_4_b hC hr  ih x0 x1 x2 M h
def f_X10_size (N : Nat) (a0 : Int32) (M : gq_M) : Option (Int32 × gq_M) :=
  f_X10_size_4 N  N a0 0 0 M
set_option maxHeartbeats 1000000 in
set_option maxRecDepth 20000 in
theorem t_X10_size {l : Launch} {D : va_G} {cI cZ : ClassId} {ad : Nat → Nat} (N : Nat) (a0 : Int32) (M : gq_M) (v9 : Int32) (M9 : gq_M) (h : f_X10_size N a0 M = some (v9, M9)) : gq_Ci l D cI cZ ad mtR yX10_size cX10_size 3 (some .int) 0 [.int a0] M v9 M9 := by
  refine gq_introI (own := RX10) (by decide) rfl (Nat.le_of_ble_eq_true rfl) ?_
  intro p e s m below meth c hC hr
  refine g_cast (L2 := [(0, .int a0)]) ?_ rfl rfl rfl rfl
  unfold f_X10_size at h
  refine g_iconst (v := 0) hC (by decide) dX10_size_0 ?_
  refine g_istore_n (L2 := [(1, .int 0), (0, .int a0)]) hC rfl (by decide) rfl dX10_size_1 ?_
  refine g_iconst (v := 0) hC (by decide) dX10_size_2 ?_
  refine g_istore_n (L2 := [(2, .int 0), (1, .int 0), (0, .int a0)]) hC rfl (by decide) rfl dX10_size_3 ?_
  exact g_weak [2, 1, 0] rfl (t_X10_size_4 hC hr  N a0 0 0 M h)
def f_X10_drawn_64 (N : Nat) (kh33 : Int32 → Int32 → Int32 → Int32 → gq_M → Option (Int32 × gq_M)) (x1 : Int32) (x2 : Int32) (x3 : Int32) (x4 : Int32) (M : gq_M) : Option (Int32 × gq_M) :=
  kh33 x1 x2 x3 (x4 + 1) M
set_option maxHeartbeats 1000000 in
set_option maxRecDepth 20000 in
theorem t_X10_drawn_64 {N : Nat} {kh33 : Int32 → Int32 → Int32 → Int32 → gq_M → Option (Int32 × gq_M)} {v9 : Int32} {M9 : gq_M} (hC : gq_C p s m args meth c D A cI cZ ad mtR RX10 cX10_drawn 5) (hr : meth.sig.returnType = (some .int)) (hk33 : ∀ (x1 : Int32) (x2 : Int32) (x3 : Int32) (x4 : Int32) (M : gq_M), kh33 x1 x2 x3 x4 M = some (v9, M9) → gq_W p l e (gq_rm 1) s m args below meth c D A cI cZ ad mtR 5 (MQ below (gq_Qi D cI cZ ad mtR v9 M9 A) args s 0 0 A) 33 [(1, .int x1), (2, .int x2), (3, .int x3), (4, .int x4)] [] M 0 0)  : ∀ (x1 : Int32) (x2 : Int32) (x3 : Int32) (x4 : Int32) (M : gq_M), f_X10_drawn_64 N kh33 x1 x2 x3 x4 M = some (v9, M9) → gq_W p l e (gq_rm 1) s m args below meth c D A cI cZ ad mtR 5 (MQ below (gq_Qi D cI cZ ad mtR v9 M9 A) args s 0 0 A) 64 [(1, .int x1), (2, .int x2), (3, .int x3), (4, .int x4)] [] M 0 0 := by
  intro x1 x2 x3 x4 M h
  unfold f_X10_drawn_64 at h
  refine g_iinc (v := (x4 + 1)) (L2 := [(4, .int (x4 + 1)), (1, .int x1), (2, .int x2), (3, .int x3)]) hC 3 rfl (by first | rfl | decide) (by decide) rfl dX10_drawn_64 ?_
  refine g_goto (tgt := 33) hC (by decide) dX10_drawn_67 ?_
  exact g_weak [1, 2, 3, 0] rfl (hk33 x1 x2 x3 (x4 + 1) M h)
def f_X10_drawn_60 (N : Nat) (kh33 : Int32 → Int32 → Int32 → Int32 → gq_M → Option (Int32 × gq_M)) (x1 : Int32) (x2 : Int32) (x4 : Int32) (s0 : Int32) (M : gq_M) : Option (Int32 × gq_M) :=
  f_X10_drawn_64 N kh33 x1 (x2 + (-1)) s0 x4 M
set_option maxHeartbeats 1000000 in
set_option maxRecDepth 20000 in
theorem t_X10_drawn_60 {N : Nat} {kh33 : Int32 → Int32 → Int32 → Int32 → gq_M → Option (Int32 × gq_M)} {v9 : Int32} {M9 : gq_M} (hC : gq_C p s m args meth c D A cI cZ ad mtR RX10 cX10_drawn 5) (hr : meth.sig.returnType = (some .int)) (hk33 : ∀ (x1 : Int32) (x2 : Int32) (x3 : Int32) (x4 : Int32) (M : gq_M), kh33 x1 x2 x3 x4 M = some (v9, M9) → gq_W p l e (gq_rm 1) s m args below meth c D A cI cZ ad mtR 5 (MQ below (gq_Qi D cI cZ ad mtR v9 M9 A) args s 0 0 A) 33 [(1, .int x1), (2, .int x2), (3, .int x3), (4, .int x4)] [] M 0 0)  : ∀ (x1 : Int32) (x2 : Int32) (x4 : Int32) (s0 : Int32) (M : gq_M), f_X10_drawn_60 N kh33 x1 x2 x4 s0 M = some (v9, M9) → gq_W p l e (gq_rm 1) s m args below meth c D A cI cZ ad mtR 5 (MQ below (gq_Qi D cI cZ ad mtR v9 M9 A) args s 0 0 A) 60 [(1, .int x1), (2, .int x2), (4, .int x4)] [.int s0] M 0 0 := by
  intro x1 x2 x4 s0 M h
  unfold f_X10_drawn_60 at h
  refine g_istore_n (L2 := [(3, .int s0), (1, .int x1), (2, .int x2), (4, .int x4)]) hC rfl (by decide) rfl dX10_drawn_60 ?_
  refine g_iinc (v := (x2 + (-1))) (L2 := [(2, .int (x2 + (-1))), (3, .int s0), (1, .int x1), (4, .int x4)]) hC 2 rfl (by first | rfl | decide) (by decide) rfl dX10_drawn_61 ?_
  exact g_weak [2, 0, 1, 3] rfl (t_X10_drawn_64 hC hr hk33 x1 (x2 + (-1)) s0 x4 M h)
def f_X10_drawn_33_b (N : Nat) (kh33 : Int32 → Int32 → Int32 → Int32 → gq_M → Option (Int32 × gq_M)) (x1 : Int32) (x2 : Int32) (x3 : Int32) (x4 : Int32) (M : gq_M) : Option (Int32 × gq_M) :=
  if 8 ≤ x4 then (some (x3, M)) else (if ((x1 >>> (x4 &&& 31)) &&& 1) = 1 then (if x2 = 0 then (f_X10_drawn_60 N kh33 x1 x2 x4 x4 M) else (f_X10_drawn_60 N kh33 x1 x2 x4 x3 M)) else (f_X10_drawn_64 N kh33 x1 x2 x3 x4 M))
def f_X10_drawn_33 (N : Nat) : Nat → Int32 → Int32 → Int32 → Int32 → gq_M → Option (Int32 × gq_M)
  | 0 => fun _ _ _ _ _ => none
  | n9 + 1 => f_X10_drawn_33_b N  (f_X10_drawn_33 N  n9)
set_option maxHeartbeats 1000000 in
set_option maxRecDepth 20000 in
theorem t_X10_drawn_33_b {N : Nat} {kh33 : Int32 → Int32 → Int32 → Int32 → gq_M → Option (Int32 × gq_M)} {v9 : Int32} {M9 : gq_M} (hC : gq_C p s m args meth c D A cI cZ ad mtR RX10 cX10_drawn 5) (hr : meth.sig.returnType = (some .int))  (hk33 : ∀ (x1 : Int32) (x2 : Int32) (x3 : Int32) (x4 : Int32) (M : gq_M), kh33 x1 x2 x3 x4 M = some (v9, M9) → gq_W p l e (gq_rm 1) s m args below meth c D A cI cZ ad mtR 5 (MQ below (gq_Qi D cI cZ ad mtR v9 M9 A) args s 0 0 A) 33 [(1, .int x1), (2, .int x2), (3, .int x3), (4, .int x4)] [] M 0 0) : ∀ (x1 : Int32) (x2 : Int32) (x3 : Int32) (x4 : Int32) (M : gq_M), f_X10_drawn_33_b N  kh33 x1 x2 x3 x4 M = some (v9, M9) → gq_W p l e (gq_rm 1) s m args below meth c D A cI cZ ad mtR 5 (MQ below (gq_Qi D cI cZ ad mtR v9 M9 A) args s 0 0 A) 33 [(1, .int x1), (2, .int x2), (3, .int x3), (4, .int x4)] [] M 0 0 := by
  intro x1 x2 x3 x4 M h
  unfold f_X10_drawn_33_b at h
  refine g_iload hC 3 rfl dX10_drawn_33 ?_
  refine g_bipush (v := 8) hC (by decide) dX10_drawn_35 ?_
  refine g_icmp_ge (tgt := 70) hC (by decide) dX10_drawn_37 (fun c7 => ?_) (fun c7 => ?_)
  · replace h := gq_t c7 h
    refine g_iload_n hC 2 rfl rfl dX10_drawn_70 ?_
    exact g_irets hC hr h dX10_drawn_71
  · replace h := gq_f c7 h
    refine g_iload_n hC 0 rfl rfl dX10_drawn_40 ?_
    refine g_iload hC 3 rfl dX10_drawn_41 ?_
    refine g_ishr hC dX10_drawn_43 ?_
    refine g_iconst (v := 1) hC (by decide) dX10_drawn_44 ?_
    refine g_iand hC dX10_drawn_45 ?_
    refine g_iconst (v := 1) hC (by decide) dX10_drawn_46 ?_
    refine g_icmp_ne (tgt := 64) hC (by decide) dX10_drawn_47 (fun c8 => ?_) (fun c8 => ?_)
    · replace h := gq_f c8 h
      exact g_weak [0, 1, 2, 3] rfl (t_X10_drawn_64 hC hr hk33 x1 x2 x3 x4 M h)
    · replace h := gq_t c8 h
      refine g_iload_n hC 1 rfl rfl dX10_drawn_50 ?_
      refine g_if_ne (tgt := 59) hC (by decide) dX10_drawn_51 (fun c9 => ?_) (fun c9 => ?_)
      · replace h := gq_f c9 h
        refine g_iload_n hC 2 rfl rfl dX10_drawn_59 ?_
        exact g_weak [0, 1, 3] rfl (t_X10_drawn_60 hC hr hk33 x1 x2 x4 x3 M h)
      · replace h := gq_t c9 h
        refine g_iload hC 3 rfl dX10_drawn_54 ?_
        refine g_goto (tgt := 60) hC (by decide) dX10_drawn_56 ?_
        exact g_weak [0, 1, 3] rfl (t_X10_drawn_60 hC hr hk33 x1 x2 x4 x4 M h)
theorem t_X10_drawn_33 {N : Nat} {v9 : Int32} {M9 : gq_M} (hC : gq_C p s m args meth c D A cI cZ ad mtR RX10 cX10_drawn 5) (hr : meth.sig.returnType = (some .int))  : ∀ (n9 : Nat) (x1 : Int32) (x2 : Int32) (x3 : Int32) (x4 : Int32) (M : gq_M), f_X10_drawn_33 N  n9 x1 x2 x3 x4 M = some (v9, M9) → gq_W p l e (gq_rm 1) s m args below meth c D A cI cZ ad mtR 5 (MQ below (gq_Qi D cI cZ ad mtR v9 M9 A) args s 0 0 A) 33 [(1, .int x1), (2, .int x2), (3, .int x3), (4, .int x4)] [] M 0 0 := by
  intro n9
  induction n9 with
  | zero => intro x1 x2 x3 x4 M h; cases h
  | succ n9 ih => intro x1 x2 x3 x4 M h; exact t_X10_drawn_33_b hC hr  ih x1 x2 x3 x4 M h
def f_X10_drawn (N : Nat) (a1 : Int32) (M : gq_M) : Option (Int32 × gq_M) :=
  gq_l (gq_up M 0 3 (((M 0 3) * 1103515245) + 12345)) fun M1 => gq_l ((((M1 0 3) : Int32).toUInt32 >>> ((16 : Int32).toUInt32 &&& Int32.toUInt32 31)).toInt32) fun v2 => gq_b (f_X10_size N a1 M1) fun v3 M4 => gq_g (gq_nz v3) (f_X10_drawn_33 N  N a1 (v2 - v2 / v3 * v3) (-1) 0 M4)
set_option maxHeartbeats 1000000 in
set_option maxRecDepth 20000 in
theorem t_X10_drawn {l : Launch} {D : va_G} {cI cZ : ClassId} {ad : Nat → Nat} (N : Nat) (a1 : Int32) (M : gq_M) (v9 : Int32) (M9 : gq_M) (h : f_X10_drawn N a1 M = some (v9, M9)) : gq_Ci l D cI cZ ad mtR yX10_drawn cX10_drawn 5 (some .int) 1 [.ref (ad 0), .int a1] M v9 M9 := by
  refine gq_introI (own := RX10) (by decide) rfl (Nat.le_of_ble_eq_true rfl) ?_
  intro p e s m below meth c hC hr
  refine g_cast (L2 := [(0, .ref (ad 0)), (1, .int a1)]) ?_ rfl rfl rfl rfl
  unfold f_X10_drawn at h
  refine g_aload_n hC 0 rfl rfl dX10_drawn_0 ?_
  refine g_aload_n hC 0 rfl rfl dX10_drawn_1 ?_
  refine g_getI hC fF_X10_7 lkR_0_3 dX10_drawn_2 ?_
  refine g_ldc (v := 1103515245) hC wk_X10_188 dX10_drawn_5 ?_
  refine g_imul hC dX10_drawn_7 ?_
  refine g_sipush (v := 12345) hC (by decide) dX10_drawn_8 ?_
  refine g_iadd hC dX10_drawn_11 ?_
  refine g_putI hC fG_X10_7 lkR_0_3 dX10_drawn_12 ?_
  refine g_topM (fun M1 hM1 => ?_)
  replace h := gq_l_i hM1 h
  refine g_aload_n hC 0 rfl rfl dX10_drawn_15 ?_
  refine g_getI hC fF_X10_7 lkR_0_3 dX10_drawn_16 ?_
  refine g_bipush (v := 16) hC (by decide) dX10_drawn_19 ?_
  refine g_iushr hC dX10_drawn_21 ?_
  refine g_topi (fun v2 hv2 => ?_)
  replace h := gq_l_i hv2 h
  refine g_iload_n hC 1 rfl rfl dX10_drawn_22 ?_
  obtain ⟨v3, M4, c5, h⟩ := gq_b_i h
  refine g_Si (as := [.int a1]) hC (t_X10_size N _ _ _ _ c5) mS_X10_size wm_X10_189 rfl rfl (Nat.le_of_ble_eq_true rfl) ⟨by decide, by decide⟩ ⟨by decide, by decide⟩ dX10_drawn_23 ?_
  obtain ⟨g6, h⟩ := gq_g_i h
  refine g_irem hC (gq_nz_i g6) dX10_drawn_26 ?_
  refine g_istore_n (L2 := [(2, .int (v2 - v2 / v3 * v3)), (0, .ref (ad 0)), (1, .int a1)]) hC rfl (by decide) rfl dX10_drawn_27 ?_
  refine g_iconst (v := (-1)) hC (by decide) dX10_drawn_28 ?_
  refine g_istore_n (L2 := [(3, .int (-1)), (2, .int (v2 - v2 / v3 * v3)), (0, .ref (ad 0)), (1, .int a1)]) hC rfl (by decide) rfl dX10_drawn_29 ?_
  refine g_iconst (v := 0) hC (by decide) dX10_drawn_30 ?_
  refine g_istore (L2 := [(4, .int 0), (3, .int (-1)), (2, .int (v2 - v2 / v3 * v3)), (0, .ref (ad 0)), (1, .int a1)]) hC (by decide) rfl dX10_drawn_31 ?_
  exact g_weak [4, 2, 1, 0] rfl (t_X10_drawn_33 hC hr  N a1 (v2 - v2 / v3 * v3) (-1) 0 M4 h)
def f_X10_parts_210 (N : Nat) (kh2 : Int32 → Int32 → gq_M → Option (Int32 × gq_M)) (x1 : Int32) (x2 : Int32) (M : gq_M) : Option (Int32 × gq_M) :=
  kh2 x1 (x2 + 1) M
set_option maxHeartbeats 1000000 in
set_option maxRecDepth 20000 in
theorem t_X10_parts_210 {N : Nat} {kh2 : Int32 → Int32 → gq_M → Option (Int32 × gq_M)} {v9 : Int32} {M9 : gq_M} (hC : gq_C p s m args meth c D A cI cZ ad mtR RX10 cX10_parts 8) (hr : meth.sig.returnType = none) (hk2 : ∀ (x1 : Int32) (x2 : Int32) (M : gq_M), kh2 x1 x2 M = some (v9, M9) → gq_W p l e (gq_rm 1) s m args below meth c D A cI cZ ad mtR 8 (MQ below (gq_Qv D cI cZ ad mtR M9 A) args s 0 0 A) 2 [(0, .ref (ad 0)), (1, .int x1), (2, .int x2)] [] M 0 0)  : ∀ (x1 : Int32) (x2 : Int32) (M : gq_M), f_X10_parts_210 N kh2 x1 x2 M = some (v9, M9) → gq_W p l e (gq_rm 1) s m args below meth c D A cI cZ ad mtR 8 (MQ below (gq_Qv D cI cZ ad mtR M9 A) args s 0 0 A) 210 [(0, .ref (ad 0)), (1, .int x1), (2, .int x2)] [] M 0 0 := by
  intro x1 x2 M h
  unfold f_X10_parts_210 at h
  refine g_iinc (v := (x2 + 1)) (L2 := [(2, .int (x2 + 1)), (0, .ref (ad 0)), (1, .int x1)]) hC 2 rfl (by first | rfl | decide) (by decide) rfl dX10_parts_210 ?_
  refine g_goto (tgt := 2) hC (by decide) dX10_parts_213 ?_
  exact g_weak [1, 2, 0] rfl (hk2 x1 (x2 + 1) M h)
def f_X10_parts_122 (N : Nat) (kh2 : Int32 → Int32 → gq_M → Option (Int32 × gq_M)) (kh36 : Int32 → Int32 → Int32 → Int32 → Int32 → Int32 → Int32 → gq_M → Option (Int32 × gq_M)) (x1 : Int32) (x2 : Int32) (x3 : Int32) (x4 : Int32) (x5 : Int32) (x6 : Int32) (x7 : Int32) (M : gq_M) : Option (Int32 × gq_M) :=
  kh36 x1 x2 x3 x4 x5 x6 (x7 + 1) M
set_option maxHeartbeats 1000000 in
set_option maxRecDepth 20000 in
theorem t_X10_parts_122 {N : Nat} {kh2 : Int32 → Int32 → gq_M → Option (Int32 × gq_M)} {kh36 : Int32 → Int32 → Int32 → Int32 → Int32 → Int32 → Int32 → gq_M → Option (Int32 × gq_M)} {v9 : Int32} {M9 : gq_M} (hC : gq_C p s m args meth c D A cI cZ ad mtR RX10 cX10_parts 8) (hr : meth.sig.returnType = none) (hk2 : ∀ (x1 : Int32) (x2 : Int32) (M : gq_M), kh2 x1 x2 M = some (v9, M9) → gq_W p l e (gq_rm 1) s m args below meth c D A cI cZ ad mtR 8 (MQ below (gq_Qv D cI cZ ad mtR M9 A) args s 0 0 A) 2 [(0, .ref (ad 0)), (1, .int x1), (2, .int x2)] [] M 0 0) (hk36 : ∀ (x1 : Int32) (x2 : Int32) (x3 : Int32) (x4 : Int32) (x5 : Int32) (x6 : Int32) (x7 : Int32) (M : gq_M), kh36 x1 x2 x3 x4 x5 x6 x7 M = some (v9, M9) → gq_W p l e (gq_rm 1) s m args below meth c D A cI cZ ad mtR 8 (MQ below (gq_Qv D cI cZ ad mtR M9 A) args s 0 0 A) 36 [(0, .ref (ad 0)), (1, .int x1), (2, .int x2), (3, .int x3), (4, .int x4), (5, .int x5), (6, .int x6), (7, .int x7)] [] M 0 0)  : ∀ (x1 : Int32) (x2 : Int32) (x3 : Int32) (x4 : Int32) (x5 : Int32) (x6 : Int32) (x7 : Int32) (M : gq_M), f_X10_parts_122 N kh2 kh36 x1 x2 x3 x4 x5 x6 x7 M = some (v9, M9) → gq_W p l e (gq_rm 1) s m args below meth c D A cI cZ ad mtR 8 (MQ below (gq_Qv D cI cZ ad mtR M9 A) args s 0 0 A) 122 [(0, .ref (ad 0)), (1, .int x1), (2, .int x2), (3, .int x3), (4, .int x4), (5, .int x5), (6, .int x6), (7, .int x7)] [] M 0 0 := by
  intro x1 x2 x3 x4 x5 x6 x7 M h
  unfold f_X10_parts_122 at h
  refine g_iinc (v := (x7 + 1)) (L2 := [(7, .int (x7 + 1)), (0, .ref (ad 0)), (1, .int x1), (2, .int x2), (3, .int x3), (4, .int x4), (5, .int x5), (6, .int x6)]) hC 7 rfl (by first | rfl | decide) (by decide) rfl dX10_parts_122 ?_
  refine g_goto (tgt := 36) hC (by decide) dX10_parts_125 ?_
  exact g_weak [1, 2, 3, 4, 5, 6, 7, 0] rfl (hk36 x1 x2 x3 x4 x5 x6 (x7 + 1) M h)
def f_X10_parts_36_b (N : Nat) (kh2 : Int32 → Int32 → gq_M → Option (Int32 × gq_M)) (kh36 : Int32 → Int32 → Int32 → Int32 → Int32 → Int32 → Int32 → gq_M → Option (Int32 × gq_M)) (x1 : Int32) (x2 : Int32) (x3 : Int32) (x4 : Int32) (x5 : Int32) (x6 : Int32) (x7 : Int32) (M : gq_M) : Option (Int32 × gq_M) :=
  if (M 0 16) ≤ x7 then (if x6 = 0 then (f_X10_parts_210 N kh2 x1 x2 M) else (gq_g (gq_in (M 0 31) 150) (gq_l (gq_up M 27 ((M 0 31) : Int32).toNatClampNeg x1) fun M5 => gq_g (gq_in (M5 0 31) 150) (gq_l (gq_up M5 28 ((M5 0 31) : Int32).toNatClampNeg x3) fun M7 => gq_g (gq_in (M7 0 31) 150) (gq_l (gq_up M7 29 ((M7 0 31) : Int32).toNatClampNeg x4) fun M9 => gq_g (gq_in (M9 0 31) 150) (gq_l (gq_up M9 30 ((M9 0 31) : Int32).toNatClampNeg x5) fun M11 => gq_g (gq_in x3 4) (gq_l (M11 8 x3.toNatClampNeg) fun v13 => gq_g (gq_in (M11 0 31) 150) (gq_l (gq_up M11 31 ((M11 0 31) : Int32).toNatClampNeg v13) fun M15 => gq_g (gq_in (M15 0 31) 150) (gq_l (gq_up M15 32 ((M15 0 31) : Int32).toNatClampNeg 0) fun M17 => gq_l (gq_up M17 0 31 ((M17 0 31) + 1)) fun M18 => f_X10_parts_210 N kh2 x1 x2 M18))))))))) else (gq_b (f_X10_isToSell N x7 M) fun v19 M20 => if v19 = 0 then (f_X10_parts_122 N kh2 kh36 x1 x2 x3 x4 x5 x6 x7 M20) else (gq_g (gq_in x7 150) (gq_l (M20 13 x7.toNatClampNeg) fun v24 => if v24 = x1 then (gq_g (gq_in x7 150) (gq_l (M20 14 x7.toNatClampNeg) fun v27 => if v27 = x3 then (gq_g (gq_in x7 150) (gq_l (M20 15 x7.toNatClampNeg) fun v30 => if v30 = x4 then (gq_g (gq_in x7 150) (gq_l (M20 16 x7.toNatClampNeg) fun v33 => if v33 = x5 then (gq_g (gq_in x7 150) (gq_l (gq_up M20 19 x7.toNatClampNeg 2) fun M36 => gq_g (gq_in x7 150) (gq_l (gq_up M36 26 x7.toNatClampNeg (M36 0 31)) fun M38 => f_X10_parts_122 N kh2 kh36 x1 x2 x3 x4 x5 1 x7 M38))) else (f_X10_parts_122 N kh2 kh36 x1 x2 x3 x4 x5 x6 x7 M20))) else (f_X10_parts_122 N kh2 kh36 x1 x2 x3 x4 x5 x6 x7 M20))) else (f_X10_parts_122 N kh2 kh36 x1 x2 x3 x4 x5 x6 x7 M20))) else (f_X10_parts_122 N kh2 kh36 x1 x2 x3 x4 x5 x6 x7 M20))))
def f_X10_parts_36 (N : Nat) (kh2 : Int32 → Int32 → gq_M → Option (Int32 × gq_M)) : Nat → Int32 → Int32 → Int32 → Int32 → Int32 → Int32 → Int32 → gq_M → Option (Int32 × gq_M)
  | 0 => fun _ _ _ _ _ _ _ _ => none
  | n9 + 1 => f_X10_parts_36_b N kh2 (f_X10_parts_36 N kh2 n9)
set_option maxHeartbeats 1000000 in
set_option maxRecDepth 20000 in
theorem t_X10_parts_36_b {N : Nat} {kh2 : Int32 → Int32 → gq_M → Option (Int32 × gq_M)} {kh36 : Int32 → Int32 → Int32 → Int32 → Int32 → Int32 → Int32 → gq_M → Option (Int32 × gq_M)} {v9 : Int32} {M9 : gq_M} (hC : gq_C p s m args meth c D A cI cZ ad mtR RX10 cX10_parts 8) (hr : meth.sig.returnType = none) (hk2 : ∀ (x1 : Int32) (x2 : Int32) (M : gq_M), kh2 x1 x2 M = some (v9, M9) → gq_W p l e (gq_rm 1) s m args below meth c D A cI cZ ad mtR 8 (MQ below (gq_Qv D cI cZ ad mtR M9 A) args s 0 0 A) 2 [(0, .ref (ad 0)), (1, .int x1), (2, .int x2)] [] M 0 0) (hk36 : ∀ (x1 : Int32) (x2 : Int32) (x3 : Int32) (x4 : Int32) (x5 : Int32) (x6 : Int32) (x7 : Int32) (M : gq_M), kh36 x1 x2 x3 x4 x5 x6 x7 M = some (v9, M9) → gq_W p l e (gq_rm 1) s m args below meth c D A cI cZ ad mtR 8 (MQ below (gq_Qv D cI cZ ad mtR M9 A) args s 0 0 A) 36 [(0, .ref (ad 0)), (1, .int x1), (2, .int x2), (3, .int x3), (4, .int x4), (5, .int x5), (6, .int x6), (7, .int x7)] [] M 0 0) : ∀ (x1 : Int32) (x2 : Int32) (x3 : Int32) (x4 : Int32) (x5 : Int32) (x6 : Int32) (x7 : Int32) (M : gq_M), f_X10_parts_36_b N kh2 kh36 x1 x2 x3 x4 x5 x6 x7 M = some (v9, M9) → gq_W p l e (gq_rm 1) s m args below meth c D A cI cZ ad mtR 8 (MQ below (gq_Qv D cI cZ ad mtR M9 A) args s 0 0 A) 36 [(0, .ref (ad 0)), (1, .int x1), (2, .int x2), (3, .int x3), (4, .int x4), (5, .int x5), (6, .int x6), (7, .int x7)] [] M 0 0 := by
  intro x1 x2 x3 x4 x5 x6 x7 M h
  unfold f_X10_parts_36_b at h
  refine g_iload hC 7 rfl dX10_parts_36 ?_
  refine g_aload_n hC 0 rfl rfl dX10_parts_38 ?_
  refine g_getI hC fF_X10_167 lkR_0_16 dX10_parts_39 ?_
  refine g_icmp_ge (tgt := 128) hC (by decide) dX10_parts_42 (fun c2 => ?_) (fun c2 => ?_)
  · replace h := gq_t c2 h
    refine g_iload hC 6 rfl dX10_parts_128 ?_
    refine g_if_eq (tgt := 210) hC (by decide) dX10_parts_130 (fun c3 => ?_) (fun c3 => ?_)
    · replace h := gq_t c3 h
      exact g_weak [0, 1, 2] rfl (t_X10_parts_210 hC hr hk2 x1 x2 M h)
    · replace h := gq_f c3 h
      refine g_aload_n hC 0 rfl rfl dX10_parts_133 ?_
      refine g_getR hC fF_X10_93 lkR_0_32 dX10_parts_134 ?_
      refine g_aload_n hC 0 rfl rfl dX10_parts_137 ?_
      refine g_getI hC fF_X10_192 lkR_0_31 dX10_parts_138 ?_
      refine g_iload_n hC 1 rfl rfl dX10_parts_141 ?_
      obtain ⟨g4, h⟩ := gq_g_i h
      refine g_iast hC arR_27 (gq_in_i g4) dX10_parts_142 ?_
      refine g_topM (fun M5 hM5 => ?_)
      replace h := gq_l_i hM5 h
      refine g_aload_n hC 0 rfl rfl dX10_parts_143 ?_
      refine g_getR hC fF_X10_96 lkR_0_33 dX10_parts_144 ?_
      refine g_aload_n hC 0 rfl rfl dX10_parts_147 ?_
      refine g_getI hC fF_X10_192 lkR_0_31 dX10_parts_148 ?_
      refine g_iload_n hC 3 rfl rfl dX10_parts_151 ?_
      obtain ⟨g6, h⟩ := gq_g_i h
      refine g_iast hC arR_28 (gq_in_i g6) dX10_parts_152 ?_
      refine g_topM (fun M7 hM7 => ?_)
      replace h := gq_l_i hM7 h
      refine g_aload_n hC 0 rfl rfl dX10_parts_153 ?_
      refine g_getR hC fF_X10_99 lkR_0_34 dX10_parts_154 ?_
      refine g_aload_n hC 0 rfl rfl dX10_parts_157 ?_
      refine g_getI hC fF_X10_192 lkR_0_31 dX10_parts_158 ?_
      refine g_iload hC 4 rfl dX10_parts_161 ?_
      obtain ⟨g8, h⟩ := gq_g_i h
      refine g_iast hC arR_29 (gq_in_i g8) dX10_parts_163 ?_
      refine g_topM (fun M9 hM9 => ?_)
      replace h := gq_l_i hM9 h
      refine g_aload_n hC 0 rfl rfl dX10_parts_164 ?_
      refine g_getR hC fF_X10_102 lkR_0_35 dX10_parts_165 ?_
      refine g_aload_n hC 0 rfl rfl dX10_parts_168 ?_
      refine g_getI hC fF_X10_192 lkR_0_31 dX10_parts_169 ?_
      refine g_iload hC 5 rfl dX10_parts_172 ?_
      obtain ⟨g10, h⟩ := gq_g_i h
      refine g_iast hC arR_30 (gq_in_i g10) dX10_parts_174 ?_
      refine g_topM (fun M11 hM11 => ?_)
      replace h := gq_l_i hM11 h
      refine g_aload_n hC 0 rfl rfl dX10_parts_175 ?_
      refine g_getR hC fF_X10_105 lkR_0_36 dX10_parts_176 ?_
      refine g_aload_n hC 0 rfl rfl dX10_parts_179 ?_
      refine g_getI hC fF_X10_192 lkR_0_31 dX10_parts_180 ?_
      refine g_aload_n hC 0 rfl rfl dX10_parts_183 ?_
      refine g_getR hC fF_X10_36 lkR_0_11 dX10_parts_184 ?_
      refine g_iload_n hC 3 rfl rfl dX10_parts_187 ?_
      obtain ⟨g12, h⟩ := gq_g_i h
      refine g_iald hC arR_8 (gq_in_i g12) dX10_parts_188 ?_
      refine g_topi (fun v13 hv13 => ?_)
      replace h := gq_l_i hv13 h
      obtain ⟨g14, h⟩ := gq_g_i h
      refine g_iast hC arR_31 (gq_in_i g14) dX10_parts_189 ?_
      refine g_topM (fun M15 hM15 => ?_)
      replace h := gq_l_i hM15 h
      refine g_aload_n hC 0 rfl rfl dX10_parts_190 ?_
      refine g_getR hC fF_X10_108 lkR_0_37 dX10_parts_191 ?_
      refine g_aload_n hC 0 rfl rfl dX10_parts_194 ?_
      refine g_getI hC fF_X10_192 lkR_0_31 dX10_parts_195 ?_
      refine g_iconst (v := 0) hC (by decide) dX10_parts_198 ?_
      obtain ⟨g16, h⟩ := gq_g_i h
      refine g_zast hC arR_32 (gq_in_i g16) gq_bit0 dX10_parts_199 ?_
      refine g_topM (fun M17 hM17 => ?_)
      replace h := gq_l_i hM17 h
      refine g_aload_n hC 0 rfl rfl dX10_parts_200 ?_
      refine g_dup hC rfl dX10_parts_201 ?_
      refine g_getI hC fF_X10_192 lkR_0_31 dX10_parts_202 ?_
      refine g_iconst (v := 1) hC (by decide) dX10_parts_205 ?_
      refine g_iadd hC dX10_parts_206 ?_
      refine g_putI hC fG_X10_192 lkR_0_31 dX10_parts_207 ?_
      refine g_topM (fun M18 hM18 => ?_)
      replace h := gq_l_i hM18 h
      exact g_weak [0, 1, 2] rfl (t_X10_parts_210 hC hr hk2 x1 x2 M18 h)
  · replace h := gq_f c2 h
    refine g_aload_n hC 0 rfl rfl dX10_parts_45 ?_
    refine g_iload hC 7 rfl dX10_parts_46 ?_
    obtain ⟨v19, M20, c21, h⟩ := gq_b_i h
    refine g_Vi (as := [.int x7]) hC (t_X10_isToSell N _ _ _ _ c21) mV_X10_isToSell  wm_X10_185 obR_0 rfl rfl (Nat.le_of_ble_eq_true rfl) ⟨by decide, by decide⟩ ⟨by decide, by decide⟩ dX10_parts_48 ?_
    refine g_if_eq (tgt := 122) hC (by decide) dX10_parts_51 (fun c22 => ?_) (fun c22 => ?_)
    · replace h := gq_t c22 h
      exact g_weak [0, 1, 2, 3, 4, 5, 6, 7] rfl (t_X10_parts_122 hC hr hk2 hk36 x1 x2 x3 x4 x5 x6 x7 M20 h)
    · replace h := gq_f c22 h
      refine g_aload_n hC 0 rfl rfl dX10_parts_54 ?_
      refine g_getR hC fF_X10_51 lkR_0_17 dX10_parts_55 ?_
      refine g_iload hC 7 rfl dX10_parts_58 ?_
      obtain ⟨g23, h⟩ := gq_g_i h
      refine g_iald hC arR_13 (gq_in_i g23) dX10_parts_60 ?_
      refine g_topi (fun v24 hv24 => ?_)
      replace h := gq_l_i hv24 h
      refine g_iload_n hC 1 rfl rfl dX10_parts_61 ?_
      refine g_icmp_ne (tgt := 122) hC (by decide) dX10_parts_62 (fun c25 => ?_) (fun c25 => ?_)
      · replace h := gq_f c25 h
        exact g_weak [0, 1, 2, 3, 4, 5, 6, 7] rfl (t_X10_parts_122 hC hr hk2 hk36 x1 x2 x3 x4 x5 x6 x7 M20 h)
      · replace h := gq_t c25 h
        refine g_aload_n hC 0 rfl rfl dX10_parts_65 ?_
        refine g_getR hC fF_X10_54 lkR_0_18 dX10_parts_66 ?_
        refine g_iload hC 7 rfl dX10_parts_69 ?_
        obtain ⟨g26, h⟩ := gq_g_i h
        refine g_iald hC arR_14 (gq_in_i g26) dX10_parts_71 ?_
        refine g_topi (fun v27 hv27 => ?_)
        replace h := gq_l_i hv27 h
        refine g_iload_n hC 3 rfl rfl dX10_parts_72 ?_
        refine g_icmp_ne (tgt := 122) hC (by decide) dX10_parts_73 (fun c28 => ?_) (fun c28 => ?_)
        · replace h := gq_f c28 h
          exact g_weak [0, 1, 2, 3, 4, 5, 6, 7] rfl (t_X10_parts_122 hC hr hk2 hk36 x1 x2 x3 x4 x5 x6 x7 M20 h)
        · replace h := gq_t c28 h
          refine g_aload_n hC 0 rfl rfl dX10_parts_76 ?_
          refine g_getR hC fF_X10_57 lkR_0_19 dX10_parts_77 ?_
          refine g_iload hC 7 rfl dX10_parts_80 ?_
          obtain ⟨g29, h⟩ := gq_g_i h
          refine g_iald hC arR_15 (gq_in_i g29) dX10_parts_82 ?_
          refine g_topi (fun v30 hv30 => ?_)
          replace h := gq_l_i hv30 h
          refine g_iload hC 4 rfl dX10_parts_83 ?_
          refine g_icmp_ne (tgt := 122) hC (by decide) dX10_parts_85 (fun c31 => ?_) (fun c31 => ?_)
          · replace h := gq_f c31 h
            exact g_weak [0, 1, 2, 3, 4, 5, 6, 7] rfl (t_X10_parts_122 hC hr hk2 hk36 x1 x2 x3 x4 x5 x6 x7 M20 h)
          · replace h := gq_t c31 h
            refine g_aload_n hC 0 rfl rfl dX10_parts_88 ?_
            refine g_getR hC fF_X10_60 lkR_0_20 dX10_parts_89 ?_
            refine g_iload hC 7 rfl dX10_parts_92 ?_
            obtain ⟨g32, h⟩ := gq_g_i h
            refine g_iald hC arR_16 (gq_in_i g32) dX10_parts_94 ?_
            refine g_topi (fun v33 hv33 => ?_)
            replace h := gq_l_i hv33 h
            refine g_iload hC 5 rfl dX10_parts_95 ?_
            refine g_icmp_ne (tgt := 122) hC (by decide) dX10_parts_97 (fun c34 => ?_) (fun c34 => ?_)
            · replace h := gq_f c34 h
              exact g_weak [0, 1, 2, 3, 4, 5, 6, 7] rfl (t_X10_parts_122 hC hr hk2 hk36 x1 x2 x3 x4 x5 x6 x7 M20 h)
            · replace h := gq_t c34 h
              refine g_aload_n hC 0 rfl rfl dX10_parts_100 ?_
              refine g_getR hC fF_X10_69 lkR_0_23 dX10_parts_101 ?_
              refine g_iload hC 7 rfl dX10_parts_104 ?_
              refine g_iconst (v := 2) hC (by decide) dX10_parts_106 ?_
              obtain ⟨g35, h⟩ := gq_g_i h
              refine g_iast hC arR_19 (gq_in_i g35) dX10_parts_107 ?_
              refine g_topM (fun M36 hM36 => ?_)
              replace h := gq_l_i hM36 h
              refine g_aload_n hC 0 rfl rfl dX10_parts_108 ?_
              refine g_getR hC fF_X10_90 lkR_0_30 dX10_parts_109 ?_
              refine g_iload hC 7 rfl dX10_parts_112 ?_
              refine g_aload_n hC 0 rfl rfl dX10_parts_114 ?_
              refine g_getI hC fF_X10_192 lkR_0_31 dX10_parts_115 ?_
              obtain ⟨g37, h⟩ := gq_g_i h
              refine g_iast hC arR_26 (gq_in_i g37) dX10_parts_118 ?_
              refine g_topM (fun M38 hM38 => ?_)
              replace h := gq_l_i hM38 h
              refine g_iconst (v := 1) hC (by decide) dX10_parts_119 ?_
              refine g_istore (L2 := [(6, .int 1), (0, .ref (ad 0)), (1, .int x1), (2, .int x2), (3, .int x3), (4, .int x4), (5, .int x5), (7, .int x7)]) hC (by decide) rfl dX10_parts_120 ?_
              exact g_weak [1, 2, 3, 4, 5, 6, 0, 7] rfl (t_X10_parts_122 hC hr hk2 hk36 x1 x2 x3 x4 x5 1 x7 M38 h)
theorem t_X10_parts_36 {N : Nat} {kh2 : Int32 → Int32 → gq_M → Option (Int32 × gq_M)} {v9 : Int32} {M9 : gq_M} (hC : gq_C p s m args meth c D A cI cZ ad mtR RX10 cX10_parts 8) (hr : meth.sig.returnType = none) (hk2 : ∀ (x1 : Int32) (x2 : Int32) (M : gq_M), kh2 x1 x2 M = some (v9, M9) → gq_W p l e (gq_rm 1) s m args below meth c D A cI cZ ad mtR 8 (MQ below (gq_Qv D cI cZ ad mtR M9 A) args s 0 0 A) 2 [(0, .ref (ad 0)), (1, .int x1), (2, .int x2)] [] M 0 0) : ∀ (n9 : Nat) (x1 : Int32) (x2 : Int32) (x3 : Int32) (x4 : Int32) (x5 : Int32) (x6 : Int32) (x7 : Int32) (M : gq_M), f_X10_parts_36 N kh2 n9 x1 x2 x3 x4 x5 x6 x7 M = some (v9, M9) → gq_W p l e (gq_rm 1) s m args below meth c D A cI cZ ad mtR 8 (MQ below (gq_Qv D cI cZ ad mtR M9 A) args s 0 0 A) 36 [(0, .ref (ad 0)), (1, .int x1), (2, .int x2), (3, .int x3), (4, .int x4), (5, .int x5), (6, .int x6), (7, .int x7)] [] M 0 0 := by
  intro n9
  induction n9 with
  | zero => intro x1 x2 x3 x4 x5 x6 x7 M h; cases h
  | succ n9 ih => intro x1 x2 x3 x4 x5 x6 x7 M h; exact t_X10_parts_36_b hC hr hk2 ih x1 x2 x3 x4 x5 x6 x7 M h
def f_X10_parts_2_b (N : Nat) (kh2 : Int32 → Int32 → gq_M → Option (Int32 × gq_M)) (x1 : Int32) (x2 : Int32) (M : gq_M) : Option (Int32 × gq_M) :=
  if 108 ≤ x2 then (some (0, M)) else (f_X10_parts_36 N kh2 N x1 x2 (x2 / 27) ((x2 / 9) - (x2 / 9) / 3 * 3) (9 - (x2 - x2 / 9 * 9)) 0 0 M)
def f_X10_parts_2 (N : Nat) : Nat → Int32 → Int32 → gq_M → Option (Int32 × gq_M)
  | 0 => fun _ _ _ => none
  | n9 + 1 => f_X10_parts_2_b N  (f_X10_parts_2 N  n9)
set_option maxHeartbeats 1000000 in
set_option maxRecDepth 20000 in
theorem t_X10_parts_2_b {N : Nat} {kh2 : Int32 → Int32 → gq_M → Option (Int32 × gq_M)} {v9 : Int32} {M9 : gq_M} (hC : gq_C p s m args meth c D A cI cZ ad mtR RX10 cX10_parts 8) (hr : meth.sig.returnType = none)  (hk2 : ∀ (x1 : Int32) (x2 : Int32) (M : gq_M), kh2 x1 x2 M = some (v9, M9) → gq_W p l e (gq_rm 1) s m args below meth c D A cI cZ ad mtR 8 (MQ below (gq_Qv D cI cZ ad mtR M9 A) args s 0 0 A) 2 [(0, .ref (ad 0)), (1, .int x1), (2, .int x2)] [] M 0 0) : ∀ (x1 : Int32) (x2 : Int32) (M : gq_M), f_X10_parts_2_b N  kh2 x1 x2 M = some (v9, M9) → gq_W p l e (gq_rm 1) s m args below meth c D A cI cZ ad mtR 8 (MQ below (gq_Qv D cI cZ ad mtR M9 A) args s 0 0 A) 2 [(0, .ref (ad 0)), (1, .int x1), (2, .int x2)] [] M 0 0 := by
  intro x1 x2 M h
  unfold f_X10_parts_2_b at h
  refine g_iload_n hC 2 rfl rfl dX10_parts_2 ?_
  refine g_bipush (v := 108) hC (by decide) dX10_parts_3 ?_
  refine g_icmp_ge (tgt := 216) hC (by decide) dX10_parts_5 (fun c1 => ?_) (fun c1 => ?_)
  · replace h := gq_t c1 h
    exact g_vrets hC hr h dX10_parts_216
  · replace h := gq_f c1 h
    refine g_iload_n hC 2 rfl rfl dX10_parts_8 ?_
    refine g_bipush (v := 27) hC (by decide) dX10_parts_9 ?_
    refine g_idiv hC (by decide) dX10_parts_11 ?_
    refine g_istore_n (L2 := [(3, .int (x2 / 27)), (0, .ref (ad 0)), (1, .int x1), (2, .int x2)]) hC rfl (by decide) rfl dX10_parts_12 ?_
    refine g_iload_n hC 3 rfl rfl dX10_parts_13 ?_
    refine g_bipush (v := 9) hC (by decide) dX10_parts_14 ?_
    refine g_idiv hC (by decide) dX10_parts_16 ?_
    refine g_iconst (v := 3) hC (by decide) dX10_parts_17 ?_
    refine g_irem hC (by decide) dX10_parts_18 ?_
    refine g_istore (L2 := [(4, .int ((x2 / 9) - (x2 / 9) / 3 * 3)), (3, .int (x2 / 27)), (0, .ref (ad 0)), (1, .int x1), (2, .int x2)]) hC (by decide) rfl dX10_parts_19 ?_
    refine g_bipush (v := 9) hC (by decide) dX10_parts_21 ?_
    refine g_iload_n hC 4 rfl rfl dX10_parts_23 ?_
    refine g_bipush (v := 9) hC (by decide) dX10_parts_24 ?_
    refine g_irem hC (by decide) dX10_parts_26 ?_
    refine g_isub hC dX10_parts_27 ?_
    refine g_istore (L2 := [(5, .int (9 - (x2 - x2 / 9 * 9))), (4, .int ((x2 / 9) - (x2 / 9) / 3 * 3)), (3, .int (x2 / 27)), (0, .ref (ad 0)), (1, .int x1), (2, .int x2)]) hC (by decide) rfl dX10_parts_28 ?_
    refine g_iconst (v := 0) hC (by decide) dX10_parts_30 ?_
    refine g_istore (L2 := [(6, .int 0), (5, .int (9 - (x2 - x2 / 9 * 9))), (4, .int ((x2 / 9) - (x2 / 9) / 3 * 3)), (3, .int (x2 / 27)), (0, .ref (ad 0)), (1, .int x1), (2, .int x2)]) hC (by decide) rfl dX10_parts_31 ?_
    refine g_iconst (v := 0) hC (by decide) dX10_parts_33 ?_
    refine g_istore (L2 := [(7, .int 0), (6, .int 0), (5, .int (9 - (x2 - x2 / 9 * 9))), (4, .int ((x2 / 9) - (x2 / 9) / 3 * 3)), (3, .int (x2 / 27)), (0, .ref (ad 0)), (1, .int x1), (2, .int x2)]) hC (by decide) rfl dX10_parts_34 ?_
    exact g_weak [5, 6, 7, 4, 3, 2, 1, 0] rfl (t_X10_parts_36 hC hr hk2 N x1 x2 (x2 / 27) ((x2 / 9) - (x2 / 9) / 3 * 3) (9 - (x2 - x2 / 9 * 9)) 0 0 M h)
theorem t_X10_parts_2 {N : Nat} {v9 : Int32} {M9 : gq_M} (hC : gq_C p s m args meth c D A cI cZ ad mtR RX10 cX10_parts 8) (hr : meth.sig.returnType = none)  : ∀ (n9 : Nat) (x1 : Int32) (x2 : Int32) (M : gq_M), f_X10_parts_2 N  n9 x1 x2 M = some (v9, M9) → gq_W p l e (gq_rm 1) s m args below meth c D A cI cZ ad mtR 8 (MQ below (gq_Qv D cI cZ ad mtR M9 A) args s 0 0 A) 2 [(0, .ref (ad 0)), (1, .int x1), (2, .int x2)] [] M 0 0 := by
  intro n9
  induction n9 with
  | zero => intro x1 x2 M h; cases h
  | succ n9 ih => intro x1 x2 M h; exact t_X10_parts_2_b hC hr  ih x1 x2 M h
def f_X10_parts (N : Nat) (a1 : Int32) (M : gq_M) : Option (Int32 × gq_M) :=
  f_X10_parts_2 N  N a1 0 M
set_option maxHeartbeats 1000000 in
set_option maxRecDepth 20000 in
theorem t_X10_parts {l : Launch} {D : va_G} {cI cZ : ClassId} {ad : Nat → Nat} (N : Nat) (a1 : Int32) (M : gq_M) (v9 : Int32) (M9 : gq_M) (h : f_X10_parts N a1 M = some (v9, M9)) : gq_Cv l D cI cZ ad mtR yX10_parts cX10_parts 8 1 [.ref (ad 0), .int a1] M M9 := by
  refine gq_introV (own := RX10) (by decide) rfl (Nat.le_of_ble_eq_true rfl) ?_
  intro p e s m below meth c hC hr
  refine g_cast (L2 := [(0, .ref (ad 0)), (1, .int a1)]) ?_ rfl rfl rfl rfl
  unfold f_X10_parts at h
  refine g_iconst (v := 0) hC (by decide) dX10_parts_0 ?_
  refine g_istore_n (L2 := [(2, .int 0), (0, .ref (ad 0)), (1, .int a1)]) hC rfl (by decide) rfl dX10_parts_1 ?_
  exact g_weak [1, 2, 0] rfl (t_X10_parts_2 hC hr  N a1 0 M h)
def f_X10_drawsAll_6_b (N : Nat) (kh6 : Int32 → gq_M → Option (Int32 × gq_M)) (x2 : Int32) (M : gq_M) : Option (Int32 × gq_M) :=
  if x2 = 0 then (some (0, M)) else (gq_b (f_X10_drawn N x2 M) fun v5 M6 => gq_b (f_X10_parts N v5 M6) fun v8 M9 => kh6 (x2 &&& ((1 <<< (v5 &&& 31)) ^^^ (-1))) M9)
def f_X10_drawsAll_6 (N : Nat) : Nat → Int32 → gq_M → Option (Int32 × gq_M)
  | 0 => fun _ _ => none
  | n9 + 1 => f_X10_drawsAll_6_b N  (f_X10_drawsAll_6 N  n9)
set_option maxHeartbeats 1000000 in
set_option maxRecDepth 20000 in
theorem t_X10_drawsAll_6_b {N : Nat} {kh6 : Int32 → gq_M → Option (Int32 × gq_M)} {v9 : Int32} {M9 : gq_M} (hC : gq_C p s m args meth c D A cI cZ ad mtR RX10 cX10_drawsAll 4) (hr : meth.sig.returnType = none)  (hk6 : ∀ (x2 : Int32) (M : gq_M), kh6 x2 M = some (v9, M9) → gq_W p l e (gq_rm 2) s m args below meth c D A cI cZ ad mtR 4 (MQ below (gq_Qv D cI cZ ad mtR M9 A) args s 0 0 A) 6 [(0, .ref (ad 0)), (2, .int x2)] [] M 0 0) : ∀ (x2 : Int32) (M : gq_M), f_X10_drawsAll_6_b N  kh6 x2 M = some (v9, M9) → gq_W p l e (gq_rm 2) s m args below meth c D A cI cZ ad mtR 4 (MQ below (gq_Qv D cI cZ ad mtR M9 A) args s 0 0 A) 6 [(0, .ref (ad 0)), (2, .int x2)] [] M 0 0 := by
  intro x2 M h
  unfold f_X10_drawsAll_6_b at h
  refine g_iload_n hC 1 rfl rfl dX10_drawsAll_6 ?_
  refine g_if_eq (tgt := 32) hC (by decide) dX10_drawsAll_7 (fun c4 => ?_) (fun c4 => ?_)
  · replace h := gq_t c4 h
    exact g_vrets hC hr h dX10_drawsAll_32
  · replace h := gq_f c4 h
    refine g_aload_n hC 0 rfl rfl dX10_drawsAll_10 ?_
    refine g_iload_n hC 1 rfl rfl dX10_drawsAll_11 ?_
    obtain ⟨v5, M6, c7, h⟩ := gq_b_i h
    refine g_Vi (as := [.int x2]) hC (t_X10_drawn N _ _ _ _ c7) mV_X10_drawn  wm_X10_199 obR_0 rfl rfl (Nat.le_of_ble_eq_true rfl) ⟨by decide, by decide⟩ ⟨by decide, by decide⟩ dX10_drawsAll_12 ?_
    refine g_istore_n (L2 := [(3, .int v5), (0, .ref (ad 0)), (2, .int x2)]) hC rfl (by decide) rfl dX10_drawsAll_15 ?_
    refine g_iload_n hC 2 rfl rfl dX10_drawsAll_16 ?_
    refine g_iconst (v := 1) hC (by decide) dX10_drawsAll_17 ?_
    refine g_iload_n hC 0 rfl rfl dX10_drawsAll_18 ?_
    refine g_ishl hC dX10_drawsAll_19 ?_
    refine g_iconst (v := (-1)) hC (by decide) dX10_drawsAll_20 ?_
    refine g_ixor hC dX10_drawsAll_21 ?_
    refine g_iand hC dX10_drawsAll_22 ?_
    refine g_istore_n (L2 := [(2, .int (x2 &&& ((1 <<< (v5 &&& 31)) ^^^ (-1)))), (3, .int v5), (0, .ref (ad 0))]) hC rfl (by decide) rfl dX10_drawsAll_23 ?_
    refine g_aload_n hC 2 rfl rfl dX10_drawsAll_24 ?_
    refine g_iload_n hC 1 rfl rfl dX10_drawsAll_25 ?_
    obtain ⟨v8, M9, c10, h⟩ := gq_b_i h
    refine g_Vv (as := [.int v5]) hC (t_X10_parts N _ _ _ _ c10) mV_X10_parts  wm_X10_202 obR_0 rfl rfl (Nat.le_of_ble_eq_true rfl) ⟨by decide, by decide⟩ ⟨by decide, by decide⟩ dX10_drawsAll_26 ?_
    refine g_goto (tgt := 6) hC (by decide) dX10_drawsAll_29 ?_
    exact g_weak [2, 0] rfl (hk6 (x2 &&& ((1 <<< (v5 &&& 31)) ^^^ (-1))) M9 h)
theorem t_X10_drawsAll_6 {N : Nat} {v9 : Int32} {M9 : gq_M} (hC : gq_C p s m args meth c D A cI cZ ad mtR RX10 cX10_drawsAll 4) (hr : meth.sig.returnType = none)  : ∀ (n9 : Nat) (x2 : Int32) (M : gq_M), f_X10_drawsAll_6 N  n9 x2 M = some (v9, M9) → gq_W p l e (gq_rm 2) s m args below meth c D A cI cZ ad mtR 4 (MQ below (gq_Qv D cI cZ ad mtR M9 A) args s 0 0 A) 6 [(0, .ref (ad 0)), (2, .int x2)] [] M 0 0 := by
  intro n9
  induction n9 with
  | zero => intro x2 M h; cases h
  | succ n9 ih => intro x2 M h; exact t_X10_drawsAll_6_b hC hr  ih x2 M h
def f_X10_drawsAll (N : Nat) (a1 : Int32) (M : gq_M) : Option (Int32 × gq_M) :=
  gq_b (f_X10_ready N a1 M) fun v1 M2 => f_X10_drawsAll_6 N  N v1 M2
set_option maxHeartbeats 1000000 in
set_option maxRecDepth 20000 in
theorem t_X10_drawsAll {l : Launch} {D : va_G} {cI cZ : ClassId} {ad : Nat → Nat} (N : Nat) (a1 : Int32) (M : gq_M) (v9 : Int32) (M9 : gq_M) (h : f_X10_drawsAll N a1 M = some (v9, M9)) : gq_Cv l D cI cZ ad mtR yX10_drawsAll cX10_drawsAll 4 2 [.ref (ad 0), .int a1] M M9 := by
  refine gq_introV (own := RX10) (by decide) rfl (Nat.le_of_ble_eq_true rfl) ?_
  intro p e s m below meth c hC hr
  refine g_cast (L2 := [(0, .ref (ad 0)), (1, .int a1)]) ?_ rfl rfl rfl rfl
  unfold f_X10_drawsAll at h
  refine g_aload_n hC 0 rfl rfl dX10_drawsAll_0 ?_
  refine g_iload_n hC 1 rfl rfl dX10_drawsAll_1 ?_
  obtain ⟨v1, M2, c3, h⟩ := gq_b_i h
  refine g_Vi (as := [.int a1]) hC (t_X10_ready N _ _ _ _ c3) mV_X10_ready  wm_X10_195 obR_0 rfl rfl (Nat.le_of_ble_eq_true rfl) ⟨by decide, by decide⟩ ⟨by decide, by decide⟩ dX10_drawsAll_2 ?_
  refine g_istore_n (L2 := [(2, .int v1), (0, .ref (ad 0)), (1, .int a1)]) hC rfl (by decide) rfl dX10_drawsAll_5 ?_
  exact g_weak [1, 0] rfl (t_X10_drawsAll_6 hC hr  N v1 M2 h)
def f_X10_begins_5_b (N : Nat) (kh5 : Int32 → Int32 → gq_M → Option (Int32 × gq_M)) (x1 : Int32) (x2 : Int32) (M : gq_M) : Option (Int32 × gq_M) :=
  if ((8 * x1) + 8) ≤ x2 then (some (0, M)) else (gq_g (gq_in x2 24) (gq_l (gq_up M 40 x2.toNatClampNeg (-1)) fun M3 => gq_g (gq_in x2 24) (gq_l (gq_up M3 43 x2.toNatClampNeg 0) fun M5 => kh5 x1 (x2 + 1) M5)))
def f_X10_begins_5 (N : Nat) : Nat → Int32 → Int32 → gq_M → Option (Int32 × gq_M)
  | 0 => fun _ _ _ => none
  | n9 + 1 => f_X10_begins_5_b N  (f_X10_begins_5 N  n9)
set_option maxHeartbeats 1000000 in
set_option maxRecDepth 20000 in
theorem t_X10_begins_5_b {N : Nat} {kh5 : Int32 → Int32 → gq_M → Option (Int32 × gq_M)} {v9 : Int32} {M9 : gq_M} (hC : gq_C p s m args meth c D A cI cZ ad mtR RX10 cX10_begins 3) (hr : meth.sig.returnType = none)  (hk5 : ∀ (x1 : Int32) (x2 : Int32) (M : gq_M), kh5 x1 x2 M = some (v9, M9) → gq_W p l e (gq_rm 0) s m args below meth c D A cI cZ ad mtR 3 (MQ below (gq_Qv D cI cZ ad mtR M9 A) args s 0 0 A) 5 [(0, .ref (ad 0)), (1, .int x1), (2, .int x2)] [] M 0 0) : ∀ (x1 : Int32) (x2 : Int32) (M : gq_M), f_X10_begins_5_b N  kh5 x1 x2 M = some (v9, M9) → gq_W p l e (gq_rm 0) s m args below meth c D A cI cZ ad mtR 3 (MQ below (gq_Qv D cI cZ ad mtR M9 A) args s 0 0 A) 5 [(0, .ref (ad 0)), (1, .int x1), (2, .int x2)] [] M 0 0 := by
  intro x1 x2 M h
  unfold f_X10_begins_5_b at h
  refine g_iload_n hC 2 rfl rfl dX10_begins_5 ?_
  refine g_bipush (v := 8) hC (by decide) dX10_begins_6 ?_
  refine g_iload_n hC 1 rfl rfl dX10_begins_8 ?_
  refine g_imul hC dX10_begins_9 ?_
  refine g_bipush (v := 8) hC (by decide) dX10_begins_10 ?_
  refine g_iadd hC dX10_begins_12 ?_
  refine g_icmp_ge (tgt := 36) hC (by decide) dX10_begins_13 (fun c1 => ?_) (fun c1 => ?_)
  · replace h := gq_t c1 h
    exact g_vrets hC hr h dX10_begins_36
  · replace h := gq_f c1 h
    refine g_aload_n hC 0 rfl rfl dX10_begins_16 ?_
    refine g_getR hC fF_X10_132 lkR_0_45 dX10_begins_17 ?_
    refine g_iload_n hC 2 rfl rfl dX10_begins_20 ?_
    refine g_iconst (v := (-1)) hC (by decide) dX10_begins_21 ?_
    obtain ⟨g2, h⟩ := gq_g_i h
    refine g_iast hC arR_40 (gq_in_i g2) dX10_begins_22 ?_
    refine g_topM (fun M3 hM3 => ?_)
    replace h := gq_l_i hM3 h
    refine g_aload_n hC 0 rfl rfl dX10_begins_23 ?_
    refine g_getR hC fF_X10_141 lkR_0_48 dX10_begins_24 ?_
    refine g_iload_n hC 2 rfl rfl dX10_begins_27 ?_
    refine g_iconst (v := 0) hC (by decide) dX10_begins_28 ?_
    obtain ⟨g4, h⟩ := gq_g_i h
    refine g_zast hC arR_43 (gq_in_i g4) gq_bit0 dX10_begins_29 ?_
    refine g_topM (fun M5 hM5 => ?_)
    replace h := gq_l_i hM5 h
    refine g_iinc (v := (x2 + 1)) (L2 := [(2, .int (x2 + 1)), (0, .ref (ad 0)), (1, .int x1)]) hC 2 rfl (by first | rfl | decide) (by decide) rfl dX10_begins_30 ?_
    refine g_goto (tgt := 5) hC (by decide) dX10_begins_33 ?_
    exact g_weak [1, 2, 0] rfl (hk5 x1 (x2 + 1) M5 h)
theorem t_X10_begins_5 {N : Nat} {v9 : Int32} {M9 : gq_M} (hC : gq_C p s m args meth c D A cI cZ ad mtR RX10 cX10_begins 3) (hr : meth.sig.returnType = none)  : ∀ (n9 : Nat) (x1 : Int32) (x2 : Int32) (M : gq_M), f_X10_begins_5 N  n9 x1 x2 M = some (v9, M9) → gq_W p l e (gq_rm 0) s m args below meth c D A cI cZ ad mtR 3 (MQ below (gq_Qv D cI cZ ad mtR M9 A) args s 0 0 A) 5 [(0, .ref (ad 0)), (1, .int x1), (2, .int x2)] [] M 0 0 := by
  intro n9
  induction n9 with
  | zero => intro x1 x2 M h; cases h
  | succ n9 ih => intro x1 x2 M h; exact t_X10_begins_5_b hC hr  ih x1 x2 M h
def f_X10_begins (N : Nat) (a1 : Int32) (M : gq_M) : Option (Int32 × gq_M) :=
  f_X10_begins_5 N  N a1 (8 * a1) M
set_option maxHeartbeats 1000000 in
set_option maxRecDepth 20000 in
theorem t_X10_begins {l : Launch} {D : va_G} {cI cZ : ClassId} {ad : Nat → Nat} (N : Nat) (a1 : Int32) (M : gq_M) (v9 : Int32) (M9 : gq_M) (h : f_X10_begins N a1 M = some (v9, M9)) : gq_Cv l D cI cZ ad mtR yX10_begins cX10_begins 3 0 [.ref (ad 0), .int a1] M M9 := by
  refine gq_introV (own := RX10) (by decide) rfl (Nat.le_of_ble_eq_true rfl) ?_
  intro p e s m below meth c hC hr
  refine g_cast (L2 := [(0, .ref (ad 0)), (1, .int a1)]) ?_ rfl rfl rfl rfl
  unfold f_X10_begins at h
  refine g_bipush (v := 8) hC (by decide) dX10_begins_0 ?_
  refine g_iload_n hC 1 rfl rfl dX10_begins_2 ?_
  refine g_imul hC dX10_begins_3 ?_
  refine g_istore_n (L2 := [(2, .int (8 * a1)), (0, .ref (ad 0)), (1, .int a1)]) hC rfl (by decide) rfl dX10_begins_4 ?_
  exact g_weak [1, 2, 0] rfl (t_X10_begins_5 hC hr  N a1 (8 * a1) M h)
def f_X10_comes_115 (N : Nat) (x1 : Int32) (s1 : Int32) (s2 : Int32) (M : gq_M) : Option (Int32 × gq_M) :=
  gq_g (gq_in s1 3) (gq_l (gq_up M 37 s1.toNatClampNeg s2) fun M29 => gq_g (gq_in x1 3) (gq_l (gq_up M29 39 x1.toNatClampNeg (-1)) fun M31 => gq_b (f_X10_begins N x1 M31) fun v32 M33 => some (0, M33)))
set_option maxHeartbeats 1000000 in
set_option maxRecDepth 20000 in
theorem t_X10_comes_115 {N : Nat} {v9 : Int32} {M9 : gq_M} (hC : gq_C p s m args meth c D A cI cZ ad mtR RX10 cX10_comes 3) (hr : meth.sig.returnType = none)   : ∀ (x1 : Int32) (s1 : Int32) (s2 : Int32) (M : gq_M), f_X10_comes_115 N  x1 s1 s2 M = some (v9, M9) → gq_W p l e (gq_rm 1) s m args below meth c D A cI cZ ad mtR 3 (MQ below (gq_Qv D cI cZ ad mtR M9 A) args s 0 0 A) 115 [(0, .ref (ad 0)), (1, .int x1)] [.int s2, .int s1, .ref (ad 37)] M 0 0 := by
  intro x1 s1 s2 M h
  unfold f_X10_comes_115 at h
  obtain ⟨g28, h⟩ := gq_g_i h
  refine g_iast hC arR_37 (gq_in_i g28) dX10_comes_115 ?_
  refine g_topM (fun M29 hM29 => ?_)
  replace h := gq_l_i hM29 h
  refine g_aload_n hC 0 rfl rfl dX10_comes_116 ?_
  refine g_getR hC fF_X10_129 lkR_0_44 dX10_comes_117 ?_
  refine g_iload_n hC 1 rfl rfl dX10_comes_120 ?_
  refine g_iconst (v := (-1)) hC (by decide) dX10_comes_121 ?_
  obtain ⟨g30, h⟩ := gq_g_i h
  refine g_iast hC arR_39 (gq_in_i g30) dX10_comes_122 ?_
  refine g_topM (fun M31 hM31 => ?_)
  replace h := gq_l_i hM31 h
  refine g_aload_n hC 0 rfl rfl dX10_comes_123 ?_
  refine g_iload_n hC 1 rfl rfl dX10_comes_124 ?_
  obtain ⟨v32, M33, c34, h⟩ := gq_b_i h
  refine g_Vv (as := [.int x1]) hC (t_X10_begins N _ _ _ _ c34) mV_X10_begins  wm_X10_156 obR_0 rfl rfl (Nat.le_of_ble_eq_true rfl) ⟨by decide, by decide⟩ ⟨by decide, by decide⟩ dX10_comes_125 ?_
  exact g_vrets hC hr h dX10_comes_128
def f_X10_comes_79 (N : Nat) (x1 : Int32) (s1 : Int32) (s2 : Int32) (M : gq_M) : Option (Int32 × gq_M) :=
  gq_g (gq_in s1 3) (gq_l (gq_up M 35 s1.toNatClampNeg s2) fun M18 => gq_g (gq_in x1 3) (gq_l (M18 36 x1.toNatClampNeg) fun v20 => if v20 = (-1) then (f_X10_comes_115 N  x1 x1 0 M18) else (gq_g (gq_in x1 3) (gq_l (M18 36 x1.toNatClampNeg) fun v23 => gq_g (gq_in v23 150) (gq_l (M18 28 v23.toNatClampNeg) fun v25 => gq_g (gq_in v25 4) (gq_l (M18 6 v25.toNatClampNeg) fun v27 => f_X10_comes_115 N  x1 x1 v27 M18))))))
set_option maxHeartbeats 1000000 in
set_option maxRecDepth 20000 in
theorem t_X10_comes_79 {N : Nat} {v9 : Int32} {M9 : gq_M} (hC : gq_C p s m args meth c D A cI cZ ad mtR RX10 cX10_comes 3) (hr : meth.sig.returnType = none)   : ∀ (x1 : Int32) (s1 : Int32) (s2 : Int32) (M : gq_M), f_X10_comes_79 N  x1 s1 s2 M = some (v9, M9) → gq_W p l e (gq_rm 1) s m args below meth c D A cI cZ ad mtR 3 (MQ below (gq_Qv D cI cZ ad mtR M9 A) args s 0 0 A) 79 [(0, .ref (ad 0)), (1, .int x1)] [.int s2, .int s1, .ref (ad 35)] M 0 0 := by
  intro x1 s1 s2 M h
  unfold f_X10_comes_79 at h
  obtain ⟨g17, h⟩ := gq_g_i h
  refine g_iast hC arR_35 (gq_in_i g17) dX10_comes_79 ?_
  refine g_topM (fun M18 hM18 => ?_)
  replace h := gq_l_i hM18 h
  refine g_aload_n hC 0 rfl rfl dX10_comes_80 ?_
  refine g_getR hC fF_X10_123 lkR_0_42 dX10_comes_81 ?_
  refine g_iload_n hC 1 rfl rfl dX10_comes_84 ?_
  refine g_aload_n hC 0 rfl rfl dX10_comes_85 ?_
  refine g_getR hC fF_X10_120 lkR_0_41 dX10_comes_86 ?_
  refine g_iload_n hC 1 rfl rfl dX10_comes_89 ?_
  obtain ⟨g19, h⟩ := gq_g_i h
  refine g_iald hC arR_36 (gq_in_i g19) dX10_comes_90 ?_
  refine g_topi (fun v20 hv20 => ?_)
  replace h := gq_l_i hv20 h
  refine g_iconst (v := (-1)) hC (by decide) dX10_comes_91 ?_
  refine g_icmp_ne (tgt := 99) hC (by decide) dX10_comes_92 (fun c21 => ?_) (fun c21 => ?_)
  · replace h := gq_f c21 h
    refine g_aload_n hC 0 rfl rfl dX10_comes_99 ?_
    refine g_getR hC fF_X10_30 lkR_0_9 dX10_comes_100 ?_
    refine g_aload_n hC 0 rfl rfl dX10_comes_103 ?_
    refine g_getR hC fF_X10_96 lkR_0_33 dX10_comes_104 ?_
    refine g_aload_n hC 0 rfl rfl dX10_comes_107 ?_
    refine g_getR hC fF_X10_120 lkR_0_41 dX10_comes_108 ?_
    refine g_iload_n hC 1 rfl rfl dX10_comes_111 ?_
    obtain ⟨g22, h⟩ := gq_g_i h
    refine g_iald hC arR_36 (gq_in_i g22) dX10_comes_112 ?_
    refine g_topi (fun v23 hv23 => ?_)
    replace h := gq_l_i hv23 h
    obtain ⟨g24, h⟩ := gq_g_i h
    refine g_iald hC arR_28 (gq_in_i g24) dX10_comes_113 ?_
    refine g_topi (fun v25 hv25 => ?_)
    replace h := gq_l_i hv25 h
    obtain ⟨g26, h⟩ := gq_g_i h
    refine g_iald hC arR_6 (gq_in_i g26) dX10_comes_114 ?_
    refine g_topi (fun v27 hv27 => ?_)
    replace h := gq_l_i hv27 h
    exact g_weak [0, 1] rfl (t_X10_comes_115 hC hr  x1 x1 v27 M18 h)
  · replace h := gq_t c21 h
    refine g_iconst (v := 0) hC (by decide) dX10_comes_95 ?_
    refine g_goto (tgt := 115) hC (by decide) dX10_comes_96 ?_
    exact g_weak [0, 1] rfl (t_X10_comes_115 hC hr  x1 x1 0 M18 h)
def f_X10_comes_52 (N : Nat) (kh14 : Int32 → Int32 → gq_M → Option (Int32 × gq_M)) (x1 : Int32) (x2 : Int32) (s1 : Int32) (s2 : Int32) (M : gq_M) : Option (Int32 × gq_M) :=
  gq_g (gq_in s1 3) (gq_l (gq_up M 36 s1.toNatClampNeg s2) fun M14 => kh14 x1 (x2 + (-1)) M14)
set_option maxHeartbeats 1000000 in
set_option maxRecDepth 20000 in
theorem t_X10_comes_52 {N : Nat} {kh14 : Int32 → Int32 → gq_M → Option (Int32 × gq_M)} {v9 : Int32} {M9 : gq_M} (hC : gq_C p s m args meth c D A cI cZ ad mtR RX10 cX10_comes 3) (hr : meth.sig.returnType = none) (hk14 : ∀ (x1 : Int32) (x2 : Int32) (M : gq_M), kh14 x1 x2 M = some (v9, M9) → gq_W p l e (gq_rm 1) s m args below meth c D A cI cZ ad mtR 3 (MQ below (gq_Qv D cI cZ ad mtR M9 A) args s 0 0 A) 14 [(0, .ref (ad 0)), (1, .int x1), (2, .int x2)] [] M 0 0)  : ∀ (x1 : Int32) (x2 : Int32) (s1 : Int32) (s2 : Int32) (M : gq_M), f_X10_comes_52 N kh14 x1 x2 s1 s2 M = some (v9, M9) → gq_W p l e (gq_rm 1) s m args below meth c D A cI cZ ad mtR 3 (MQ below (gq_Qv D cI cZ ad mtR M9 A) args s 0 0 A) 52 [(0, .ref (ad 0)), (1, .int x1), (2, .int x2)] [.int s2, .int s1, .ref (ad 36)] M 0 0 := by
  intro x1 x2 s1 s2 M h
  unfold f_X10_comes_52 at h
  obtain ⟨g13, h⟩ := gq_g_i h
  refine g_iast hC arR_36 (gq_in_i g13) dX10_comes_52 ?_
  refine g_topM (fun M14 hM14 => ?_)
  replace h := gq_l_i hM14 h
  refine g_iinc (v := (x2 + (-1))) (L2 := [(2, .int (x2 + (-1))), (0, .ref (ad 0)), (1, .int x1)]) hC 2 rfl (by first | rfl | decide) (by decide) rfl dX10_comes_53 ?_
  refine g_goto (tgt := 14) hC (by decide) dX10_comes_56 ?_
  exact g_weak [1, 2, 0] rfl (hk14 x1 (x2 + (-1)) M14 h)
def f_X10_comes_46 (N : Nat) (kh14 : Int32 → Int32 → gq_M → Option (Int32 × gq_M)) (x1 : Int32) (x2 : Int32) (s1 : Int32) (M : gq_M) : Option (Int32 × gq_M) :=
  gq_g (gq_in x1 3) (gq_l (M 36 x1.toNatClampNeg) fun v16 => f_X10_comes_52 N kh14 x1 x2 s1 v16 M)
set_option maxHeartbeats 1000000 in
set_option maxRecDepth 20000 in
theorem t_X10_comes_46 {N : Nat} {kh14 : Int32 → Int32 → gq_M → Option (Int32 × gq_M)} {v9 : Int32} {M9 : gq_M} (hC : gq_C p s m args meth c D A cI cZ ad mtR RX10 cX10_comes 3) (hr : meth.sig.returnType = none) (hk14 : ∀ (x1 : Int32) (x2 : Int32) (M : gq_M), kh14 x1 x2 M = some (v9, M9) → gq_W p l e (gq_rm 1) s m args below meth c D A cI cZ ad mtR 3 (MQ below (gq_Qv D cI cZ ad mtR M9 A) args s 0 0 A) 14 [(0, .ref (ad 0)), (1, .int x1), (2, .int x2)] [] M 0 0)  : ∀ (x1 : Int32) (x2 : Int32) (s1 : Int32) (M : gq_M), f_X10_comes_46 N kh14 x1 x2 s1 M = some (v9, M9) → gq_W p l e (gq_rm 1) s m args below meth c D A cI cZ ad mtR 3 (MQ below (gq_Qv D cI cZ ad mtR M9 A) args s 0 0 A) 46 [(0, .ref (ad 0)), (1, .int x1), (2, .int x2)] [.int s1, .ref (ad 36)] M 0 0 := by
  intro x1 x2 s1 M h
  unfold f_X10_comes_46 at h
  refine g_aload_n hC 0 rfl rfl dX10_comes_46 ?_
  refine g_getR hC fF_X10_120 lkR_0_41 dX10_comes_47 ?_
  refine g_iload_n hC 1 rfl rfl dX10_comes_50 ?_
  obtain ⟨g15, h⟩ := gq_g_i h
  refine g_iald hC arR_36 (gq_in_i g15) dX10_comes_51 ?_
  refine g_topi (fun v16 hv16 => ?_)
  replace h := gq_l_i hv16 h
  exact g_weak [0, 1, 2] rfl (t_X10_comes_52 hC hr hk14 x1 x2 s1 v16 M h)
def f_X10_comes_14_b (N : Nat) (kh14 : Int32 → Int32 → gq_M → Option (Int32 × gq_M)) (x1 : Int32) (x2 : Int32) (M : gq_M) : Option (Int32 × gq_M) :=
  if x2 < 0 then (gq_g (gq_in x1 3) (gq_l (M 36 x1.toNatClampNeg) fun v5 => if v5 = (-1) then (f_X10_comes_79 N  x1 x1 0 M) else (f_X10_comes_79 N  x1 x1 1 M))) else (gq_g (gq_in x2 150) (gq_l (M 31 x2.toNatClampNeg) fun v8 => if v8 = x1 then (gq_g (gq_in x2 150) (gq_l (M 32 x2.toNatClampNeg) fun v11 => if v11 = 0 then (f_X10_comes_52 N kh14 x1 x2 x1 x2 M) else (f_X10_comes_46 N kh14 x1 x2 x1 M))) else (f_X10_comes_46 N kh14 x1 x2 x1 M)))
def f_X10_comes_14 (N : Nat) : Nat → Int32 → Int32 → gq_M → Option (Int32 × gq_M)
  | 0 => fun _ _ _ => none
  | n9 + 1 => f_X10_comes_14_b N  (f_X10_comes_14 N  n9)
set_option maxHeartbeats 1000000 in
set_option maxRecDepth 20000 in
theorem t_X10_comes_14_b {N : Nat} {kh14 : Int32 → Int32 → gq_M → Option (Int32 × gq_M)} {v9 : Int32} {M9 : gq_M} (hC : gq_C p s m args meth c D A cI cZ ad mtR RX10 cX10_comes 3) (hr : meth.sig.returnType = none)  (hk14 : ∀ (x1 : Int32) (x2 : Int32) (M : gq_M), kh14 x1 x2 M = some (v9, M9) → gq_W p l e (gq_rm 1) s m args below meth c D A cI cZ ad mtR 3 (MQ below (gq_Qv D cI cZ ad mtR M9 A) args s 0 0 A) 14 [(0, .ref (ad 0)), (1, .int x1), (2, .int x2)] [] M 0 0) : ∀ (x1 : Int32) (x2 : Int32) (M : gq_M), f_X10_comes_14_b N  kh14 x1 x2 M = some (v9, M9) → gq_W p l e (gq_rm 1) s m args below meth c D A cI cZ ad mtR 3 (MQ below (gq_Qv D cI cZ ad mtR M9 A) args s 0 0 A) 14 [(0, .ref (ad 0)), (1, .int x1), (2, .int x2)] [] M 0 0 := by
  intro x1 x2 M h
  unfold f_X10_comes_14_b at h
  refine g_iload_n hC 2 rfl rfl dX10_comes_14 ?_
  refine g_if_lt (tgt := 59) hC (by decide) dX10_comes_15 (fun c3 => ?_) (fun c3 => ?_)
  · replace h := gq_t c3 h
    refine g_aload_n hC 0 rfl rfl dX10_comes_59 ?_
    refine g_getR hC fF_X10_117 lkR_0_40 dX10_comes_60 ?_
    refine g_iload_n hC 1 rfl rfl dX10_comes_63 ?_
    refine g_aload_n hC 0 rfl rfl dX10_comes_64 ?_
    refine g_getR hC fF_X10_120 lkR_0_41 dX10_comes_65 ?_
    refine g_iload_n hC 1 rfl rfl dX10_comes_68 ?_
    obtain ⟨g4, h⟩ := gq_g_i h
    refine g_iald hC arR_36 (gq_in_i g4) dX10_comes_69 ?_
    refine g_topi (fun v5 hv5 => ?_)
    replace h := gq_l_i hv5 h
    refine g_iconst (v := (-1)) hC (by decide) dX10_comes_70 ?_
    refine g_icmp_ne (tgt := 78) hC (by decide) dX10_comes_71 (fun c6 => ?_) (fun c6 => ?_)
    · replace h := gq_f c6 h
      refine g_iconst (v := 1) hC (by decide) dX10_comes_78 ?_
      exact g_weak [0, 1] rfl (t_X10_comes_79 hC hr  x1 x1 1 M h)
    · replace h := gq_t c6 h
      refine g_iconst (v := 0) hC (by decide) dX10_comes_74 ?_
      refine g_goto (tgt := 79) hC (by decide) dX10_comes_75 ?_
      exact g_weak [0, 1] rfl (t_X10_comes_79 hC hr  x1 x1 0 M h)
  · replace h := gq_f c3 h
    refine g_aload_n hC 0 rfl rfl dX10_comes_18 ?_
    refine g_getR hC fF_X10_120 lkR_0_41 dX10_comes_19 ?_
    refine g_iload_n hC 1 rfl rfl dX10_comes_22 ?_
    refine g_aload_n hC 0 rfl rfl dX10_comes_23 ?_
    refine g_getR hC fF_X10_105 lkR_0_36 dX10_comes_24 ?_
    refine g_iload_n hC 2 rfl rfl dX10_comes_27 ?_
    obtain ⟨g7, h⟩ := gq_g_i h
    refine g_iald hC arR_31 (gq_in_i g7) dX10_comes_28 ?_
    refine g_topi (fun v8 hv8 => ?_)
    replace h := gq_l_i hv8 h
    refine g_iload_n hC 1 rfl rfl dX10_comes_29 ?_
    refine g_icmp_ne (tgt := 46) hC (by decide) dX10_comes_30 (fun c9 => ?_) (fun c9 => ?_)
    · replace h := gq_f c9 h
      exact g_weak [0, 1, 2] rfl (t_X10_comes_46 hC hr hk14 x1 x2 x1 M h)
    · replace h := gq_t c9 h
      refine g_aload_n hC 0 rfl rfl dX10_comes_33 ?_
      refine g_getR hC fF_X10_108 lkR_0_37 dX10_comes_34 ?_
      refine g_iload_n hC 2 rfl rfl dX10_comes_37 ?_
      obtain ⟨g10, h⟩ := gq_g_i h
      refine g_zald hC arR_32 (gq_in_i g10) dX10_comes_38 ?_
      refine g_topi (fun v11 hv11 => ?_)
      replace h := gq_l_i hv11 h
      refine g_if_ne (tgt := 46) hC (by decide) dX10_comes_39 (fun c12 => ?_) (fun c12 => ?_)
      · replace h := gq_f c12 h
        exact g_weak [0, 1, 2] rfl (t_X10_comes_46 hC hr hk14 x1 x2 x1 M h)
      · replace h := gq_t c12 h
        refine g_iload_n hC 2 rfl rfl dX10_comes_42 ?_
        refine g_goto (tgt := 52) hC (by decide) dX10_comes_43 ?_
        exact g_weak [0, 1, 2] rfl (t_X10_comes_52 hC hr hk14 x1 x2 x1 x2 M h)
theorem t_X10_comes_14 {N : Nat} {v9 : Int32} {M9 : gq_M} (hC : gq_C p s m args meth c D A cI cZ ad mtR RX10 cX10_comes 3) (hr : meth.sig.returnType = none)  : ∀ (n9 : Nat) (x1 : Int32) (x2 : Int32) (M : gq_M), f_X10_comes_14 N  n9 x1 x2 M = some (v9, M9) → gq_W p l e (gq_rm 1) s m args below meth c D A cI cZ ad mtR 3 (MQ below (gq_Qv D cI cZ ad mtR M9 A) args s 0 0 A) 14 [(0, .ref (ad 0)), (1, .int x1), (2, .int x2)] [] M 0 0 := by
  intro n9
  induction n9 with
  | zero => intro x1 x2 M h; cases h
  | succ n9 ih => intro x1 x2 M h; exact t_X10_comes_14_b hC hr  ih x1 x2 M h
def f_X10_comes (N : Nat) (a1 : Int32) (M : gq_M) : Option (Int32 × gq_M) :=
  gq_g (gq_in a1 3) (gq_l (gq_up M 36 a1.toNatClampNeg (-1)) fun M2 => f_X10_comes_14 N  N a1 ((M2 0 31) - 1) M2)
set_option maxHeartbeats 1000000 in
set_option maxRecDepth 20000 in
theorem t_X10_comes {l : Launch} {D : va_G} {cI cZ : ClassId} {ad : Nat → Nat} (N : Nat) (a1 : Int32) (M : gq_M) (v9 : Int32) (M9 : gq_M) (h : f_X10_comes N a1 M = some (v9, M9)) : gq_Cv l D cI cZ ad mtR yX10_comes cX10_comes 3 1 [.ref (ad 0), .int a1] M M9 := by
  refine gq_introV (own := RX10) (by decide) rfl (Nat.le_of_ble_eq_true rfl) ?_
  intro p e s m below meth c hC hr
  refine g_cast (L2 := [(0, .ref (ad 0)), (1, .int a1)]) ?_ rfl rfl rfl rfl
  unfold f_X10_comes at h
  refine g_aload_n hC 0 rfl rfl dX10_comes_0 ?_
  refine g_getR hC fF_X10_120 lkR_0_41 dX10_comes_1 ?_
  refine g_iload_n hC 1 rfl rfl dX10_comes_4 ?_
  refine g_iconst (v := (-1)) hC (by decide) dX10_comes_5 ?_
  obtain ⟨g1, h⟩ := gq_g_i h
  refine g_iast hC arR_36 (gq_in_i g1) dX10_comes_6 ?_
  refine g_topM (fun M2 hM2 => ?_)
  replace h := gq_l_i hM2 h
  refine g_aload_n hC 0 rfl rfl dX10_comes_7 ?_
  refine g_getI hC fF_X10_192 lkR_0_31 dX10_comes_8 ?_
  refine g_iconst (v := 1) hC (by decide) dX10_comes_11 ?_
  refine g_isub hC dX10_comes_12 ?_
  refine g_istore_n (L2 := [(2, .int ((M2 0 31) - 1)), (0, .ref (ad 0)), (1, .int a1)]) hC rfl (by decide) rfl dX10_comes_13 ?_
  exact g_weak [1, 2, 0] rfl (t_X10_comes_14 hC hr  N a1 ((M2 0 31) - 1) M2 h)
def f_X10_open_80_b (N : Nat) (kh80 : Int32 → gq_M → Option (Int32 × gq_M)) (x1 : Int32) (M : gq_M) : Option (Int32 × gq_M) :=
  if 3 ≤ x1 then (some ((M 0 31), M)) else (gq_b (f_X10_comes N x1 M) fun v25 M26 => kh80 (x1 + 1) M26)
def f_X10_open_80 (N : Nat) : Nat → Int32 → gq_M → Option (Int32 × gq_M)
  | 0 => fun _ _ => none
  | n9 + 1 => f_X10_open_80_b N  (f_X10_open_80 N  n9)
set_option maxHeartbeats 1000000 in
set_option maxRecDepth 20000 in
theorem t_X10_open_80_b {N : Nat} {kh80 : Int32 → gq_M → Option (Int32 × gq_M)} {v9 : Int32} {M9 : gq_M} (hC : gq_C p s m args meth c D A cI cZ ad mtR RX10 cX10_open 2) (hr : meth.sig.returnType = (some .int))  (hk80 : ∀ (x1 : Int32) (M : gq_M), kh80 x1 M = some (v9, M9) → gq_W p l e (gq_rm 3) s m args below meth c D A cI cZ ad mtR 2 (MQ below (gq_Qi D cI cZ ad mtR v9 M9 A) args s 0 0 A) 80 [(0, .ref (ad 0)), (1, .int x1)] [] M 0 0) : ∀ (x1 : Int32) (M : gq_M), f_X10_open_80_b N  kh80 x1 M = some (v9, M9) → gq_W p l e (gq_rm 3) s m args below meth c D A cI cZ ad mtR 2 (MQ below (gq_Qi D cI cZ ad mtR v9 M9 A) args s 0 0 A) 80 [(0, .ref (ad 0)), (1, .int x1)] [] M 0 0 := by
  intro x1 M h
  unfold f_X10_open_80_b at h
  refine g_iload_n hC 1 rfl rfl dX10_open_80 ?_
  refine g_iconst (v := 3) hC (by decide) dX10_open_81 ?_
  refine g_icmp_ge (tgt := 96) hC (by decide) dX10_open_82 (fun c24 => ?_) (fun c24 => ?_)
  · replace h := gq_t c24 h
    refine g_aload_n hC 0 rfl rfl dX10_open_96 ?_
    refine g_getI hC fF_X10_192 lkR_0_31 dX10_open_97 ?_
    exact g_irets hC hr h dX10_open_100
  · replace h := gq_f c24 h
    refine g_aload_n hC 0 rfl rfl dX10_open_85 ?_
    refine g_iload_n hC 1 rfl rfl dX10_open_86 ?_
    obtain ⟨v25, M26, c27, h⟩ := gq_b_i h
    refine g_Vv (as := [.int x1]) hC (t_X10_comes N _ _ _ _ c27) mV_X10_comes  wm_X10_213 obR_0 rfl rfl (Nat.le_of_ble_eq_true rfl) ⟨by decide, by decide⟩ ⟨by decide, by decide⟩ dX10_open_87 ?_
    refine g_iinc (v := (x1 + 1)) (L2 := [(1, .int (x1 + 1)), (0, .ref (ad 0))]) hC 1 rfl (by first | rfl | decide) (by decide) rfl dX10_open_90 ?_
    refine g_goto (tgt := 80) hC (by decide) dX10_open_93 ?_
    exact g_weak [1, 0] rfl (hk80 (x1 + 1) M26 h)
theorem t_X10_open_80 {N : Nat} {v9 : Int32} {M9 : gq_M} (hC : gq_C p s m args meth c D A cI cZ ad mtR RX10 cX10_open 2) (hr : meth.sig.returnType = (some .int))  : ∀ (n9 : Nat) (x1 : Int32) (M : gq_M), f_X10_open_80 N  n9 x1 M = some (v9, M9) → gq_W p l e (gq_rm 3) s m args below meth c D A cI cZ ad mtR 2 (MQ below (gq_Qi D cI cZ ad mtR v9 M9 A) args s 0 0 A) 80 [(0, .ref (ad 0)), (1, .int x1)] [] M 0 0 := by
  intro n9
  induction n9 with
  | zero => intro x1 M h; cases h
  | succ n9 ih => intro x1 M h; exact t_X10_open_80_b hC hr  ih x1 M h
def f_X10_open_47_b (N : Nat) (kh47 : Int32 → gq_M → Option (Int32 × gq_M)) (x1 : Int32) (M : gq_M) : Option (Int32 × gq_M) :=
  if (M 0 16) ≤ x1 then (gq_b (f_X10_drawsAll N 1 M) fun v16 M17 => gq_b (f_X10_drawsAll N 0 M17) fun v19 M20 => f_X10_open_80 N  N 0 M20) else (gq_g (gq_in x1 150) (gq_l (gq_up M 26 x1.toNatClampNeg (-1)) fun M23 => kh47 (x1 + 1) M23))
def f_X10_open_47 (N : Nat) : Nat → Int32 → gq_M → Option (Int32 × gq_M)
  | 0 => fun _ _ => none
  | n9 + 1 => f_X10_open_47_b N  (f_X10_open_47 N  n9)
set_option maxHeartbeats 1000000 in
set_option maxRecDepth 20000 in
theorem t_X10_open_47_b {N : Nat} {kh47 : Int32 → gq_M → Option (Int32 × gq_M)} {v9 : Int32} {M9 : gq_M} (hC : gq_C p s m args meth c D A cI cZ ad mtR RX10 cX10_open 2) (hr : meth.sig.returnType = (some .int))  (hk47 : ∀ (x1 : Int32) (M : gq_M), kh47 x1 M = some (v9, M9) → gq_W p l e (gq_rm 3) s m args below meth c D A cI cZ ad mtR 2 (MQ below (gq_Qi D cI cZ ad mtR v9 M9 A) args s 0 0 A) 47 [(0, .ref (ad 0)), (1, .int x1)] [] M 0 0) : ∀ (x1 : Int32) (M : gq_M), f_X10_open_47_b N  kh47 x1 M = some (v9, M9) → gq_W p l e (gq_rm 3) s m args below meth c D A cI cZ ad mtR 2 (MQ below (gq_Qi D cI cZ ad mtR v9 M9 A) args s 0 0 A) 47 [(0, .ref (ad 0)), (1, .int x1)] [] M 0 0 := by
  intro x1 M h
  unfold f_X10_open_47_b at h
  refine g_iload_n hC 1 rfl rfl dX10_open_47 ?_
  refine g_aload_n hC 0 rfl rfl dX10_open_48 ?_
  refine g_getI hC fF_X10_167 lkR_0_16 dX10_open_49 ?_
  refine g_icmp_ge (tgt := 68) hC (by decide) dX10_open_52 (fun c15 => ?_) (fun c15 => ?_)
  · replace h := gq_t c15 h
    refine g_aload_n hC 0 rfl rfl dX10_open_68 ?_
    refine g_iconst (v := 1) hC (by decide) dX10_open_69 ?_
    obtain ⟨v16, M17, c18, h⟩ := gq_b_i h
    refine g_Vv (as := [.int 1]) hC (t_X10_drawsAll N _ _ _ _ c18) mV_X10_drawsAll  wm_X10_209 obR_0 rfl rfl (Nat.le_of_ble_eq_true rfl) ⟨by decide, by decide⟩ ⟨by decide, by decide⟩ dX10_open_70 ?_
    refine g_aload_n hC 0 rfl rfl dX10_open_73 ?_
    refine g_iconst (v := 0) hC (by decide) dX10_open_74 ?_
    obtain ⟨v19, M20, c21, h⟩ := gq_b_i h
    refine g_Vv (as := [.int 0]) hC (t_X10_drawsAll N _ _ _ _ c21) mV_X10_drawsAll  wm_X10_209 obR_0 rfl rfl (Nat.le_of_ble_eq_true rfl) ⟨by decide, by decide⟩ ⟨by decide, by decide⟩ dX10_open_75 ?_
    refine g_iconst (v := 0) hC (by decide) dX10_open_78 ?_
    refine g_istore_n (L2 := [(1, .int 0), (0, .ref (ad 0))]) hC rfl (by decide) rfl dX10_open_79 ?_
    exact g_weak [1, 0] rfl (t_X10_open_80 hC hr  N 0 M20 h)
  · replace h := gq_f c15 h
    refine g_aload_n hC 0 rfl rfl dX10_open_55 ?_
    refine g_getR hC fF_X10_90 lkR_0_30 dX10_open_56 ?_
    refine g_iload_n hC 1 rfl rfl dX10_open_59 ?_
    refine g_iconst (v := (-1)) hC (by decide) dX10_open_60 ?_
    obtain ⟨g22, h⟩ := gq_g_i h
    refine g_iast hC arR_26 (gq_in_i g22) dX10_open_61 ?_
    refine g_topM (fun M23 hM23 => ?_)
    replace h := gq_l_i hM23 h
    refine g_iinc (v := (x1 + 1)) (L2 := [(1, .int (x1 + 1)), (0, .ref (ad 0))]) hC 1 rfl (by first | rfl | decide) (by decide) rfl dX10_open_62 ?_
    refine g_goto (tgt := 47) hC (by decide) dX10_open_65 ?_
    exact g_weak [1, 0] rfl (hk47 (x1 + 1) M23 h)
theorem t_X10_open_47 {N : Nat} {v9 : Int32} {M9 : gq_M} (hC : gq_C p s m args meth c D A cI cZ ad mtR RX10 cX10_open 2) (hr : meth.sig.returnType = (some .int))  : ∀ (n9 : Nat) (x1 : Int32) (M : gq_M), f_X10_open_47 N  n9 x1 M = some (v9, M9) → gq_W p l e (gq_rm 3) s m args below meth c D A cI cZ ad mtR 2 (MQ below (gq_Qi D cI cZ ad mtR v9 M9 A) args s 0 0 A) 47 [(0, .ref (ad 0)), (1, .int x1)] [] M 0 0 := by
  intro n9
  induction n9 with
  | zero => intro x1 M h; cases h
  | succ n9 ih => intro x1 M h; exact t_X10_open_47_b hC hr  ih x1 M h
def f_X10_open_27 (N : Nat) (s1 : Int32) (M : gq_M) : Option (Int32 × gq_M) :=
  gq_b (f_X10_fails N s1 M) fun v9 M10 => if v9 = 0 then (gq_l (gq_up M10 0 2 1) fun M13 => gq_l (gq_up M13 0 31 0) fun M14 => f_X10_open_47 N  N 0 M14) else (some (0, M10))
set_option maxHeartbeats 1000000 in
set_option maxRecDepth 20000 in
theorem t_X10_open_27 {N : Nat} {v9 : Int32} {M9 : gq_M} (hC : gq_C p s m args meth c D A cI cZ ad mtR RX10 cX10_open 2) (hr : meth.sig.returnType = (some .int))   : ∀ (s1 : Int32) (M : gq_M), f_X10_open_27 N  s1 M = some (v9, M9) → gq_W p l e (gq_rm 3) s m args below meth c D A cI cZ ad mtR 2 (MQ below (gq_Qi D cI cZ ad mtR v9 M9 A) args s 0 0 A) 27 [(0, .ref (ad 0))] [.int s1, .ref (ad 0)] M 0 0 := by
  intro s1 M h
  unfold f_X10_open_27 at h
  obtain ⟨v9, M10, c11, h⟩ := gq_b_i h
  refine g_Vi (as := [.int s1]) hC (t_X10_fails N _ _ _ _ c11) mV_X10_fails  wm_X10_178 obR_0 rfl rfl (Nat.le_of_ble_eq_true rfl) ⟨by decide, by decide⟩ ⟨by decide, by decide⟩ dX10_open_27 ?_
  refine g_if_eq (tgt := 35) hC (by decide) dX10_open_30 (fun c12 => ?_) (fun c12 => ?_)
  · replace h := gq_t c12 h
    refine g_aload_n hC 0 rfl rfl dX10_open_35 ?_
    refine g_iconst (v := 1) hC (by decide) dX10_open_36 ?_
    refine g_putZ hC fG_X10_205 lkR_0_2 gq_bit1 dX10_open_37 ?_
    refine g_topM (fun M13 hM13 => ?_)
    replace h := gq_l_i hM13 h
    refine g_aload_n hC 0 rfl rfl dX10_open_40 ?_
    refine g_iconst (v := 0) hC (by decide) dX10_open_41 ?_
    refine g_putI hC fG_X10_192 lkR_0_31 dX10_open_42 ?_
    refine g_topM (fun M14 hM14 => ?_)
    replace h := gq_l_i hM14 h
    refine g_iconst (v := 0) hC (by decide) dX10_open_45 ?_
    refine g_istore_n (L2 := [(1, .int 0), (0, .ref (ad 0))]) hC rfl (by decide) rfl dX10_open_46 ?_
    exact g_weak [1, 0] rfl (t_X10_open_47 hC hr  N 0 M14 h)
  · replace h := gq_f c12 h
    refine g_iconst (v := 0) hC (by decide) dX10_open_33 ?_
    exact g_irets hC hr h dX10_open_34
def f_X10_open_22 (N : Nat) (M : gq_M) : Option (Int32 × gq_M) :=
  f_X10_open_27 N  1 M
set_option maxHeartbeats 1000000 in
set_option maxRecDepth 20000 in
theorem t_X10_open_22 {N : Nat} {v9 : Int32} {M9 : gq_M} (hC : gq_C p s m args meth c D A cI cZ ad mtR RX10 cX10_open 2) (hr : meth.sig.returnType = (some .int))   : ∀ (M : gq_M), f_X10_open_22 N   M = some (v9, M9) → gq_W p l e (gq_rm 3) s m args below meth c D A cI cZ ad mtR 2 (MQ below (gq_Qi D cI cZ ad mtR v9 M9 A) args s 0 0 A) 22 [(0, .ref (ad 0))] [.ref (ad 0)] M 0 0 := by
  intro  M h
  unfold f_X10_open_22 at h
  refine g_iconst (v := 1) hC (by decide) dX10_open_22 ?_
  refine g_goto (tgt := 27) hC (by decide) dX10_open_23 ?_
  exact g_weak [0] rfl (t_X10_open_27 hC hr  1 M h)
def f_X10_open (N : Nat) (M : gq_M) : Option (Int32 × gq_M) :=
  if (M 0 2) = 0 then (gq_b (f_X10_ready N 1 M) fun v2 M3 => gq_b (f_X10_ready N 0 M3) fun v5 M6 => if (v2 ||| v5) = 0 then (f_X10_open_22 N   M6) else (f_X10_open_27 N  0 M6)) else (f_X10_open_22 N   M)
set_option maxHeartbeats 1000000 in
set_option maxRecDepth 20000 in
theorem t_X10_open {l : Launch} {D : va_G} {cI cZ : ClassId} {ad : Nat → Nat} (N : Nat) (M : gq_M) (v9 : Int32) (M9 : gq_M) (h : f_X10_open N  M = some (v9, M9)) : gq_Ci l D cI cZ ad mtR yX10_open cX10_open 2 (some .int) 3 [.ref (ad 0)] M v9 M9 := by
  refine gq_introI (own := RX10) (by decide) rfl (Nat.le_of_ble_eq_true rfl) ?_
  intro p e s m below meth c hC hr
  refine g_cast (L2 := [(0, .ref (ad 0))]) ?_ rfl rfl rfl rfl
  unfold f_X10_open at h
  refine g_aload_n hC 0 rfl rfl dX10_open_0 ?_
  refine g_aload_n hC 0 rfl rfl dX10_open_1 ?_
  refine g_getI hC fF_X10_205 lkR_0_2 dX10_open_2 ?_
  refine g_if_ne (tgt := 22) hC (by decide) dX10_open_5 (fun c1 => ?_) (fun c1 => ?_)
  · replace h := gq_f c1 h
    exact g_weak [0] rfl (t_X10_open_22 hC hr   M h)
  · replace h := gq_t c1 h
    refine g_aload_n hC 0 rfl rfl dX10_open_8 ?_
    refine g_iconst (v := 1) hC (by decide) dX10_open_9 ?_
    obtain ⟨v2, M3, c4, h⟩ := gq_b_i h
    refine g_Vi (as := [.int 1]) hC (t_X10_ready N _ _ _ _ c4) mV_X10_ready  wm_X10_195 obR_0 rfl rfl (Nat.le_of_ble_eq_true rfl) ⟨by decide, by decide⟩ ⟨by decide, by decide⟩ dX10_open_10 ?_
    refine g_aload_n hC 0 rfl rfl dX10_open_13 ?_
    refine g_iconst (v := 0) hC (by decide) dX10_open_14 ?_
    obtain ⟨v5, M6, c7, h⟩ := gq_b_i h
    refine g_Vi (as := [.int 0]) hC (t_X10_ready N _ _ _ _ c7) mV_X10_ready  wm_X10_195 obR_0 rfl rfl (Nat.le_of_ble_eq_true rfl) ⟨by decide, by decide⟩ ⟨by decide, by decide⟩ dX10_open_15 ?_
    refine g_ior hC dX10_open_18 ?_
    refine g_if_ne (tgt := 26) hC (by decide) dX10_open_19 (fun c8 => ?_) (fun c8 => ?_)
    · replace h := gq_f c8 h
      refine g_iconst (v := 0) hC (by decide) dX10_open_26 ?_
      exact g_weak [0] rfl (t_X10_open_27 hC hr  0 M6 h)
    · replace h := gq_t c8 h
      exact g_weak [0] rfl (t_X10_open_22 hC hr   M6 h)
def f_X10_withdraws_120 (N : Nat) (x1 : Int32) (M : gq_M) : Option (Int32 × gq_M) :=
  gq_g (gq_in x1 150) (gq_l (gq_up M 19 x1.toNatClampNeg 7) fun M41 => some (0, M41))
set_option maxHeartbeats 1000000 in
set_option maxRecDepth 20000 in
theorem t_X10_withdraws_120 {N : Nat} {v9 : Int32} {M9 : gq_M} (hC : gq_C p s m args meth c D A cI cZ ad mtR RX10 cX10_withdraws 2) (hr : meth.sig.returnType = none)   : ∀ (x1 : Int32) (M : gq_M), f_X10_withdraws_120 N  x1 M = some (v9, M9) → gq_W p l e (gq_rm 0) s m args below meth c D A cI cZ ad mtR 2 (MQ below (gq_Qv D cI cZ ad mtR M9 A) args s 0 0 A) 120 [(0, .ref (ad 0)), (1, .int x1)] [] M 0 0 := by
  intro x1 M h
  unfold f_X10_withdraws_120 at h
  refine g_aload_n hC 0 rfl rfl dX10_withdraws_120 ?_
  refine g_getR hC fF_X10_69 lkR_0_23 dX10_withdraws_121 ?_
  refine g_iload_n hC 1 rfl rfl dX10_withdraws_124 ?_
  refine g_bipush (v := 7) hC (by decide) dX10_withdraws_125 ?_
  obtain ⟨g40, h⟩ := gq_g_i h
  refine g_iast hC arR_19 (gq_in_i g40) dX10_withdraws_127 ?_
  refine g_topM (fun M41 hM41 => ?_)
  replace h := gq_l_i hM41 h
  exact g_vrets hC hr h dX10_withdraws_128
def f_X10_withdraws (N : Nat) (a1 : Int32) (M : gq_M) : Option (Int32 × gq_M) :=
  gq_g (gq_in a1 150) (gq_l (M 13 a1.toNatClampNeg) fun v2 => gq_g (gq_in v2 8) (gq_l (M 3 v2.toNatClampNeg) fun v4 => gq_g (gq_in a1 150) (gq_l (M 17 a1.toNatClampNeg) fun v6 => if v4 < v6 then (gq_g (gq_in a1 150) (gq_l (M 20 a1.toNatClampNeg) fun v9 => if v9 = 0 then (gq_g (gq_in a1 150) (gq_l (M 16 a1.toNatClampNeg) fun v12 => if v12 ≤ 1 then (f_X10_withdraws_120 N  a1 M) else (gq_g (gq_in a1 150) (gq_l (gq_up M 19 a1.toNatClampNeg 6) fun M15 => gq_g (gq_in a1 150) (gq_l (gq_up M15 20 a1.toNatClampNeg 1) fun M17 => gq_g (gq_in a1 150) (gq_l (M17 16 a1.toNatClampNeg) fun v19 => gq_g (gq_in a1 150) (gq_l (gq_up M17 16 a1.toNatClampNeg (v19 - 1)) fun M21 => some (0, M21)))))))) else (f_X10_withdraws_120 N  a1 M))) else (gq_g (gq_in a1 150) (gq_l (gq_up M 19 a1.toNatClampNeg 5) fun M23 => gq_g (gq_in a1 150) (gq_l (M23 13 a1.toNatClampNeg) fun v25 => gq_g (gq_in v25 8) (gq_l (M23 3 v25.toNatClampNeg) fun v27 => gq_g (gq_in a1 150) (gq_l (M23 17 a1.toNatClampNeg) fun v29 => gq_g (gq_in v25 8) (gq_l (gq_up M23 3 v25.toNatClampNeg (v27 - v29)) fun M31 => gq_g (gq_in a1 150) (gq_l (M31 13 a1.toNatClampNeg) fun v33 => gq_g (gq_in v33 8) (gq_l (M31 5 v33.toNatClampNeg) fun v35 => gq_g (gq_in a1 150) (gq_l (M31 17 a1.toNatClampNeg) fun v37 => gq_g (gq_in v33 8) (gq_l (gq_up M31 5 v33.toNatClampNeg (v35 + (20 * v37))) fun M39 => some (0, M39))))))))))))))
set_option maxHeartbeats 1000000 in
set_option maxRecDepth 20000 in
theorem t_X10_withdraws {l : Launch} {D : va_G} {cI cZ : ClassId} {ad : Nat → Nat} (N : Nat) (a1 : Int32) (M : gq_M) (v9 : Int32) (M9 : gq_M) (h : f_X10_withdraws N a1 M = some (v9, M9)) : gq_Cv l D cI cZ ad mtR yX10_withdraws cX10_withdraws 2 0 [.ref (ad 0), .int a1] M M9 := by
  refine gq_introV (own := RX10) (by decide) rfl (Nat.le_of_ble_eq_true rfl) ?_
  intro p e s m below meth c hC hr
  refine g_cast (L2 := [(0, .ref (ad 0)), (1, .int a1)]) ?_ rfl rfl rfl rfl
  unfold f_X10_withdraws at h
  refine g_aload_n hC 0 rfl rfl dX10_withdraws_0 ?_
  refine g_getR hC fF_X10_20 lkR_0_6 dX10_withdraws_1 ?_
  refine g_aload_n hC 0 rfl rfl dX10_withdraws_4 ?_
  refine g_getR hC fF_X10_51 lkR_0_17 dX10_withdraws_5 ?_
  refine g_iload_n hC 1 rfl rfl dX10_withdraws_8 ?_
  obtain ⟨g1, h⟩ := gq_g_i h
  refine g_iald hC arR_13 (gq_in_i g1) dX10_withdraws_9 ?_
  refine g_topi (fun v2 hv2 => ?_)
  replace h := gq_l_i hv2 h
  obtain ⟨g3, h⟩ := gq_g_i h
  refine g_iald hC arR_3 (gq_in_i g3) dX10_withdraws_10 ?_
  refine g_topi (fun v4 hv4 => ?_)
  replace h := gq_l_i hv4 h
  refine g_aload_n hC 0 rfl rfl dX10_withdraws_11 ?_
  refine g_getR hC fF_X10_63 lkR_0_21 dX10_withdraws_12 ?_
  refine g_iload_n hC 1 rfl rfl dX10_withdraws_15 ?_
  obtain ⟨g5, h⟩ := gq_g_i h
  refine g_iald hC arR_17 (gq_in_i g5) dX10_withdraws_16 ?_
  refine g_topi (fun v6 hv6 => ?_)
  replace h := gq_l_i hv6 h
  refine g_icmp_lt (tgt := 73) hC (by decide) dX10_withdraws_17 (fun c7 => ?_) (fun c7 => ?_)
  · replace h := gq_t c7 h
    refine g_aload_n hC 0 rfl rfl dX10_withdraws_73 ?_
    refine g_getR hC fF_X10_72 lkR_0_24 dX10_withdraws_74 ?_
    refine g_iload_n hC 1 rfl rfl dX10_withdraws_77 ?_
    obtain ⟨g8, h⟩ := gq_g_i h
    refine g_zald hC arR_20 (gq_in_i g8) dX10_withdraws_78 ?_
    refine g_topi (fun v9 hv9 => ?_)
    replace h := gq_l_i hv9 h
    refine g_if_ne (tgt := 120) hC (by decide) dX10_withdraws_79 (fun c10 => ?_) (fun c10 => ?_)
    · replace h := gq_f c10 h
      exact g_weak [0, 1] rfl (t_X10_withdraws_120 hC hr  a1 M h)
    · replace h := gq_t c10 h
      refine g_aload_n hC 0 rfl rfl dX10_withdraws_82 ?_
      refine g_getR hC fF_X10_60 lkR_0_20 dX10_withdraws_83 ?_
      refine g_iload_n hC 1 rfl rfl dX10_withdraws_86 ?_
      obtain ⟨g11, h⟩ := gq_g_i h
      refine g_iald hC arR_16 (gq_in_i g11) dX10_withdraws_87 ?_
      refine g_topi (fun v12 hv12 => ?_)
      replace h := gq_l_i hv12 h
      refine g_iconst (v := 1) hC (by decide) dX10_withdraws_88 ?_
      refine g_icmp_le (tgt := 120) hC (by decide) dX10_withdraws_89 (fun c13 => ?_) (fun c13 => ?_)
      · replace h := gq_t c13 h
        exact g_weak [0, 1] rfl (t_X10_withdraws_120 hC hr  a1 M h)
      · replace h := gq_f c13 h
        refine g_aload_n hC 0 rfl rfl dX10_withdraws_92 ?_
        refine g_getR hC fF_X10_69 lkR_0_23 dX10_withdraws_93 ?_
        refine g_iload_n hC 1 rfl rfl dX10_withdraws_96 ?_
        refine g_bipush (v := 6) hC (by decide) dX10_withdraws_97 ?_
        obtain ⟨g14, h⟩ := gq_g_i h
        refine g_iast hC arR_19 (gq_in_i g14) dX10_withdraws_99 ?_
        refine g_topM (fun M15 hM15 => ?_)
        replace h := gq_l_i hM15 h
        refine g_aload_n hC 0 rfl rfl dX10_withdraws_100 ?_
        refine g_getR hC fF_X10_72 lkR_0_24 dX10_withdraws_101 ?_
        refine g_iload_n hC 1 rfl rfl dX10_withdraws_104 ?_
        refine g_iconst (v := 1) hC (by decide) dX10_withdraws_105 ?_
        obtain ⟨g16, h⟩ := gq_g_i h
        refine g_zast hC arR_20 (gq_in_i g16) gq_bit1 dX10_withdraws_106 ?_
        refine g_topM (fun M17 hM17 => ?_)
        replace h := gq_l_i hM17 h
        refine g_aload_n hC 0 rfl rfl dX10_withdraws_107 ?_
        refine g_getR hC fF_X10_60 lkR_0_20 dX10_withdraws_108 ?_
        refine g_iload_n hC 1 rfl rfl dX10_withdraws_111 ?_
        refine g_dup2 hC rfl rfl dX10_withdraws_112 ?_
        obtain ⟨g18, h⟩ := gq_g_i h
        refine g_iald hC arR_16 (gq_in_i g18) dX10_withdraws_113 ?_
        refine g_topi (fun v19 hv19 => ?_)
        replace h := gq_l_i hv19 h
        refine g_iconst (v := 1) hC (by decide) dX10_withdraws_114 ?_
        refine g_isub hC dX10_withdraws_115 ?_
        obtain ⟨g20, h⟩ := gq_g_i h
        refine g_iast hC arR_16 (gq_in_i g20) dX10_withdraws_116 ?_
        refine g_topM (fun M21 hM21 => ?_)
        replace h := gq_l_i hM21 h
        refine g_goto (tgt := 128) hC (by decide) dX10_withdraws_117 ?_
        exact g_vrets hC hr h dX10_withdraws_128
  · replace h := gq_f c7 h
    refine g_aload_n hC 0 rfl rfl dX10_withdraws_20 ?_
    refine g_getR hC fF_X10_69 lkR_0_23 dX10_withdraws_21 ?_
    refine g_iload_n hC 1 rfl rfl dX10_withdraws_24 ?_
    refine g_iconst (v := 5) hC (by decide) dX10_withdraws_25 ?_
    obtain ⟨g22, h⟩ := gq_g_i h
    refine g_iast hC arR_19 (gq_in_i g22) dX10_withdraws_26 ?_
    refine g_topM (fun M23 hM23 => ?_)
    replace h := gq_l_i hM23 h
    refine g_aload_n hC 0 rfl rfl dX10_withdraws_27 ?_
    refine g_getR hC fF_X10_20 lkR_0_6 dX10_withdraws_28 ?_
    refine g_aload_n hC 0 rfl rfl dX10_withdraws_31 ?_
    refine g_getR hC fF_X10_51 lkR_0_17 dX10_withdraws_32 ?_
    refine g_iload_n hC 1 rfl rfl dX10_withdraws_35 ?_
    obtain ⟨g24, h⟩ := gq_g_i h
    refine g_iald hC arR_13 (gq_in_i g24) dX10_withdraws_36 ?_
    refine g_topi (fun v25 hv25 => ?_)
    replace h := gq_l_i hv25 h
    refine g_dup2 hC rfl rfl dX10_withdraws_37 ?_
    obtain ⟨g26, h⟩ := gq_g_i h
    refine g_iald hC arR_3 (gq_in_i g26) dX10_withdraws_38 ?_
    refine g_topi (fun v27 hv27 => ?_)
    replace h := gq_l_i hv27 h
    refine g_aload_n hC 0 rfl rfl dX10_withdraws_39 ?_
    refine g_getR hC fF_X10_63 lkR_0_21 dX10_withdraws_40 ?_
    refine g_iload_n hC 1 rfl rfl dX10_withdraws_43 ?_
    obtain ⟨g28, h⟩ := gq_g_i h
    refine g_iald hC arR_17 (gq_in_i g28) dX10_withdraws_44 ?_
    refine g_topi (fun v29 hv29 => ?_)
    replace h := gq_l_i hv29 h
    refine g_isub hC dX10_withdraws_45 ?_
    obtain ⟨g30, h⟩ := gq_g_i h
    refine g_iast hC arR_3 (gq_in_i g30) dX10_withdraws_46 ?_
    refine g_topM (fun M31 hM31 => ?_)
    replace h := gq_l_i hM31 h
    refine g_aload_n hC 0 rfl rfl dX10_withdraws_47 ?_
    refine g_getR hC fF_X10_27 lkR_0_8 dX10_withdraws_48 ?_
    refine g_aload_n hC 0 rfl rfl dX10_withdraws_51 ?_
    refine g_getR hC fF_X10_51 lkR_0_17 dX10_withdraws_52 ?_
    refine g_iload_n hC 1 rfl rfl dX10_withdraws_55 ?_
    obtain ⟨g32, h⟩ := gq_g_i h
    refine g_iald hC arR_13 (gq_in_i g32) dX10_withdraws_56 ?_
    refine g_topi (fun v33 hv33 => ?_)
    replace h := gq_l_i hv33 h
    refine g_dup2 hC rfl rfl dX10_withdraws_57 ?_
    obtain ⟨g34, h⟩ := gq_g_i h
    refine g_iald hC arR_5 (gq_in_i g34) dX10_withdraws_58 ?_
    refine g_topi (fun v35 hv35 => ?_)
    replace h := gq_l_i hv35 h
    refine g_bipush (v := 20) hC (by decide) dX10_withdraws_59 ?_
    refine g_aload_n hC 0 rfl rfl dX10_withdraws_61 ?_
    refine g_getR hC fF_X10_63 lkR_0_21 dX10_withdraws_62 ?_
    refine g_iload_n hC 1 rfl rfl dX10_withdraws_65 ?_
    obtain ⟨g36, h⟩ := gq_g_i h
    refine g_iald hC arR_17 (gq_in_i g36) dX10_withdraws_66 ?_
    refine g_topi (fun v37 hv37 => ?_)
    replace h := gq_l_i hv37 h
    refine g_imul hC dX10_withdraws_67 ?_
    refine g_iadd hC dX10_withdraws_68 ?_
    obtain ⟨g38, h⟩ := gq_g_i h
    refine g_iast hC arR_5 (gq_in_i g38) dX10_withdraws_69 ?_
    refine g_topM (fun M39 hM39 => ?_)
    replace h := gq_l_i hM39 h
    refine g_goto (tgt := 128) hC (by decide) dX10_withdraws_70 ?_
    exact g_vrets hC hr h dX10_withdraws_128
def f_X10_withdrawsAll_40 (N : Nat) (kh4 : Int32 → Int32 → Int32 → gq_M → Option (Int32 × gq_M)) (x1 : Int32) (x2 : Int32) (x3 : Int32) (M : gq_M) : Option (Int32 × gq_M) :=
  kh4 x1 x2 (x3 + 1) M
set_option maxHeartbeats 1000000 in
set_option maxRecDepth 20000 in
theorem t_X10_withdrawsAll_40 {N : Nat} {kh4 : Int32 → Int32 → Int32 → gq_M → Option (Int32 × gq_M)} {v9 : Int32} {M9 : gq_M} (hC : gq_C p s m args meth c D A cI cZ ad mtR RX10 cX10_withdrawsAll 4) (hr : meth.sig.returnType = (some .int)) (hk4 : ∀ (x1 : Int32) (x2 : Int32) (x3 : Int32) (M : gq_M), kh4 x1 x2 x3 M = some (v9, M9) → gq_W p l e (gq_rm 1) s m args below meth c D A cI cZ ad mtR 4 (MQ below (gq_Qi D cI cZ ad mtR v9 M9 A) args s 0 0 A) 4 [(0, .ref (ad 0)), (1, .int x1), (2, .int x2), (3, .int x3)] [] M 0 0)  : ∀ (x1 : Int32) (x2 : Int32) (x3 : Int32) (M : gq_M), f_X10_withdrawsAll_40 N kh4 x1 x2 x3 M = some (v9, M9) → gq_W p l e (gq_rm 1) s m args below meth c D A cI cZ ad mtR 4 (MQ below (gq_Qi D cI cZ ad mtR v9 M9 A) args s 0 0 A) 40 [(0, .ref (ad 0)), (1, .int x1), (2, .int x2), (3, .int x3)] [] M 0 0 := by
  intro x1 x2 x3 M h
  unfold f_X10_withdrawsAll_40 at h
  refine g_iinc (v := (x3 + 1)) (L2 := [(3, .int (x3 + 1)), (0, .ref (ad 0)), (1, .int x1), (2, .int x2)]) hC 3 rfl (by first | rfl | decide) (by decide) rfl dX10_withdrawsAll_40 ?_
  refine g_goto (tgt := 4) hC (by decide) dX10_withdrawsAll_43 ?_
  exact g_weak [1, 2, 3, 0] rfl (hk4 x1 x2 (x3 + 1) M h)
def f_X10_withdrawsAll_4_b (N : Nat) (kh4 : Int32 → Int32 → Int32 → gq_M → Option (Int32 × gq_M)) (x1 : Int32) (x2 : Int32) (x3 : Int32) (M : gq_M) : Option (Int32 × gq_M) :=
  if (M 0 16) ≤ x3 then (some (x2, M)) else (gq_g (gq_in x3 150) (gq_l (M 26 x3.toNatClampNeg) fun v3 => if v3 = x1 then (gq_g (gq_in x3 150) (gq_l (M 19 x3.toNatClampNeg) fun v6 => if v6 = 2 then (gq_b (f_X10_withdraws N x3 M) fun v8 M9 => f_X10_withdrawsAll_40 N kh4 x1 (x2 + 1) x3 M9) else (f_X10_withdrawsAll_40 N kh4 x1 x2 x3 M))) else (f_X10_withdrawsAll_40 N kh4 x1 x2 x3 M)))
def f_X10_withdrawsAll_4 (N : Nat) : Nat → Int32 → Int32 → Int32 → gq_M → Option (Int32 × gq_M)
  | 0 => fun _ _ _ _ => none
  | n9 + 1 => f_X10_withdrawsAll_4_b N  (f_X10_withdrawsAll_4 N  n9)
set_option maxHeartbeats 1000000 in
set_option maxRecDepth 20000 in
theorem t_X10_withdrawsAll_4_b {N : Nat} {kh4 : Int32 → Int32 → Int32 → gq_M → Option (Int32 × gq_M)} {v9 : Int32} {M9 : gq_M} (hC : gq_C p s m args meth c D A cI cZ ad mtR RX10 cX10_withdrawsAll 4) (hr : meth.sig.returnType = (some .int))  (hk4 : ∀ (x1 : Int32) (x2 : Int32) (x3 : Int32) (M : gq_M), kh4 x1 x2 x3 M = some (v9, M9) → gq_W p l e (gq_rm 1) s m args below meth c D A cI cZ ad mtR 4 (MQ below (gq_Qi D cI cZ ad mtR v9 M9 A) args s 0 0 A) 4 [(0, .ref (ad 0)), (1, .int x1), (2, .int x2), (3, .int x3)] [] M 0 0) : ∀ (x1 : Int32) (x2 : Int32) (x3 : Int32) (M : gq_M), f_X10_withdrawsAll_4_b N  kh4 x1 x2 x3 M = some (v9, M9) → gq_W p l e (gq_rm 1) s m args below meth c D A cI cZ ad mtR 4 (MQ below (gq_Qi D cI cZ ad mtR v9 M9 A) args s 0 0 A) 4 [(0, .ref (ad 0)), (1, .int x1), (2, .int x2), (3, .int x3)] [] M 0 0 := by
  intro x1 x2 x3 M h
  unfold f_X10_withdrawsAll_4_b at h
  refine g_iload_n hC 3 rfl rfl dX10_withdrawsAll_4 ?_
  refine g_aload_n hC 0 rfl rfl dX10_withdrawsAll_5 ?_
  refine g_getI hC fF_X10_167 lkR_0_16 dX10_withdrawsAll_6 ?_
  refine g_icmp_ge (tgt := 46) hC (by decide) dX10_withdrawsAll_9 (fun c1 => ?_) (fun c1 => ?_)
  · replace h := gq_t c1 h
    refine g_iload_n hC 2 rfl rfl dX10_withdrawsAll_46 ?_
    exact g_irets hC hr h dX10_withdrawsAll_47
  · replace h := gq_f c1 h
    refine g_aload_n hC 0 rfl rfl dX10_withdrawsAll_12 ?_
    refine g_getR hC fF_X10_90 lkR_0_30 dX10_withdrawsAll_13 ?_
    refine g_iload_n hC 3 rfl rfl dX10_withdrawsAll_16 ?_
    obtain ⟨g2, h⟩ := gq_g_i h
    refine g_iald hC arR_26 (gq_in_i g2) dX10_withdrawsAll_17 ?_
    refine g_topi (fun v3 hv3 => ?_)
    replace h := gq_l_i hv3 h
    refine g_iload_n hC 1 rfl rfl dX10_withdrawsAll_18 ?_
    refine g_icmp_ne (tgt := 40) hC (by decide) dX10_withdrawsAll_19 (fun c4 => ?_) (fun c4 => ?_)
    · replace h := gq_f c4 h
      exact g_weak [0, 1, 2, 3] rfl (t_X10_withdrawsAll_40 hC hr hk4 x1 x2 x3 M h)
    · replace h := gq_t c4 h
      refine g_aload_n hC 0 rfl rfl dX10_withdrawsAll_22 ?_
      refine g_getR hC fF_X10_69 lkR_0_23 dX10_withdrawsAll_23 ?_
      refine g_iload_n hC 3 rfl rfl dX10_withdrawsAll_26 ?_
      obtain ⟨g5, h⟩ := gq_g_i h
      refine g_iald hC arR_19 (gq_in_i g5) dX10_withdrawsAll_27 ?_
      refine g_topi (fun v6 hv6 => ?_)
      replace h := gq_l_i hv6 h
      refine g_iconst (v := 2) hC (by decide) dX10_withdrawsAll_28 ?_
      refine g_icmp_ne (tgt := 40) hC (by decide) dX10_withdrawsAll_29 (fun c7 => ?_) (fun c7 => ?_)
      · replace h := gq_f c7 h
        exact g_weak [0, 1, 2, 3] rfl (t_X10_withdrawsAll_40 hC hr hk4 x1 x2 x3 M h)
      · replace h := gq_t c7 h
        refine g_aload_n hC 0 rfl rfl dX10_withdrawsAll_32 ?_
        refine g_iload_n hC 3 rfl rfl dX10_withdrawsAll_33 ?_
        obtain ⟨v8, M9, c10, h⟩ := gq_b_i h
        refine g_Vv (as := [.int x3]) hC (t_X10_withdraws N _ _ _ _ c10) mV_X10_withdraws  wm_X10_215 obR_0 rfl rfl (Nat.le_of_ble_eq_true rfl) ⟨by decide, by decide⟩ ⟨by decide, by decide⟩ dX10_withdrawsAll_34 ?_
        refine g_iinc (v := (x2 + 1)) (L2 := [(2, .int (x2 + 1)), (0, .ref (ad 0)), (1, .int x1), (3, .int x3)]) hC 2 rfl (by first | rfl | decide) (by decide) rfl dX10_withdrawsAll_37 ?_
        exact g_weak [1, 2, 0, 3] rfl (t_X10_withdrawsAll_40 hC hr hk4 x1 (x2 + 1) x3 M9 h)
theorem t_X10_withdrawsAll_4 {N : Nat} {v9 : Int32} {M9 : gq_M} (hC : gq_C p s m args meth c D A cI cZ ad mtR RX10 cX10_withdrawsAll 4) (hr : meth.sig.returnType = (some .int))  : ∀ (n9 : Nat) (x1 : Int32) (x2 : Int32) (x3 : Int32) (M : gq_M), f_X10_withdrawsAll_4 N  n9 x1 x2 x3 M = some (v9, M9) → gq_W p l e (gq_rm 1) s m args below meth c D A cI cZ ad mtR 4 (MQ below (gq_Qi D cI cZ ad mtR v9 M9 A) args s 0 0 A) 4 [(0, .ref (ad 0)), (1, .int x1), (2, .int x2), (3, .int x3)] [] M 0 0 := by
  intro n9
  induction n9 with
  | zero => intro x1 x2 x3 M h; cases h
  | succ n9 ih => intro x1 x2 x3 M h; exact t_X10_withdrawsAll_4_b hC hr  ih x1 x2 x3 M h
def f_X10_withdrawsAll (N : Nat) (a1 : Int32) (M : gq_M) : Option (Int32 × gq_M) :=
  f_X10_withdrawsAll_4 N  N a1 0 0 M
set_option maxHeartbeats 1000000 in
set_option maxRecDepth 20000 in
theorem t_X10_withdrawsAll {l : Launch} {D : va_G} {cI cZ : ClassId} {ad : Nat → Nat} (N : Nat) (a1 : Int32) (M : gq_M) (v9 : Int32) (M9 : gq_M) (h : f_X10_withdrawsAll N a1 M = some (v9, M9)) : gq_Ci l D cI cZ ad mtR yX10_withdrawsAll cX10_withdrawsAll 4 (some .int) 1 [.ref (ad 0), .int a1] M v9 M9 := by
  refine gq_introI (own := RX10) (by decide) rfl (Nat.le_of_ble_eq_true rfl) ?_
  intro p e s m below meth c hC hr
  refine g_cast (L2 := [(0, .ref (ad 0)), (1, .int a1)]) ?_ rfl rfl rfl rfl
  unfold f_X10_withdrawsAll at h
  refine g_iconst (v := 0) hC (by decide) dX10_withdrawsAll_0 ?_
  refine g_istore_n (L2 := [(2, .int 0), (0, .ref (ad 0)), (1, .int a1)]) hC rfl (by decide) rfl dX10_withdrawsAll_1 ?_
  refine g_iconst (v := 0) hC (by decide) dX10_withdrawsAll_2 ?_
  refine g_istore_n (L2 := [(3, .int 0), (2, .int 0), (0, .ref (ad 0)), (1, .int a1)]) hC rfl (by decide) rfl dX10_withdrawsAll_3 ?_
  exact g_weak [2, 3, 1, 0] rfl (t_X10_withdrawsAll_4 hC hr  N a1 0 0 M h)
def f_X10_ends (N : Nat) (a1 : Int32) (M : gq_M) : Option (Int32 × gq_M) :=
  gq_g (gq_in a1 3) (gq_l (M 36 a1.toNatClampNeg) fun v2 => gq_g (gq_in v2 150) (gq_l (gq_up M 32 v2.toNatClampNeg 1) fun M4 => gq_b (f_X10_comes N a1 M4) fun v5 M6 => some (0, M6)))
set_option maxHeartbeats 1000000 in
set_option maxRecDepth 20000 in
theorem t_X10_ends {l : Launch} {D : va_G} {cI cZ : ClassId} {ad : Nat → Nat} (N : Nat) (a1 : Int32) (M : gq_M) (v9 : Int32) (M9 : gq_M) (h : f_X10_ends N a1 M = some (v9, M9)) : gq_Cv l D cI cZ ad mtR yX10_ends cX10_ends 2 2 [.ref (ad 0), .int a1] M M9 := by
  refine gq_introV (own := RX10) (by decide) rfl (Nat.le_of_ble_eq_true rfl) ?_
  intro p e s m below meth c hC hr
  refine g_cast (L2 := [(0, .ref (ad 0)), (1, .int a1)]) ?_ rfl rfl rfl rfl
  unfold f_X10_ends at h
  refine g_aload_n hC 0 rfl rfl dX10_ends_0 ?_
  refine g_getR hC fF_X10_108 lkR_0_37 dX10_ends_1 ?_
  refine g_aload_n hC 0 rfl rfl dX10_ends_4 ?_
  refine g_getR hC fF_X10_120 lkR_0_41 dX10_ends_5 ?_
  refine g_iload_n hC 1 rfl rfl dX10_ends_8 ?_
  obtain ⟨g1, h⟩ := gq_g_i h
  refine g_iald hC arR_36 (gq_in_i g1) dX10_ends_9 ?_
  refine g_topi (fun v2 hv2 => ?_)
  replace h := gq_l_i hv2 h
  refine g_iconst (v := 1) hC (by decide) dX10_ends_10 ?_
  obtain ⟨g3, h⟩ := gq_g_i h
  refine g_zast hC arR_32 (gq_in_i g3) gq_bit1 dX10_ends_11 ?_
  refine g_topM (fun M4 hM4 => ?_)
  replace h := gq_l_i hM4 h
  refine g_aload_n hC 0 rfl rfl dX10_ends_12 ?_
  refine g_iload_n hC 1 rfl rfl dX10_ends_13 ?_
  obtain ⟨v5, M6, c7, h⟩ := gq_b_i h
  refine g_Vv (as := [.int a1]) hC (t_X10_comes N _ _ _ _ c7) mV_X10_comes  wm_X10_213 obR_0 rfl rfl (Nat.le_of_ble_eq_true rfl) ⟨by decide, by decide⟩ ⟨by decide, by decide⟩ dX10_ends_14 ?_
  exact g_vrets hC hr h dX10_ends_17
def f_X10_end_87_b (N : Nat) (kh87 : Int32 → Int32 → gq_M → Option (Int32 × gq_M)) (x1 : Int32) (x2 : Int32) (M : gq_M) : Option (Int32 × gq_M) :=
  if (M 0 16) ≤ x2 then (some (x1, M)) else (gq_g (gq_in x2 150) (gq_l (gq_up M 26 x2.toNatClampNeg (-1)) fun M19 => kh87 x1 (x2 + 1) M19))
def f_X10_end_87 (N : Nat) : Nat → Int32 → Int32 → gq_M → Option (Int32 × gq_M)
  | 0 => fun _ _ _ => none
  | n9 + 1 => f_X10_end_87_b N  (f_X10_end_87 N  n9)
set_option maxHeartbeats 1000000 in
set_option maxRecDepth 20000 in
theorem t_X10_end_87_b {N : Nat} {kh87 : Int32 → Int32 → gq_M → Option (Int32 × gq_M)} {v9 : Int32} {M9 : gq_M} (hC : gq_C p s m args meth c D A cI cZ ad mtR RX10 cX10_end 3) (hr : meth.sig.returnType = (some .int))  (hk87 : ∀ (x1 : Int32) (x2 : Int32) (M : gq_M), kh87 x1 x2 M = some (v9, M9) → gq_W p l e (gq_rm 2) s m args below meth c D A cI cZ ad mtR 3 (MQ below (gq_Qi D cI cZ ad mtR v9 M9 A) args s 0 0 A) 87 [(0, .ref (ad 0)), (1, .int x1), (2, .int x2)] [] M 0 0) : ∀ (x1 : Int32) (x2 : Int32) (M : gq_M), f_X10_end_87_b N  kh87 x1 x2 M = some (v9, M9) → gq_W p l e (gq_rm 2) s m args below meth c D A cI cZ ad mtR 3 (MQ below (gq_Qi D cI cZ ad mtR v9 M9 A) args s 0 0 A) 87 [(0, .ref (ad 0)), (1, .int x1), (2, .int x2)] [] M 0 0 := by
  intro x1 x2 M h
  unfold f_X10_end_87_b at h
  refine g_iload_n hC 2 rfl rfl dX10_end_87 ?_
  refine g_aload_n hC 0 rfl rfl dX10_end_88 ?_
  refine g_getI hC fF_X10_167 lkR_0_16 dX10_end_89 ?_
  refine g_icmp_ge (tgt := 108) hC (by decide) dX10_end_92 (fun c17 => ?_) (fun c17 => ?_)
  · replace h := gq_t c17 h
    refine g_iload_n hC 1 rfl rfl dX10_end_108 ?_
    exact g_irets hC hr h dX10_end_109
  · replace h := gq_f c17 h
    refine g_aload_n hC 0 rfl rfl dX10_end_95 ?_
    refine g_getR hC fF_X10_90 lkR_0_30 dX10_end_96 ?_
    refine g_iload_n hC 2 rfl rfl dX10_end_99 ?_
    refine g_iconst (v := (-1)) hC (by decide) dX10_end_100 ?_
    obtain ⟨g18, h⟩ := gq_g_i h
    refine g_iast hC arR_26 (gq_in_i g18) dX10_end_101 ?_
    refine g_topM (fun M19 hM19 => ?_)
    replace h := gq_l_i hM19 h
    refine g_iinc (v := (x2 + 1)) (L2 := [(2, .int (x2 + 1)), (0, .ref (ad 0)), (1, .int x1)]) hC 2 rfl (by first | rfl | decide) (by decide) rfl dX10_end_102 ?_
    refine g_goto (tgt := 87) hC (by decide) dX10_end_105 ?_
    exact g_weak [1, 2, 0] rfl (hk87 x1 (x2 + 1) M19 h)
theorem t_X10_end_87 {N : Nat} {v9 : Int32} {M9 : gq_M} (hC : gq_C p s m args meth c D A cI cZ ad mtR RX10 cX10_end 3) (hr : meth.sig.returnType = (some .int))  : ∀ (n9 : Nat) (x1 : Int32) (x2 : Int32) (M : gq_M), f_X10_end_87 N  n9 x1 x2 M = some (v9, M9) → gq_W p l e (gq_rm 2) s m args below meth c D A cI cZ ad mtR 3 (MQ below (gq_Qi D cI cZ ad mtR v9 M9 A) args s 0 0 A) 87 [(0, .ref (ad 0)), (1, .int x1), (2, .int x2)] [] M 0 0 := by
  intro n9
  induction n9 with
  | zero => intro x1 x2 M h; cases h
  | succ n9 ih => intro x1 x2 M h; exact t_X10_end_87_b hC hr  ih x1 x2 M h
def f_X10_end_69_b (N : Nat) (kh69 : Int32 → Int32 → gq_M → Option (Int32 × gq_M)) (x1 : Int32) (x2 : Int32) (M : gq_M) : Option (Int32 × gq_M) :=
  if 3 ≤ x2 then (f_X10_end_87 N  N x1 0 M) else (gq_b (f_X10_comes N x2 M) fun v14 M15 => kh69 x1 (x2 + 1) M15)
def f_X10_end_69 (N : Nat) : Nat → Int32 → Int32 → gq_M → Option (Int32 × gq_M)
  | 0 => fun _ _ _ => none
  | n9 + 1 => f_X10_end_69_b N  (f_X10_end_69 N  n9)
set_option maxHeartbeats 1000000 in
set_option maxRecDepth 20000 in
theorem t_X10_end_69_b {N : Nat} {kh69 : Int32 → Int32 → gq_M → Option (Int32 × gq_M)} {v9 : Int32} {M9 : gq_M} (hC : gq_C p s m args meth c D A cI cZ ad mtR RX10 cX10_end 3) (hr : meth.sig.returnType = (some .int))  (hk69 : ∀ (x1 : Int32) (x2 : Int32) (M : gq_M), kh69 x1 x2 M = some (v9, M9) → gq_W p l e (gq_rm 2) s m args below meth c D A cI cZ ad mtR 3 (MQ below (gq_Qi D cI cZ ad mtR v9 M9 A) args s 0 0 A) 69 [(0, .ref (ad 0)), (1, .int x1), (2, .int x2)] [] M 0 0) : ∀ (x1 : Int32) (x2 : Int32) (M : gq_M), f_X10_end_69_b N  kh69 x1 x2 M = some (v9, M9) → gq_W p l e (gq_rm 2) s m args below meth c D A cI cZ ad mtR 3 (MQ below (gq_Qi D cI cZ ad mtR v9 M9 A) args s 0 0 A) 69 [(0, .ref (ad 0)), (1, .int x1), (2, .int x2)] [] M 0 0 := by
  intro x1 x2 M h
  unfold f_X10_end_69_b at h
  refine g_iload_n hC 2 rfl rfl dX10_end_69 ?_
  refine g_iconst (v := 3) hC (by decide) dX10_end_70 ?_
  refine g_icmp_ge (tgt := 85) hC (by decide) dX10_end_71 (fun c13 => ?_) (fun c13 => ?_)
  · replace h := gq_t c13 h
    refine g_iconst (v := 0) hC (by decide) dX10_end_85 ?_
    refine g_istore_n (L2 := [(2, .int 0), (0, .ref (ad 0)), (1, .int x1)]) hC rfl (by decide) rfl dX10_end_86 ?_
    exact g_weak [1, 2, 0] rfl (t_X10_end_87 hC hr  N x1 0 M h)
  · replace h := gq_f c13 h
    refine g_aload_n hC 0 rfl rfl dX10_end_74 ?_
    refine g_iload_n hC 2 rfl rfl dX10_end_75 ?_
    obtain ⟨v14, M15, c16, h⟩ := gq_b_i h
    refine g_Vv (as := [.int x2]) hC (t_X10_comes N _ _ _ _ c16) mV_X10_comes  wm_X10_213 obR_0 rfl rfl (Nat.le_of_ble_eq_true rfl) ⟨by decide, by decide⟩ ⟨by decide, by decide⟩ dX10_end_76 ?_
    refine g_iinc (v := (x2 + 1)) (L2 := [(2, .int (x2 + 1)), (0, .ref (ad 0)), (1, .int x1)]) hC 2 rfl (by first | rfl | decide) (by decide) rfl dX10_end_79 ?_
    refine g_goto (tgt := 69) hC (by decide) dX10_end_82 ?_
    exact g_weak [1, 2, 0] rfl (hk69 x1 (x2 + 1) M15 h)
theorem t_X10_end_69 {N : Nat} {v9 : Int32} {M9 : gq_M} (hC : gq_C p s m args meth c D A cI cZ ad mtR RX10 cX10_end 3) (hr : meth.sig.returnType = (some .int))  : ∀ (n9 : Nat) (x1 : Int32) (x2 : Int32) (M : gq_M), f_X10_end_69 N  n9 x1 x2 M = some (v9, M9) → gq_W p l e (gq_rm 2) s m args below meth c D A cI cZ ad mtR 3 (MQ below (gq_Qi D cI cZ ad mtR v9 M9 A) args s 0 0 A) 69 [(0, .ref (ad 0)), (1, .int x1), (2, .int x2)] [] M 0 0 := by
  intro n9
  induction n9 with
  | zero => intro x1 x2 M h; cases h
  | succ n9 ih => intro x1 x2 M h; exact t_X10_end_69_b hC hr  ih x1 x2 M h
def f_X10_end_25_b (N : Nat) (kh25 : Int32 → Int32 → gq_M → Option (Int32 × gq_M)) (x1 : Int32) (x2 : Int32) (M : gq_M) : Option (Int32 × gq_M) :=
  if (M 0 31) ≤ x2 then (gq_l (gq_up M 0 2 0) fun M7 => gq_l (gq_up M7 0 31 0) fun M8 => gq_l (gq_up M8 0 1 ((M8 0 1) + 1)) fun M9 => f_X10_end_69 N  N x1 0 M9) else (gq_b (f_X10_withdrawsAll N x2 M) fun v10 M11 => kh25 (x1 + v10) (x2 + 1) M11)
def f_X10_end_25 (N : Nat) : Nat → Int32 → Int32 → gq_M → Option (Int32 × gq_M)
  | 0 => fun _ _ _ => none
  | n9 + 1 => f_X10_end_25_b N  (f_X10_end_25 N  n9)
set_option maxHeartbeats 1000000 in
set_option maxRecDepth 20000 in
theorem t_X10_end_25_b {N : Nat} {kh25 : Int32 → Int32 → gq_M → Option (Int32 × gq_M)} {v9 : Int32} {M9 : gq_M} (hC : gq_C p s m args meth c D A cI cZ ad mtR RX10 cX10_end 3) (hr : meth.sig.returnType = (some .int))  (hk25 : ∀ (x1 : Int32) (x2 : Int32) (M : gq_M), kh25 x1 x2 M = some (v9, M9) → gq_W p l e (gq_rm 2) s m args below meth c D A cI cZ ad mtR 3 (MQ below (gq_Qi D cI cZ ad mtR v9 M9 A) args s 0 0 A) 25 [(0, .ref (ad 0)), (1, .int x1), (2, .int x2)] [] M 0 0) : ∀ (x1 : Int32) (x2 : Int32) (M : gq_M), f_X10_end_25_b N  kh25 x1 x2 M = some (v9, M9) → gq_W p l e (gq_rm 2) s m args below meth c D A cI cZ ad mtR 3 (MQ below (gq_Qi D cI cZ ad mtR v9 M9 A) args s 0 0 A) 25 [(0, .ref (ad 0)), (1, .int x1), (2, .int x2)] [] M 0 0 := by
  intro x1 x2 M h
  unfold f_X10_end_25_b at h
  refine g_iload_n hC 2 rfl rfl dX10_end_25 ?_
  refine g_aload_n hC 0 rfl rfl dX10_end_26 ?_
  refine g_getI hC fF_X10_192 lkR_0_31 dX10_end_27 ?_
  refine g_icmp_ge (tgt := 47) hC (by decide) dX10_end_30 (fun c6 => ?_) (fun c6 => ?_)
  · replace h := gq_t c6 h
    refine g_aload_n hC 0 rfl rfl dX10_end_47 ?_
    refine g_iconst (v := 0) hC (by decide) dX10_end_48 ?_
    refine g_putZ hC fG_X10_205 lkR_0_2 gq_bit0 dX10_end_49 ?_
    refine g_topM (fun M7 hM7 => ?_)
    replace h := gq_l_i hM7 h
    refine g_aload_n hC 0 rfl rfl dX10_end_52 ?_
    refine g_iconst (v := 0) hC (by decide) dX10_end_53 ?_
    refine g_putI hC fG_X10_192 lkR_0_31 dX10_end_54 ?_
    refine g_topM (fun M8 hM8 => ?_)
    replace h := gq_l_i hM8 h
    refine g_aload_n hC 0 rfl rfl dX10_end_57 ?_
    refine g_dup hC rfl dX10_end_58 ?_
    refine g_getI hC fF_X10_221 lkR_0_1 dX10_end_59 ?_
    refine g_iconst (v := 1) hC (by decide) dX10_end_62 ?_
    refine g_iadd hC dX10_end_63 ?_
    refine g_putI hC fG_X10_221 lkR_0_1 dX10_end_64 ?_
    refine g_topM (fun M9 hM9 => ?_)
    replace h := gq_l_i hM9 h
    refine g_iconst (v := 0) hC (by decide) dX10_end_67 ?_
    refine g_istore_n (L2 := [(2, .int 0), (0, .ref (ad 0)), (1, .int x1)]) hC rfl (by decide) rfl dX10_end_68 ?_
    exact g_weak [1, 2, 0] rfl (t_X10_end_69 hC hr  N x1 0 M9 h)
  · replace h := gq_f c6 h
    refine g_iload_n hC 1 rfl rfl dX10_end_33 ?_
    refine g_aload_n hC 0 rfl rfl dX10_end_34 ?_
    refine g_iload_n hC 2 rfl rfl dX10_end_35 ?_
    obtain ⟨v10, M11, c12, h⟩ := gq_b_i h
    refine g_Vi (as := [.int x2]) hC (t_X10_withdrawsAll N _ _ _ _ c12) mV_X10_withdrawsAll  wm_X10_218 obR_0 rfl rfl (Nat.le_of_ble_eq_true rfl) ⟨by decide, by decide⟩ ⟨by decide, by decide⟩ dX10_end_36 ?_
    refine g_iadd hC dX10_end_39 ?_
    refine g_istore_n (L2 := [(1, .int (x1 + v10)), (0, .ref (ad 0)), (2, .int x2)]) hC rfl (by decide) rfl dX10_end_40 ?_
    refine g_iinc (v := (x2 + 1)) (L2 := [(2, .int (x2 + 1)), (1, .int (x1 + v10)), (0, .ref (ad 0))]) hC 2 rfl (by first | rfl | decide) (by decide) rfl dX10_end_41 ?_
    refine g_goto (tgt := 25) hC (by decide) dX10_end_44 ?_
    exact g_weak [2, 1, 0] rfl (hk25 (x1 + v10) (x2 + 1) M11 h)
theorem t_X10_end_25 {N : Nat} {v9 : Int32} {M9 : gq_M} (hC : gq_C p s m args meth c D A cI cZ ad mtR RX10 cX10_end 3) (hr : meth.sig.returnType = (some .int))  : ∀ (n9 : Nat) (x1 : Int32) (x2 : Int32) (M : gq_M), f_X10_end_25 N  n9 x1 x2 M = some (v9, M9) → gq_W p l e (gq_rm 2) s m args below meth c D A cI cZ ad mtR 3 (MQ below (gq_Qi D cI cZ ad mtR v9 M9 A) args s 0 0 A) 25 [(0, .ref (ad 0)), (1, .int x1), (2, .int x2)] [] M 0 0 := by
  intro n9
  induction n9 with
  | zero => intro x1 x2 M h; cases h
  | succ n9 ih => intro x1 x2 M h; exact t_X10_end_25_b hC hr  ih x1 x2 M h
def f_X10_end_13 (N : Nat) (s1 : Int32) (M : gq_M) : Option (Int32 × gq_M) :=
  gq_b (f_X10_fails N s1 M) fun v2 M3 => if v2 = 0 then (f_X10_end_25 N  N 0 0 M3) else (some (0, M3))
set_option maxHeartbeats 1000000 in
set_option maxRecDepth 20000 in
theorem t_X10_end_13 {N : Nat} {v9 : Int32} {M9 : gq_M} (hC : gq_C p s m args meth c D A cI cZ ad mtR RX10 cX10_end 3) (hr : meth.sig.returnType = (some .int))   : ∀ (s1 : Int32) (M : gq_M), f_X10_end_13 N  s1 M = some (v9, M9) → gq_W p l e (gq_rm 2) s m args below meth c D A cI cZ ad mtR 3 (MQ below (gq_Qi D cI cZ ad mtR v9 M9 A) args s 0 0 A) 13 [(0, .ref (ad 0))] [.int s1, .ref (ad 0)] M 0 0 := by
  intro s1 M h
  unfold f_X10_end_13 at h
  obtain ⟨v2, M3, c4, h⟩ := gq_b_i h
  refine g_Vi (as := [.int s1]) hC (t_X10_fails N _ _ _ _ c4) mV_X10_fails  wm_X10_178 obR_0 rfl rfl (Nat.le_of_ble_eq_true rfl) ⟨by decide, by decide⟩ ⟨by decide, by decide⟩ dX10_end_13 ?_
  refine g_if_eq (tgt := 21) hC (by decide) dX10_end_16 (fun c5 => ?_) (fun c5 => ?_)
  · replace h := gq_t c5 h
    refine g_iconst (v := 0) hC (by decide) dX10_end_21 ?_
    refine g_istore_n (L2 := [(1, .int 0), (0, .ref (ad 0))]) hC rfl (by decide) rfl dX10_end_22 ?_
    refine g_iconst (v := 0) hC (by decide) dX10_end_23 ?_
    refine g_istore_n (L2 := [(2, .int 0), (1, .int 0), (0, .ref (ad 0))]) hC rfl (by decide) rfl dX10_end_24 ?_
    exact g_weak [2, 1, 0] rfl (t_X10_end_25 hC hr  N 0 0 M3 h)
  · replace h := gq_f c5 h
    refine g_iconst (v := 0) hC (by decide) dX10_end_19 ?_
    exact g_irets hC hr h dX10_end_20
def f_X10_end (N : Nat) (M : gq_M) : Option (Int32 × gq_M) :=
  if (M 0 2) = 0 then (f_X10_end_13 N  1 M) else (f_X10_end_13 N  0 M)
set_option maxHeartbeats 1000000 in
set_option maxRecDepth 20000 in
theorem t_X10_end {l : Launch} {D : va_G} {cI cZ : ClassId} {ad : Nat → Nat} (N : Nat) (M : gq_M) (v9 : Int32) (M9 : gq_M) (h : f_X10_end N  M = some (v9, M9)) : gq_Ci l D cI cZ ad mtR yX10_end cX10_end 3 (some .int) 2 [.ref (ad 0)] M v9 M9 := by
  refine gq_introI (own := RX10) (by decide) rfl (Nat.le_of_ble_eq_true rfl) ?_
  intro p e s m below meth c hC hr
  refine g_cast (L2 := [(0, .ref (ad 0))]) ?_ rfl rfl rfl rfl
  unfold f_X10_end at h
  refine g_aload_n hC 0 rfl rfl dX10_end_0 ?_
  refine g_aload_n hC 0 rfl rfl dX10_end_1 ?_
  refine g_getI hC fF_X10_205 lkR_0_2 dX10_end_2 ?_
  refine g_if_eq (tgt := 12) hC (by decide) dX10_end_5 (fun c1 => ?_) (fun c1 => ?_)
  · replace h := gq_t c1 h
    refine g_iconst (v := 1) hC (by decide) dX10_end_12 ?_
    exact g_weak [0] rfl (t_X10_end_13 hC hr  1 M h)
  · replace h := gq_f c1 h
    refine g_iconst (v := 0) hC (by decide) dX10_end_8 ?_
    refine g_goto (tgt := 13) hC (by decide) dX10_end_9 ?_
    exact g_weak [0] rfl (t_X10_end_13 hC hr  0 M h)
def f_X10_press_93 (N : Nat) (x1 : Int32) (x2 : Int32) (s1 : Int32) (M : gq_M) : Option (Int32 × gq_M) :=
  gq_b (f_X10_fails N s1 M) fun v24 M25 => if v24 = 0 then (gq_g (gq_in ((8 * x2) + x1) 24) (gq_l (gq_up M25 40 (((8 * x2) + x1) : Int32).toNatClampNeg (M25 0 0)) fun M29 => gq_g (gq_in x1 8) (gq_l (M29 10 x1.toNatClampNeg) fun v31 => gq_g (gq_in ((8 * x2) + x1) 24) (gq_l (gq_up M29 41 (((8 * x2) + x1) : Int32).toNatClampNeg ((M29 0 0) + v31)) fun M33 => gq_g (gq_in x2 3) (gq_l (M33 37 x2.toNatClampNeg) fun v35 => gq_g (gq_in ((8 * x2) + x1) 24) (gq_l (gq_up M33 42 (((8 * x2) + x1) : Int32).toNatClampNeg v35) fun M37 => gq_g (gq_in x2 3) (gq_l (M37 37 x2.toNatClampNeg) fun v39 => some (v39, M37)))))))) else (some (0, M25))
set_option maxHeartbeats 1000000 in
set_option maxRecDepth 20000 in
theorem t_X10_press_93 {N : Nat} {v9 : Int32} {M9 : gq_M} (hC : gq_C p s m args meth c D A cI cZ ad mtR RX10 cX10_press 6) (hr : meth.sig.returnType = (some .int))   : ∀ (x1 : Int32) (x2 : Int32) (s1 : Int32) (M : gq_M), f_X10_press_93 N  x1 x2 s1 M = some (v9, M9) → gq_W p l e (gq_rm 2) s m args below meth c D A cI cZ ad mtR 6 (MQ below (gq_Qi D cI cZ ad mtR v9 M9 A) args s 0 0 A) 93 [(0, .ref (ad 0)), (1, .int x1), (2, .int x2)] [.int s1, .ref (ad 0)] M 0 0 := by
  intro x1 x2 s1 M h
  unfold f_X10_press_93 at h
  obtain ⟨v24, M25, c26, h⟩ := gq_b_i h
  refine g_Vi (as := [.int s1]) hC (t_X10_fails N _ _ _ _ c26) mV_X10_fails  wm_X10_178 obR_0 rfl rfl (Nat.le_of_ble_eq_true rfl) ⟨by decide, by decide⟩ ⟨by decide, by decide⟩ dX10_press_93 ?_
  refine g_if_eq (tgt := 101) hC (by decide) dX10_press_96 (fun c27 => ?_) (fun c27 => ?_)
  · replace h := gq_t c27 h
    refine g_bipush (v := 8) hC (by decide) dX10_press_101 ?_
    refine g_iload_n hC 2 rfl rfl dX10_press_103 ?_
    refine g_imul hC dX10_press_104 ?_
    refine g_iload_n hC 1 rfl rfl dX10_press_105 ?_
    refine g_iadd hC dX10_press_106 ?_
    refine g_istore (L2 := [(5, .int ((8 * x2) + x1)), (0, .ref (ad 0)), (1, .int x1), (2, .int x2)]) hC (by decide) rfl dX10_press_107 ?_
    refine g_aload_n hC 1 rfl rfl dX10_press_109 ?_
    refine g_getR hC fF_X10_132 lkR_0_45 dX10_press_110 ?_
    refine g_iload hC 0 rfl dX10_press_113 ?_
    refine g_aload_n hC 1 rfl rfl dX10_press_115 ?_
    refine g_getI hC fF_X10_224 lkR_0_0 dX10_press_116 ?_
    obtain ⟨g28, h⟩ := gq_g_i h
    refine g_iast hC arR_40 (gq_in_i g28) dX10_press_119 ?_
    refine g_topM (fun M29 hM29 => ?_)
    replace h := gq_l_i hM29 h
    refine g_aload_n hC 1 rfl rfl dX10_press_120 ?_
    refine g_getR hC fF_X10_135 lkR_0_46 dX10_press_121 ?_
    refine g_iload hC 0 rfl dX10_press_124 ?_
    refine g_aload_n hC 1 rfl rfl dX10_press_126 ?_
    refine g_getI hC fF_X10_224 lkR_0_0 dX10_press_127 ?_
    refine g_aload_n hC 1 rfl rfl dX10_press_130 ?_
    refine g_getR hC fF_X10_42 lkR_0_13 dX10_press_131 ?_
    refine g_iload_n hC 2 rfl rfl dX10_press_134 ?_
    obtain ⟨g30, h⟩ := gq_g_i h
    refine g_iald hC arR_10 (gq_in_i g30) dX10_press_135 ?_
    refine g_topi (fun v31 hv31 => ?_)
    replace h := gq_l_i hv31 h
    refine g_iadd hC dX10_press_136 ?_
    obtain ⟨g32, h⟩ := gq_g_i h
    refine g_iast hC arR_41 (gq_in_i g32) dX10_press_137 ?_
    refine g_topM (fun M33 hM33 => ?_)
    replace h := gq_l_i hM33 h
    refine g_aload_n hC 1 rfl rfl dX10_press_138 ?_
    refine g_getR hC fF_X10_138 lkR_0_47 dX10_press_139 ?_
    refine g_iload hC 0 rfl dX10_press_142 ?_
    refine g_aload_n hC 1 rfl rfl dX10_press_144 ?_
    refine g_getR hC fF_X10_123 lkR_0_42 dX10_press_145 ?_
    refine g_iload_n hC 3 rfl rfl dX10_press_148 ?_
    obtain ⟨g34, h⟩ := gq_g_i h
    refine g_iald hC arR_37 (gq_in_i g34) dX10_press_149 ?_
    refine g_topi (fun v35 hv35 => ?_)
    replace h := gq_l_i hv35 h
    obtain ⟨g36, h⟩ := gq_g_i h
    refine g_iast hC arR_42 (gq_in_i g36) dX10_press_150 ?_
    refine g_topM (fun M37 hM37 => ?_)
    replace h := gq_l_i hM37 h
    refine g_aload_n hC 1 rfl rfl dX10_press_151 ?_
    refine g_getR hC fF_X10_123 lkR_0_42 dX10_press_152 ?_
    refine g_iload_n hC 3 rfl rfl dX10_press_155 ?_
    obtain ⟨g38, h⟩ := gq_g_i h
    refine g_iald hC arR_37 (gq_in_i g38) dX10_press_156 ?_
    refine g_topi (fun v39 hv39 => ?_)
    replace h := gq_l_i hv39 h
    exact g_irets hC hr h dX10_press_157
  · replace h := gq_f c27 h
    refine g_iconst (v := 0) hC (by decide) dX10_press_99 ?_
    exact g_irets hC hr h dX10_press_100
def f_X10_press_72 (N : Nat) (x1 : Int32) (x2 : Int32) (x3 : Int32) (s0 : Int32) (M : gq_M) : Option (Int32 × gq_M) :=
  if x3 = 0 then (f_X10_press_93 N  x1 x2 1 M) else (if s0 = 0 then (f_X10_press_93 N  x1 x2 2 M) else (f_X10_press_93 N  x1 x2 0 M))
set_option maxHeartbeats 1000000 in
set_option maxRecDepth 20000 in
theorem t_X10_press_72 {N : Nat} {v9 : Int32} {M9 : gq_M} (hC : gq_C p s m args meth c D A cI cZ ad mtR RX10 cX10_press 6) (hr : meth.sig.returnType = (some .int))   : ∀ (x1 : Int32) (x2 : Int32) (x3 : Int32) (s0 : Int32) (M : gq_M), f_X10_press_72 N  x1 x2 x3 s0 M = some (v9, M9) → gq_W p l e (gq_rm 2) s m args below meth c D A cI cZ ad mtR 6 (MQ below (gq_Qi D cI cZ ad mtR v9 M9 A) args s 0 0 A) 72 [(0, .ref (ad 0)), (1, .int x1), (2, .int x2), (3, .int x3)] [.int s0] M 0 0 := by
  intro x1 x2 x3 s0 M h
  unfold f_X10_press_72 at h
  refine g_istore (L2 := [(4, .int s0), (0, .ref (ad 0)), (1, .int x1), (2, .int x2), (3, .int x3)]) hC (by decide) rfl dX10_press_72 ?_
  refine g_aload_n hC 1 rfl rfl dX10_press_74 ?_
  refine g_iload_n hC 4 rfl rfl dX10_press_75 ?_
  refine g_if_ne (tgt := 83) hC (by decide) dX10_press_76 (fun c22 => ?_) (fun c22 => ?_)
  · replace h := gq_f c22 h
    refine g_iload hC 0 rfl dX10_press_83 ?_
    refine g_if_eq (tgt := 92) hC (by decide) dX10_press_85 (fun c23 => ?_) (fun c23 => ?_)
    · replace h := gq_t c23 h
      refine g_iconst (v := 2) hC (by decide) dX10_press_92 ?_
      exact g_weak [1, 2, 3] rfl (t_X10_press_93 hC hr  x1 x2 2 M h)
    · replace h := gq_f c23 h
      refine g_iconst (v := 0) hC (by decide) dX10_press_88 ?_
      refine g_goto (tgt := 93) hC (by decide) dX10_press_89 ?_
      exact g_weak [1, 2, 3] rfl (t_X10_press_93 hC hr  x1 x2 0 M h)
  · replace h := gq_t c22 h
    refine g_iconst (v := 1) hC (by decide) dX10_press_79 ?_
    refine g_goto (tgt := 93) hC (by decide) dX10_press_80 ?_
    exact g_weak [1, 2, 3] rfl (t_X10_press_93 hC hr  x1 x2 1 M h)
def f_X10_press_71 (N : Nat) (x1 : Int32) (x2 : Int32) (x3 : Int32) (M : gq_M) : Option (Int32 × gq_M) :=
  f_X10_press_72 N  x1 x2 x3 0 M
set_option maxHeartbeats 1000000 in
set_option maxRecDepth 20000 in
theorem t_X10_press_71 {N : Nat} {v9 : Int32} {M9 : gq_M} (hC : gq_C p s m args meth c D A cI cZ ad mtR RX10 cX10_press 6) (hr : meth.sig.returnType = (some .int))   : ∀ (x1 : Int32) (x2 : Int32) (x3 : Int32) (M : gq_M), f_X10_press_71 N  x1 x2 x3 M = some (v9, M9) → gq_W p l e (gq_rm 2) s m args below meth c D A cI cZ ad mtR 6 (MQ below (gq_Qi D cI cZ ad mtR v9 M9 A) args s 0 0 A) 71 [(0, .ref (ad 0)), (1, .int x1), (2, .int x2), (3, .int x3)] [] M 0 0 := by
  intro x1 x2 x3 M h
  unfold f_X10_press_71 at h
  refine g_iconst (v := 0) hC (by decide) dX10_press_71 ?_
  exact g_weak [0, 1, 2, 3] rfl (t_X10_press_72 hC hr  x1 x2 x3 0 M h)
def f_X10_press_19 (N : Nat) (x1 : Int32) (x2 : Int32) (s0 : Int32) (M : gq_M) : Option (Int32 × gq_M) :=
  if s0 = 0 then (f_X10_press_71 N  x1 x2 s0 M) else (gq_g (gq_in x2 3) (gq_l (M 35 x2.toNatClampNeg) fun v11 => if v11 = 1 then (gq_g (gq_in x2 3) (gq_l (M 34 x2.toNatClampNeg) fun v14 => if v14 = 0 then (f_X10_press_71 N  x1 x2 s0 M) else (gq_g (gq_in x1 8) (gq_l (M 12 x1.toNatClampNeg) fun v17 => if v17 = 0 then (f_X10_press_71 N  x1 x2 s0 M) else (gq_g (gq_in ((8 * x2) + x1) 24) (gq_l (M 40 (((8 * x2) + x1) : Int32).toNatClampNeg) fun v20 => if v20 = (-1) then (f_X10_press_72 N  x1 x2 s0 1 M) else (f_X10_press_71 N  x1 x2 s0 M))))))) else (f_X10_press_71 N  x1 x2 s0 M)))
set_option maxHeartbeats 1000000 in
set_option maxRecDepth 20000 in
theorem t_X10_press_19 {N : Nat} {v9 : Int32} {M9 : gq_M} (hC : gq_C p s m args meth c D A cI cZ ad mtR RX10 cX10_press 6) (hr : meth.sig.returnType = (some .int))   : ∀ (x1 : Int32) (x2 : Int32) (s0 : Int32) (M : gq_M), f_X10_press_19 N  x1 x2 s0 M = some (v9, M9) → gq_W p l e (gq_rm 2) s m args below meth c D A cI cZ ad mtR 6 (MQ below (gq_Qi D cI cZ ad mtR v9 M9 A) args s 0 0 A) 19 [(0, .ref (ad 0)), (1, .int x1), (2, .int x2)] [.int s0] M 0 0 := by
  intro x1 x2 s0 M h
  unfold f_X10_press_19 at h
  refine g_istore_n (L2 := [(3, .int s0), (0, .ref (ad 0)), (1, .int x1), (2, .int x2)]) hC rfl (by decide) rfl dX10_press_19 ?_
  refine g_iload_n hC 0 rfl rfl dX10_press_20 ?_
  refine g_if_eq (tgt := 71) hC (by decide) dX10_press_21 (fun c9 => ?_) (fun c9 => ?_)
  · replace h := gq_t c9 h
    exact g_weak [1, 2, 3, 0] rfl (t_X10_press_71 hC hr  x1 x2 s0 M h)
  · replace h := gq_f c9 h
    refine g_aload_n hC 1 rfl rfl dX10_press_24 ?_
    refine g_getR hC fF_X10_117 lkR_0_40 dX10_press_25 ?_
    refine g_iload_n hC 3 rfl rfl dX10_press_28 ?_
    obtain ⟨g10, h⟩ := gq_g_i h
    refine g_iald hC arR_35 (gq_in_i g10) dX10_press_29 ?_
    refine g_topi (fun v11 hv11 => ?_)
    replace h := gq_l_i hv11 h
    refine g_iconst (v := 1) hC (by decide) dX10_press_30 ?_
    refine g_icmp_ne (tgt := 71) hC (by decide) dX10_press_31 (fun c12 => ?_) (fun c12 => ?_)
    · replace h := gq_f c12 h
      exact g_weak [1, 2, 3, 0] rfl (t_X10_press_71 hC hr  x1 x2 s0 M h)
    · replace h := gq_t c12 h
      refine g_aload_n hC 1 rfl rfl dX10_press_34 ?_
      refine g_getR hC fF_X10_114 lkR_0_39 dX10_press_35 ?_
      refine g_iload_n hC 3 rfl rfl dX10_press_38 ?_
      obtain ⟨g13, h⟩ := gq_g_i h
      refine g_zald hC arR_34 (gq_in_i g13) dX10_press_39 ?_
      refine g_topi (fun v14 hv14 => ?_)
      replace h := gq_l_i hv14 h
      refine g_if_eq (tgt := 71) hC (by decide) dX10_press_40 (fun c15 => ?_) (fun c15 => ?_)
      · replace h := gq_t c15 h
        exact g_weak [1, 2, 3, 0] rfl (t_X10_press_71 hC hr  x1 x2 s0 M h)
      · replace h := gq_f c15 h
        refine g_aload_n hC 1 rfl rfl dX10_press_43 ?_
        refine g_getR hC fF_X10_48 lkR_0_15 dX10_press_44 ?_
        refine g_iload_n hC 2 rfl rfl dX10_press_47 ?_
        obtain ⟨g16, h⟩ := gq_g_i h
        refine g_zald hC arR_12 (gq_in_i g16) dX10_press_48 ?_
        refine g_topi (fun v17 hv17 => ?_)
        replace h := gq_l_i hv17 h
        refine g_if_eq (tgt := 71) hC (by decide) dX10_press_49 (fun c18 => ?_) (fun c18 => ?_)
        · replace h := gq_t c18 h
          exact g_weak [1, 2, 3, 0] rfl (t_X10_press_71 hC hr  x1 x2 s0 M h)
        · replace h := gq_f c18 h
          refine g_aload_n hC 1 rfl rfl dX10_press_52 ?_
          refine g_getR hC fF_X10_132 lkR_0_45 dX10_press_53 ?_
          refine g_bipush (v := 8) hC (by decide) dX10_press_56 ?_
          refine g_iload_n hC 3 rfl rfl dX10_press_58 ?_
          refine g_imul hC dX10_press_59 ?_
          refine g_iload_n hC 2 rfl rfl dX10_press_60 ?_
          refine g_iadd hC dX10_press_61 ?_
          obtain ⟨g19, h⟩ := gq_g_i h
          refine g_iald hC arR_40 (gq_in_i g19) dX10_press_62 ?_
          refine g_topi (fun v20 hv20 => ?_)
          replace h := gq_l_i hv20 h
          refine g_iconst (v := (-1)) hC (by decide) dX10_press_63 ?_
          refine g_icmp_ne (tgt := 71) hC (by decide) dX10_press_64 (fun c21 => ?_) (fun c21 => ?_)
          · replace h := gq_f c21 h
            exact g_weak [1, 2, 3, 0] rfl (t_X10_press_71 hC hr  x1 x2 s0 M h)
          · replace h := gq_t c21 h
            refine g_iconst (v := 1) hC (by decide) dX10_press_67 ?_
            refine g_goto (tgt := 72) hC (by decide) dX10_press_68 ?_
            exact g_weak [1, 2, 3, 0] rfl (t_X10_press_72 hC hr  x1 x2 s0 1 M h)
def f_X10_press_18 (N : Nat) (x1 : Int32) (x2 : Int32) (M : gq_M) : Option (Int32 × gq_M) :=
  f_X10_press_19 N  x1 x2 0 M
set_option maxHeartbeats 1000000 in
set_option maxRecDepth 20000 in
theorem t_X10_press_18 {N : Nat} {v9 : Int32} {M9 : gq_M} (hC : gq_C p s m args meth c D A cI cZ ad mtR RX10 cX10_press 6) (hr : meth.sig.returnType = (some .int))   : ∀ (x1 : Int32) (x2 : Int32) (M : gq_M), f_X10_press_18 N  x1 x2 M = some (v9, M9) → gq_W p l e (gq_rm 2) s m args below meth c D A cI cZ ad mtR 6 (MQ below (gq_Qi D cI cZ ad mtR v9 M9 A) args s 0 0 A) 18 [(0, .ref (ad 0)), (1, .int x1), (2, .int x2)] [] M 0 0 := by
  intro x1 x2 M h
  unfold f_X10_press_18 at h
  refine g_iconst (v := 0) hC (by decide) dX10_press_18 ?_
  exact g_weak [0, 1, 2] rfl (t_X10_press_19 hC hr  x1 x2 0 M h)
def f_X10_press (N : Nat) (a1 : Int32) (a2 : Int32) (M : gq_M) : Option (Int32 × gq_M) :=
  gq_b (f_X10_isEight N a1 M) fun v1 M2 => if v1 = 0 then (f_X10_press_18 N  a1 a2 M2) else (gq_b (f_X10_isHall N a2 M2) fun v5 M6 => if v5 = 0 then (f_X10_press_18 N  a1 a2 M6) else (f_X10_press_19 N  a1 a2 1 M6))
set_option maxHeartbeats 1000000 in
set_option maxRecDepth 20000 in
theorem t_X10_press {l : Launch} {D : va_G} {cI cZ : ClassId} {ad : Nat → Nat} (N : Nat) (a1 : Int32) (a2 : Int32) (M : gq_M) (v9 : Int32) (M9 : gq_M) (h : f_X10_press N a1 a2 M = some (v9, M9)) : gq_Ci l D cI cZ ad mtR yX10_press cX10_press 6 (some .int) 2 [.ref (ad 0), .int a1, .int a2] M v9 M9 := by
  refine gq_introI (own := RX10) (by decide) rfl (Nat.le_of_ble_eq_true rfl) ?_
  intro p e s m below meth c hC hr
  refine g_cast (L2 := [(0, .ref (ad 0)), (1, .int a1), (2, .int a2)]) ?_ rfl rfl rfl rfl
  unfold f_X10_press at h
  refine g_iload_n hC 1 rfl rfl dX10_press_0 ?_
  obtain ⟨v1, M2, c3, h⟩ := gq_b_i h
  refine g_Si (as := [.int a1]) hC (t_X10_isEight N _ _ _ _ c3) mS_X10_isEight wm_X10_170 rfl rfl (Nat.le_of_ble_eq_true rfl) ⟨by decide, by decide⟩ ⟨by decide, by decide⟩ dX10_press_1 ?_
  refine g_if_eq (tgt := 18) hC (by decide) dX10_press_4 (fun c4 => ?_) (fun c4 => ?_)
  · replace h := gq_t c4 h
    exact g_weak [0, 1, 2] rfl (t_X10_press_18 hC hr  a1 a2 M2 h)
  · replace h := gq_f c4 h
    refine g_iload_n hC 2 rfl rfl dX10_press_7 ?_
    obtain ⟨v5, M6, c7, h⟩ := gq_b_i h
    refine g_Si (as := [.int a2]) hC (t_X10_isHall N _ _ _ _ c7) mS_X10_isHall wm_X10_181 rfl rfl (Nat.le_of_ble_eq_true rfl) ⟨by decide, by decide⟩ ⟨by decide, by decide⟩ dX10_press_8 ?_
    refine g_if_eq (tgt := 18) hC (by decide) dX10_press_11 (fun c8 => ?_) (fun c8 => ?_)
    · replace h := gq_t c8 h
      exact g_weak [0, 1, 2] rfl (t_X10_press_18 hC hr  a1 a2 M6 h)
    · replace h := gq_f c8 h
      refine g_iconst (v := 1) hC (by decide) dX10_press_14 ?_
      refine g_goto (tgt := 19) hC (by decide) dX10_press_15 ?_
      exact g_weak [0, 1, 2] rfl (t_X10_press_19 hC hr  a1 a2 1 M6 h)
def f_X10_firstOf_38 (N : Nat) (kh9 : Int32 → Int32 → Int32 → gq_M → Option (Int32 × gq_M)) (x1 : Int32) (x3 : Int32) (s0 : Int32) (M : gq_M) : Option (Int32 × gq_M) :=
  kh9 x1 s0 (x3 + (-1)) M
set_option maxHeartbeats 1000000 in
set_option maxRecDepth 20000 in
theorem t_X10_firstOf_38 {N : Nat} {kh9 : Int32 → Int32 → Int32 → gq_M → Option (Int32 × gq_M)} {v9 : Int32} {M9 : gq_M} (hC : gq_C p s m args meth c D A cI cZ ad mtR RX10 cX10_firstOf 4) (hr : meth.sig.returnType = (some .int)) (hk9 : ∀ (x1 : Int32) (x2 : Int32) (x3 : Int32) (M : gq_M), kh9 x1 x2 x3 M = some (v9, M9) → gq_W p l e (gq_rm 0) s m args below meth c D A cI cZ ad mtR 4 (MQ below (gq_Qi D cI cZ ad mtR v9 M9 A) args s 0 0 A) 9 [(0, .ref (ad 0)), (1, .int x1), (2, .int x2), (3, .int x3)] [] M 0 0)  : ∀ (x1 : Int32) (x3 : Int32) (s0 : Int32) (M : gq_M), f_X10_firstOf_38 N kh9 x1 x3 s0 M = some (v9, M9) → gq_W p l e (gq_rm 0) s m args below meth c D A cI cZ ad mtR 4 (MQ below (gq_Qi D cI cZ ad mtR v9 M9 A) args s 0 0 A) 38 [(0, .ref (ad 0)), (1, .int x1), (3, .int x3)] [.int s0] M 0 0 := by
  intro x1 x3 s0 M h
  unfold f_X10_firstOf_38 at h
  refine g_istore_n (L2 := [(2, .int s0), (0, .ref (ad 0)), (1, .int x1), (3, .int x3)]) hC rfl (by decide) rfl dX10_firstOf_38 ?_
  refine g_iinc (v := (x3 + (-1))) (L2 := [(3, .int (x3 + (-1))), (2, .int s0), (0, .ref (ad 0)), (1, .int x1)]) hC 3 rfl (by first | rfl | decide) (by decide) rfl dX10_firstOf_39 ?_
  refine g_goto (tgt := 9) hC (by decide) dX10_firstOf_42 ?_
  exact g_weak [2, 3, 1, 0] rfl (hk9 x1 s0 (x3 + (-1)) M h)
def f_X10_firstOf_37 (N : Nat) (kh9 : Int32 → Int32 → Int32 → gq_M → Option (Int32 × gq_M)) (x1 : Int32) (x2 : Int32) (x3 : Int32) (M : gq_M) : Option (Int32 × gq_M) :=
  f_X10_firstOf_38 N kh9 x1 x3 x2 M
set_option maxHeartbeats 1000000 in
set_option maxRecDepth 20000 in
theorem t_X10_firstOf_37 {N : Nat} {kh9 : Int32 → Int32 → Int32 → gq_M → Option (Int32 × gq_M)} {v9 : Int32} {M9 : gq_M} (hC : gq_C p s m args meth c D A cI cZ ad mtR RX10 cX10_firstOf 4) (hr : meth.sig.returnType = (some .int)) (hk9 : ∀ (x1 : Int32) (x2 : Int32) (x3 : Int32) (M : gq_M), kh9 x1 x2 x3 M = some (v9, M9) → gq_W p l e (gq_rm 0) s m args below meth c D A cI cZ ad mtR 4 (MQ below (gq_Qi D cI cZ ad mtR v9 M9 A) args s 0 0 A) 9 [(0, .ref (ad 0)), (1, .int x1), (2, .int x2), (3, .int x3)] [] M 0 0)  : ∀ (x1 : Int32) (x2 : Int32) (x3 : Int32) (M : gq_M), f_X10_firstOf_37 N kh9 x1 x2 x3 M = some (v9, M9) → gq_W p l e (gq_rm 0) s m args below meth c D A cI cZ ad mtR 4 (MQ below (gq_Qi D cI cZ ad mtR v9 M9 A) args s 0 0 A) 37 [(0, .ref (ad 0)), (1, .int x1), (2, .int x2), (3, .int x3)] [] M 0 0 := by
  intro x1 x2 x3 M h
  unfold f_X10_firstOf_37 at h
  refine g_iload_n hC 2 rfl rfl dX10_firstOf_37 ?_
  exact g_weak [0, 1, 3] rfl (t_X10_firstOf_38 hC hr hk9 x1 x3 x2 M h)
def f_X10_firstOf_9_b (N : Nat) (kh9 : Int32 → Int32 → Int32 → gq_M → Option (Int32 × gq_M)) (x1 : Int32) (x2 : Int32) (x3 : Int32) (M : gq_M) : Option (Int32 × gq_M) :=
  if x3 < 0 then (some (x2, M)) else (gq_g (gq_in x3 150) (gq_l (M 26 x3.toNatClampNeg) fun v3 => if v3 = x1 then (gq_g (gq_in x3 150) (gq_l (M 19 x3.toNatClampNeg) fun v6 => if v6 = 2 then (f_X10_firstOf_38 N kh9 x1 x3 x3 M) else (f_X10_firstOf_37 N kh9 x1 x2 x3 M))) else (f_X10_firstOf_37 N kh9 x1 x2 x3 M)))
def f_X10_firstOf_9 (N : Nat) : Nat → Int32 → Int32 → Int32 → gq_M → Option (Int32 × gq_M)
  | 0 => fun _ _ _ _ => none
  | n9 + 1 => f_X10_firstOf_9_b N  (f_X10_firstOf_9 N  n9)
set_option maxHeartbeats 1000000 in
set_option maxRecDepth 20000 in
theorem t_X10_firstOf_9_b {N : Nat} {kh9 : Int32 → Int32 → Int32 → gq_M → Option (Int32 × gq_M)} {v9 : Int32} {M9 : gq_M} (hC : gq_C p s m args meth c D A cI cZ ad mtR RX10 cX10_firstOf 4) (hr : meth.sig.returnType = (some .int))  (hk9 : ∀ (x1 : Int32) (x2 : Int32) (x3 : Int32) (M : gq_M), kh9 x1 x2 x3 M = some (v9, M9) → gq_W p l e (gq_rm 0) s m args below meth c D A cI cZ ad mtR 4 (MQ below (gq_Qi D cI cZ ad mtR v9 M9 A) args s 0 0 A) 9 [(0, .ref (ad 0)), (1, .int x1), (2, .int x2), (3, .int x3)] [] M 0 0) : ∀ (x1 : Int32) (x2 : Int32) (x3 : Int32) (M : gq_M), f_X10_firstOf_9_b N  kh9 x1 x2 x3 M = some (v9, M9) → gq_W p l e (gq_rm 0) s m args below meth c D A cI cZ ad mtR 4 (MQ below (gq_Qi D cI cZ ad mtR v9 M9 A) args s 0 0 A) 9 [(0, .ref (ad 0)), (1, .int x1), (2, .int x2), (3, .int x3)] [] M 0 0 := by
  intro x1 x2 x3 M h
  unfold f_X10_firstOf_9_b at h
  refine g_iload_n hC 3 rfl rfl dX10_firstOf_9 ?_
  refine g_if_lt (tgt := 45) hC (by decide) dX10_firstOf_10 (fun c1 => ?_) (fun c1 => ?_)
  · replace h := gq_t c1 h
    refine g_iload_n hC 2 rfl rfl dX10_firstOf_45 ?_
    exact g_irets hC hr h dX10_firstOf_46
  · replace h := gq_f c1 h
    refine g_aload_n hC 0 rfl rfl dX10_firstOf_13 ?_
    refine g_getR hC fF_X10_90 lkR_0_30 dX10_firstOf_14 ?_
    refine g_iload_n hC 3 rfl rfl dX10_firstOf_17 ?_
    obtain ⟨g2, h⟩ := gq_g_i h
    refine g_iald hC arR_26 (gq_in_i g2) dX10_firstOf_18 ?_
    refine g_topi (fun v3 hv3 => ?_)
    replace h := gq_l_i hv3 h
    refine g_iload_n hC 1 rfl rfl dX10_firstOf_19 ?_
    refine g_icmp_ne (tgt := 37) hC (by decide) dX10_firstOf_20 (fun c4 => ?_) (fun c4 => ?_)
    · replace h := gq_f c4 h
      exact g_weak [0, 1, 2, 3] rfl (t_X10_firstOf_37 hC hr hk9 x1 x2 x3 M h)
    · replace h := gq_t c4 h
      refine g_aload_n hC 0 rfl rfl dX10_firstOf_23 ?_
      refine g_getR hC fF_X10_69 lkR_0_23 dX10_firstOf_24 ?_
      refine g_iload_n hC 3 rfl rfl dX10_firstOf_27 ?_
      obtain ⟨g5, h⟩ := gq_g_i h
      refine g_iald hC arR_19 (gq_in_i g5) dX10_firstOf_28 ?_
      refine g_topi (fun v6 hv6 => ?_)
      replace h := gq_l_i hv6 h
      refine g_iconst (v := 2) hC (by decide) dX10_firstOf_29 ?_
      refine g_icmp_ne (tgt := 37) hC (by decide) dX10_firstOf_30 (fun c7 => ?_) (fun c7 => ?_)
      · replace h := gq_f c7 h
        exact g_weak [0, 1, 2, 3] rfl (t_X10_firstOf_37 hC hr hk9 x1 x2 x3 M h)
      · replace h := gq_t c7 h
        refine g_iload_n hC 3 rfl rfl dX10_firstOf_33 ?_
        refine g_goto (tgt := 38) hC (by decide) dX10_firstOf_34 ?_
        exact g_weak [0, 1, 3] rfl (t_X10_firstOf_38 hC hr hk9 x1 x3 x3 M h)
theorem t_X10_firstOf_9 {N : Nat} {v9 : Int32} {M9 : gq_M} (hC : gq_C p s m args meth c D A cI cZ ad mtR RX10 cX10_firstOf 4) (hr : meth.sig.returnType = (some .int))  : ∀ (n9 : Nat) (x1 : Int32) (x2 : Int32) (x3 : Int32) (M : gq_M), f_X10_firstOf_9 N  n9 x1 x2 x3 M = some (v9, M9) → gq_W p l e (gq_rm 0) s m args below meth c D A cI cZ ad mtR 4 (MQ below (gq_Qi D cI cZ ad mtR v9 M9 A) args s 0 0 A) 9 [(0, .ref (ad 0)), (1, .int x1), (2, .int x2), (3, .int x3)] [] M 0 0 := by
  intro n9
  induction n9 with
  | zero => intro x1 x2 x3 M h; cases h
  | succ n9 ih => intro x1 x2 x3 M h; exact t_X10_firstOf_9_b hC hr  ih x1 x2 x3 M h
def f_X10_firstOf (N : Nat) (a1 : Int32) (M : gq_M) : Option (Int32 × gq_M) :=
  f_X10_firstOf_9 N  N a1 (-1) ((M 0 16) - 1) M
set_option maxHeartbeats 1000000 in
set_option maxRecDepth 20000 in
theorem t_X10_firstOf {l : Launch} {D : va_G} {cI cZ : ClassId} {ad : Nat → Nat} (N : Nat) (a1 : Int32) (M : gq_M) (v9 : Int32) (M9 : gq_M) (h : f_X10_firstOf N a1 M = some (v9, M9)) : gq_Ci l D cI cZ ad mtR yX10_firstOf cX10_firstOf 4 (some .int) 0 [.ref (ad 0), .int a1] M v9 M9 := by
  refine gq_introI (own := RX10) (by decide) rfl (Nat.le_of_ble_eq_true rfl) ?_
  intro p e s m below meth c hC hr
  refine g_cast (L2 := [(0, .ref (ad 0)), (1, .int a1)]) ?_ rfl rfl rfl rfl
  unfold f_X10_firstOf at h
  refine g_iconst (v := (-1)) hC (by decide) dX10_firstOf_0 ?_
  refine g_istore_n (L2 := [(2, .int (-1)), (0, .ref (ad 0)), (1, .int a1)]) hC rfl (by decide) rfl dX10_firstOf_1 ?_
  refine g_aload_n hC 1 rfl rfl dX10_firstOf_2 ?_
  refine g_getI hC fF_X10_167 lkR_0_16 dX10_firstOf_3 ?_
  refine g_iconst (v := 1) hC (by decide) dX10_firstOf_6 ?_
  refine g_isub hC dX10_firstOf_7 ?_
  refine g_istore_n (L2 := [(3, .int ((M 0 16) - 1)), (2, .int (-1)), (0, .ref (ad 0)), (1, .int a1)]) hC rfl (by decide) rfl dX10_firstOf_8 ?_
  exact g_weak [2, 3, 1, 0] rfl (t_X10_firstOf_9 hC hr  N a1 (-1) ((M 0 16) - 1) M h)
def f_X10_leftOf_38 (N : Nat) (kh4 : Int32 → Int32 → Int32 → gq_M → Option (Int32 × gq_M)) (x1 : Int32) (x3 : Int32) (s0 : Int32) (s1 : Int32) (M : gq_M) : Option (Int32 × gq_M) :=
  kh4 x1 (s0 + s1) (x3 + 1) M
set_option maxHeartbeats 1000000 in
set_option maxRecDepth 20000 in
theorem t_X10_leftOf_38 {N : Nat} {kh4 : Int32 → Int32 → Int32 → gq_M → Option (Int32 × gq_M)} {v9 : Int32} {M9 : gq_M} (hC : gq_C p s m args meth c D A cI cZ ad mtR RX10 cX10_leftOf 4) (hr : meth.sig.returnType = (some .int)) (hk4 : ∀ (x1 : Int32) (x2 : Int32) (x3 : Int32) (M : gq_M), kh4 x1 x2 x3 M = some (v9, M9) → gq_W p l e (gq_rm 0) s m args below meth c D A cI cZ ad mtR 4 (MQ below (gq_Qi D cI cZ ad mtR v9 M9 A) args s 0 0 A) 4 [(0, .ref (ad 0)), (1, .int x1), (2, .int x2), (3, .int x3)] [] M 0 0)  : ∀ (x1 : Int32) (x3 : Int32) (s0 : Int32) (s1 : Int32) (M : gq_M), f_X10_leftOf_38 N kh4 x1 x3 s0 s1 M = some (v9, M9) → gq_W p l e (gq_rm 0) s m args below meth c D A cI cZ ad mtR 4 (MQ below (gq_Qi D cI cZ ad mtR v9 M9 A) args s 0 0 A) 38 [(0, .ref (ad 0)), (1, .int x1), (3, .int x3)] [.int s1, .int s0] M 0 0 := by
  intro x1 x3 s0 s1 M h
  unfold f_X10_leftOf_38 at h
  refine g_iadd hC dX10_leftOf_38 ?_
  refine g_istore_n (L2 := [(2, .int (s0 + s1)), (0, .ref (ad 0)), (1, .int x1), (3, .int x3)]) hC rfl (by decide) rfl dX10_leftOf_39 ?_
  refine g_iinc (v := (x3 + 1)) (L2 := [(3, .int (x3 + 1)), (2, .int (s0 + s1)), (0, .ref (ad 0)), (1, .int x1)]) hC 3 rfl (by first | rfl | decide) (by decide) rfl dX10_leftOf_40 ?_
  refine g_goto (tgt := 4) hC (by decide) dX10_leftOf_43 ?_
  exact g_weak [2, 3, 1, 0] rfl (hk4 x1 (s0 + s1) (x3 + 1) M h)
def f_X10_leftOf_37 (N : Nat) (kh4 : Int32 → Int32 → Int32 → gq_M → Option (Int32 × gq_M)) (x1 : Int32) (x3 : Int32) (s0 : Int32) (M : gq_M) : Option (Int32 × gq_M) :=
  f_X10_leftOf_38 N kh4 x1 x3 s0 0 M
set_option maxHeartbeats 1000000 in
set_option maxRecDepth 20000 in
theorem t_X10_leftOf_37 {N : Nat} {kh4 : Int32 → Int32 → Int32 → gq_M → Option (Int32 × gq_M)} {v9 : Int32} {M9 : gq_M} (hC : gq_C p s m args meth c D A cI cZ ad mtR RX10 cX10_leftOf 4) (hr : meth.sig.returnType = (some .int)) (hk4 : ∀ (x1 : Int32) (x2 : Int32) (x3 : Int32) (M : gq_M), kh4 x1 x2 x3 M = some (v9, M9) → gq_W p l e (gq_rm 0) s m args below meth c D A cI cZ ad mtR 4 (MQ below (gq_Qi D cI cZ ad mtR v9 M9 A) args s 0 0 A) 4 [(0, .ref (ad 0)), (1, .int x1), (2, .int x2), (3, .int x3)] [] M 0 0)  : ∀ (x1 : Int32) (x3 : Int32) (s0 : Int32) (M : gq_M), f_X10_leftOf_37 N kh4 x1 x3 s0 M = some (v9, M9) → gq_W p l e (gq_rm 0) s m args below meth c D A cI cZ ad mtR 4 (MQ below (gq_Qi D cI cZ ad mtR v9 M9 A) args s 0 0 A) 37 [(0, .ref (ad 0)), (1, .int x1), (3, .int x3)] [.int s0] M 0 0 := by
  intro x1 x3 s0 M h
  unfold f_X10_leftOf_37 at h
  refine g_iconst (v := 0) hC (by decide) dX10_leftOf_37 ?_
  exact g_weak [0, 1, 2] rfl (t_X10_leftOf_38 hC hr hk4 x1 x3 s0 0 M h)
def f_X10_leftOf_4_b (N : Nat) (kh4 : Int32 → Int32 → Int32 → gq_M → Option (Int32 × gq_M)) (x1 : Int32) (x2 : Int32) (x3 : Int32) (M : gq_M) : Option (Int32 × gq_M) :=
  if (M 0 16) ≤ x3 then (some (x2, M)) else (gq_g (gq_in x3 150) (gq_l (M 26 x3.toNatClampNeg) fun v3 => if v3 = x1 then (gq_g (gq_in x3 150) (gq_l (M 19 x3.toNatClampNeg) fun v6 => if v6 = 2 then (f_X10_leftOf_38 N kh4 x1 x3 x2 1 M) else (f_X10_leftOf_37 N kh4 x1 x3 x2 M))) else (f_X10_leftOf_37 N kh4 x1 x3 x2 M)))
def f_X10_leftOf_4 (N : Nat) : Nat → Int32 → Int32 → Int32 → gq_M → Option (Int32 × gq_M)
  | 0 => fun _ _ _ _ => none
  | n9 + 1 => f_X10_leftOf_4_b N  (f_X10_leftOf_4 N  n9)
set_option maxHeartbeats 1000000 in
set_option maxRecDepth 20000 in
theorem t_X10_leftOf_4_b {N : Nat} {kh4 : Int32 → Int32 → Int32 → gq_M → Option (Int32 × gq_M)} {v9 : Int32} {M9 : gq_M} (hC : gq_C p s m args meth c D A cI cZ ad mtR RX10 cX10_leftOf 4) (hr : meth.sig.returnType = (some .int))  (hk4 : ∀ (x1 : Int32) (x2 : Int32) (x3 : Int32) (M : gq_M), kh4 x1 x2 x3 M = some (v9, M9) → gq_W p l e (gq_rm 0) s m args below meth c D A cI cZ ad mtR 4 (MQ below (gq_Qi D cI cZ ad mtR v9 M9 A) args s 0 0 A) 4 [(0, .ref (ad 0)), (1, .int x1), (2, .int x2), (3, .int x3)] [] M 0 0) : ∀ (x1 : Int32) (x2 : Int32) (x3 : Int32) (M : gq_M), f_X10_leftOf_4_b N  kh4 x1 x2 x3 M = some (v9, M9) → gq_W p l e (gq_rm 0) s m args below meth c D A cI cZ ad mtR 4 (MQ below (gq_Qi D cI cZ ad mtR v9 M9 A) args s 0 0 A) 4 [(0, .ref (ad 0)), (1, .int x1), (2, .int x2), (3, .int x3)] [] M 0 0 := by
  intro x1 x2 x3 M h
  unfold f_X10_leftOf_4_b at h
  refine g_iload_n hC 3 rfl rfl dX10_leftOf_4 ?_
  refine g_aload_n hC 0 rfl rfl dX10_leftOf_5 ?_
  refine g_getI hC fF_X10_167 lkR_0_16 dX10_leftOf_6 ?_
  refine g_icmp_ge (tgt := 46) hC (by decide) dX10_leftOf_9 (fun c1 => ?_) (fun c1 => ?_)
  · replace h := gq_t c1 h
    refine g_iload_n hC 2 rfl rfl dX10_leftOf_46 ?_
    exact g_irets hC hr h dX10_leftOf_47
  · replace h := gq_f c1 h
    refine g_iload_n hC 2 rfl rfl dX10_leftOf_12 ?_
    refine g_aload_n hC 0 rfl rfl dX10_leftOf_13 ?_
    refine g_getR hC fF_X10_90 lkR_0_30 dX10_leftOf_14 ?_
    refine g_iload_n hC 3 rfl rfl dX10_leftOf_17 ?_
    obtain ⟨g2, h⟩ := gq_g_i h
    refine g_iald hC arR_26 (gq_in_i g2) dX10_leftOf_18 ?_
    refine g_topi (fun v3 hv3 => ?_)
    replace h := gq_l_i hv3 h
    refine g_iload_n hC 1 rfl rfl dX10_leftOf_19 ?_
    refine g_icmp_ne (tgt := 37) hC (by decide) dX10_leftOf_20 (fun c4 => ?_) (fun c4 => ?_)
    · replace h := gq_f c4 h
      exact g_weak [0, 1, 3] rfl (t_X10_leftOf_37 hC hr hk4 x1 x3 x2 M h)
    · replace h := gq_t c4 h
      refine g_aload_n hC 0 rfl rfl dX10_leftOf_23 ?_
      refine g_getR hC fF_X10_69 lkR_0_23 dX10_leftOf_24 ?_
      refine g_iload_n hC 3 rfl rfl dX10_leftOf_27 ?_
      obtain ⟨g5, h⟩ := gq_g_i h
      refine g_iald hC arR_19 (gq_in_i g5) dX10_leftOf_28 ?_
      refine g_topi (fun v6 hv6 => ?_)
      replace h := gq_l_i hv6 h
      refine g_iconst (v := 2) hC (by decide) dX10_leftOf_29 ?_
      refine g_icmp_ne (tgt := 37) hC (by decide) dX10_leftOf_30 (fun c7 => ?_) (fun c7 => ?_)
      · replace h := gq_f c7 h
        exact g_weak [0, 1, 3] rfl (t_X10_leftOf_37 hC hr hk4 x1 x3 x2 M h)
      · replace h := gq_t c7 h
        refine g_iconst (v := 1) hC (by decide) dX10_leftOf_33 ?_
        refine g_goto (tgt := 38) hC (by decide) dX10_leftOf_34 ?_
        exact g_weak [0, 1, 3] rfl (t_X10_leftOf_38 hC hr hk4 x1 x3 x2 1 M h)
theorem t_X10_leftOf_4 {N : Nat} {v9 : Int32} {M9 : gq_M} (hC : gq_C p s m args meth c D A cI cZ ad mtR RX10 cX10_leftOf 4) (hr : meth.sig.returnType = (some .int))  : ∀ (n9 : Nat) (x1 : Int32) (x2 : Int32) (x3 : Int32) (M : gq_M), f_X10_leftOf_4 N  n9 x1 x2 x3 M = some (v9, M9) → gq_W p l e (gq_rm 0) s m args below meth c D A cI cZ ad mtR 4 (MQ below (gq_Qi D cI cZ ad mtR v9 M9 A) args s 0 0 A) 4 [(0, .ref (ad 0)), (1, .int x1), (2, .int x2), (3, .int x3)] [] M 0 0 := by
  intro n9
  induction n9 with
  | zero => intro x1 x2 x3 M h; cases h
  | succ n9 ih => intro x1 x2 x3 M h; exact t_X10_leftOf_4_b hC hr  ih x1 x2 x3 M h
def f_X10_leftOf (N : Nat) (a1 : Int32) (M : gq_M) : Option (Int32 × gq_M) :=
  f_X10_leftOf_4 N  N a1 0 0 M
set_option maxHeartbeats 1000000 in
set_option maxRecDepth 20000 in
theorem t_X10_leftOf {l : Launch} {D : va_G} {cI cZ : ClassId} {ad : Nat → Nat} (N : Nat) (a1 : Int32) (M : gq_M) (v9 : Int32) (M9 : gq_M) (h : f_X10_leftOf N a1 M = some (v9, M9)) : gq_Ci l D cI cZ ad mtR yX10_leftOf cX10_leftOf 4 (some .int) 0 [.ref (ad 0), .int a1] M v9 M9 := by
  refine gq_introI (own := RX10) (by decide) rfl (Nat.le_of_ble_eq_true rfl) ?_
  intro p e s m below meth c hC hr
  refine g_cast (L2 := [(0, .ref (ad 0)), (1, .int a1)]) ?_ rfl rfl rfl rfl
  unfold f_X10_leftOf at h
  refine g_iconst (v := 0) hC (by decide) dX10_leftOf_0 ?_
  refine g_istore_n (L2 := [(2, .int 0), (0, .ref (ad 0)), (1, .int a1)]) hC rfl (by decide) rfl dX10_leftOf_1 ?_
  refine g_iconst (v := 0) hC (by decide) dX10_leftOf_2 ?_
  refine g_istore_n (L2 := [(3, .int 0), (2, .int 0), (0, .ref (ad 0)), (1, .int a1)]) hC rfl (by decide) rfl dX10_leftOf_3 ?_
  exact g_weak [2, 3, 1, 0] rfl (t_X10_leftOf_4 hC hr  N a1 0 0 M h)
end
