section
variable {p : Program} {l : Launch} {e : Env} {s : State} {m : MethodId} {args : Array Value} {below : List Frame} {meth : Method} {c : Code} {D : va_G} {A : Nat → Prop} {cI cZ : ClassId} {ad : Nat → Nat}
def f_X9_mustExist_9 (N : Nat) (M : gq_M) : Option (Int32 × gq_M) :=
  none
set_option maxHeartbeats 1000000 in
set_option maxRecDepth 20000 in
theorem t_X9_mustExist_9 {N : Nat} {v9 : Int32} {M9 : gq_M} (hC : gq_C p s m args meth c D A cI cZ ad mtC RX9 cX9_mustExist 2) (hr : meth.sig.returnType = none)   : ∀ (M : gq_M), f_X9_mustExist_9 N   M = some (v9, M9) → gq_W p l e (gq_rm 6) s m args below meth c D A cI cZ ad mtC 2 (MQ below (gq_Qv D cI cZ ad mtC M9 A) args s 0 0 A) 9 [] [] M 0 0 := by
  intro  M h
  unfold f_X9_mustExist_9 at h
  cases h
def f_X9_mustExist (N : Nat) (a0 : Int32) (a1 : Int32) (M : gq_M) : Option (Int32 × gq_M) :=
  if a0 < 0 then (f_X9_mustExist_9 N   M) else (if a0 < a1 then (some (0, M)) else (f_X9_mustExist_9 N   M))
set_option maxHeartbeats 1000000 in
set_option maxRecDepth 20000 in
theorem t_X9_mustExist {l : Launch} {D : va_G} {cI cZ : ClassId} {ad : Nat → Nat} (N : Nat) (a0 : Int32) (a1 : Int32) (M : gq_M) (v9 : Int32) (M9 : gq_M) (h : f_X9_mustExist N a0 a1 M = some (v9, M9)) : gq_Cv l D cI cZ ad mtC yX9_mustExist cX9_mustExist 2 6 [.int a0, .int a1] M M9 := by
  refine gq_introV (own := RX9) (by decide) rfl (Nat.le_of_ble_eq_true rfl) ?_
  intro p e s m below meth c hC hr
  refine g_cast (L2 := [(0, .int a0), (1, .int a1)]) ?_ rfl rfl rfl rfl
  unfold f_X9_mustExist at h
  refine g_iload_n hC 0 rfl rfl dX9_mustExist_0 ?_
  refine g_if_lt (tgt := 9) hC (by decide) dX9_mustExist_1 (fun c1 => ?_) (fun c1 => ?_)
  · replace h := gq_t c1 h
    exact g_weak [] rfl (t_X9_mustExist_9 hC hr   M h)
  · replace h := gq_f c1 h
    refine g_iload_n hC 0 rfl rfl dX9_mustExist_4 ?_
    refine g_iload_n hC 1 rfl rfl dX9_mustExist_5 ?_
    refine g_icmp_lt (tgt := 20) hC (by decide) dX9_mustExist_6 (fun c2 => ?_) (fun c2 => ?_)
    · replace h := gq_t c2 h
      exact g_vrets hC hr h dX9_mustExist_20
    · replace h := gq_f c2 h
      exact g_weak [] rfl (t_X9_mustExist_9 hC hr   M h)
def fx_X9_mustExist_9 (N : Nat) (M : gq_M) : Option (Nat × Int32 × gq_M) :=
  some (1, 0, M)
set_option maxHeartbeats 1000000 in
set_option maxRecDepth 20000 in
theorem tx_X9_mustExist_9 {N : Nat} {ex9 : Nat} {v9 : Int32} {M9 : gq_M} (hl9 : l.stackTraces = false) (hZ : gq_Z A s) (htb : ∀ x ∈ c.exceptionTable.toList, False) (hC : gq_C p s m args meth c D A cI cZ ad mtC RX9 cX9_mustExist 2) (hr : meth.sig.returnType = none)   : ∀ (M : gq_M), fx_X9_mustExist_9 N   M = some (ex9, v9, M9) → gq_W p l e (gq_rx 6 ex9) s m args below meth c D A cI cZ ad mtC 2 (vx_MQ below (gq_Qvx D cI cZ ad mtC ex9 M9 A) (gq_XC D cI cZ ad mtC ex9 M9 A) args s (gq_xc ex9) (gq_xs ex9) A) 9 [] [] M 0 0 := by
  intro  M h
  unfold fx_X9_mustExist_9 at h
  exact g_throw hl9 hC hZ htb tw_316 (by decide) ⟨Nat.le_of_ble_eq_true rfl, Nat.le_of_ble_eq_true rfl, rfl, rfl⟩ h dX9_mustExist_9 dX9_mustExist_12 dX9_mustExist_13 dX9_mustExist_16 dX9_mustExist_19
def fx_X9_mustExist (N : Nat) (a0 : Int32) (a1 : Int32) (M : gq_M) : Option (Nat × Int32 × gq_M) :=
  if a0 < 0 then (fx_X9_mustExist_9 N   M) else (if a0 < a1 then (none) else (fx_X9_mustExist_9 N   M))
set_option maxHeartbeats 1000000 in
set_option maxRecDepth 20000 in
theorem tx_X9_mustExist {l : Launch} (hl9 : l.stackTraces = false) {D : va_G} {cI cZ : ClassId} {ad : Nat → Nat} (N : Nat) (a0 : Int32) (a1 : Int32) (M : gq_M) (ex9 : Nat) (v9 : Int32) (M9 : gq_M) (h : fx_X9_mustExist N a0 a1 M = some (ex9, v9, M9)) : gq_Xv l D cI cZ ad mtC yX9_mustExist cX9_mustExist 2 6 [.int a0, .int a1] M ex9 M9 := by
  refine gq_introXv (own := RX9) (by decide) rfl (Nat.le_of_ble_eq_true rfl) ?_
  intro p e s m below meth c hC hr hZ htb
  refine g_cast (L2 := [(0, .int a0), (1, .int a1)]) ?_ rfl rfl rfl rfl
  unfold fx_X9_mustExist at h
  refine g_iload_n hC 0 rfl rfl dX9_mustExist_0 ?_
  refine g_if_lt (tgt := 9) hC (by decide) dX9_mustExist_1 (fun c1 => ?_) (fun c1 => ?_)
  · replace h := gq_t c1 h
    exact g_weak [] rfl (tx_X9_mustExist_9 hl9 hZ htb hC hr   M h)
  · replace h := gq_f c1 h
    refine g_iload_n hC 0 rfl rfl dX9_mustExist_4 ?_
    refine g_iload_n hC 1 rfl rfl dX9_mustExist_5 ?_
    refine g_icmp_lt (tgt := 20) hC (by decide) dX9_mustExist_6 (fun c2 => ?_) (fun c2 => ?_)
    · replace h := gq_t c2 h
      cases h
    · replace h := gq_f c2 h
      exact g_weak [] rfl (tx_X9_mustExist_9 hl9 hZ htb hC hr   M h)
def f_X9_mustBeIn_10 (N : Nat) (M : gq_M) : Option (Int32 × gq_M) :=
  none
set_option maxHeartbeats 1000000 in
set_option maxRecDepth 20000 in
theorem t_X9_mustBeIn_10 {N : Nat} {v9 : Int32} {M9 : gq_M} (hC : gq_C p s m args meth c D A cI cZ ad mtC RX9 cX9_mustBeIn 3) (hr : meth.sig.returnType = none)   : ∀ (M : gq_M), f_X9_mustBeIn_10 N   M = some (v9, M9) → gq_W p l e (gq_rm 6) s m args below meth c D A cI cZ ad mtC 3 (MQ below (gq_Qv D cI cZ ad mtC M9 A) args s 0 0 A) 10 [] [] M 0 0 := by
  intro  M h
  unfold f_X9_mustBeIn_10 at h
  cases h
def f_X9_mustBeIn (N : Nat) (a0 : Int32) (a1 : Int32) (a2 : Int32) (M : gq_M) : Option (Int32 × gq_M) :=
  if a0 < a1 then (f_X9_mustBeIn_10 N   M) else (if a0 ≤ a2 then (some (0, M)) else (f_X9_mustBeIn_10 N   M))
set_option maxHeartbeats 1000000 in
set_option maxRecDepth 20000 in
theorem t_X9_mustBeIn {l : Launch} {D : va_G} {cI cZ : ClassId} {ad : Nat → Nat} (N : Nat) (a0 : Int32) (a1 : Int32) (a2 : Int32) (M : gq_M) (v9 : Int32) (M9 : gq_M) (h : f_X9_mustBeIn N a0 a1 a2 M = some (v9, M9)) : gq_Cv l D cI cZ ad mtC yX9_mustBeIn cX9_mustBeIn 3 6 [.int a0, .int a1, .int a2] M M9 := by
  refine gq_introV (own := RX9) (by decide) rfl (Nat.le_of_ble_eq_true rfl) ?_
  intro p e s m below meth c hC hr
  refine g_cast (L2 := [(0, .int a0), (1, .int a1), (2, .int a2)]) ?_ rfl rfl rfl rfl
  unfold f_X9_mustBeIn at h
  refine g_iload_n hC 0 rfl rfl dX9_mustBeIn_0 ?_
  refine g_iload_n hC 1 rfl rfl dX9_mustBeIn_1 ?_
  refine g_icmp_lt (tgt := 10) hC (by decide) dX9_mustBeIn_2 (fun c1 => ?_) (fun c1 => ?_)
  · replace h := gq_t c1 h
    exact g_weak [] rfl (t_X9_mustBeIn_10 hC hr   M h)
  · replace h := gq_f c1 h
    refine g_iload_n hC 0 rfl rfl dX9_mustBeIn_5 ?_
    refine g_iload_n hC 2 rfl rfl dX9_mustBeIn_6 ?_
    refine g_icmp_le (tgt := 21) hC (by decide) dX9_mustBeIn_7 (fun c2 => ?_) (fun c2 => ?_)
    · replace h := gq_t c2 h
      exact g_vrets hC hr h dX9_mustBeIn_21
    · replace h := gq_f c2 h
      exact g_weak [] rfl (t_X9_mustBeIn_10 hC hr   M h)
def fx_X9_mustBeIn_10 (N : Nat) (M : gq_M) : Option (Nat × Int32 × gq_M) :=
  some (2, 0, M)
set_option maxHeartbeats 1000000 in
set_option maxRecDepth 20000 in
theorem tx_X9_mustBeIn_10 {N : Nat} {ex9 : Nat} {v9 : Int32} {M9 : gq_M} (hl9 : l.stackTraces = false) (hZ : gq_Z A s) (htb : ∀ x ∈ c.exceptionTable.toList, False) (hC : gq_C p s m args meth c D A cI cZ ad mtC RX9 cX9_mustBeIn 3) (hr : meth.sig.returnType = none)   : ∀ (M : gq_M), fx_X9_mustBeIn_10 N   M = some (ex9, v9, M9) → gq_W p l e (gq_rx 6 ex9) s m args below meth c D A cI cZ ad mtC 3 (vx_MQ below (gq_Qvx D cI cZ ad mtC ex9 M9 A) (gq_XC D cI cZ ad mtC ex9 M9 A) args s (gq_xc ex9) (gq_xs ex9) A) 10 [] [] M 0 0 := by
  intro  M h
  unfold fx_X9_mustBeIn_10 at h
  exact g_throw hl9 hC hZ htb tw_323 (by decide) ⟨Nat.le_of_ble_eq_true rfl, Nat.le_of_ble_eq_true rfl, rfl, rfl⟩ h dX9_mustBeIn_10 dX9_mustBeIn_13 dX9_mustBeIn_14 dX9_mustBeIn_17 dX9_mustBeIn_20
def fx_X9_mustBeIn (N : Nat) (a0 : Int32) (a1 : Int32) (a2 : Int32) (M : gq_M) : Option (Nat × Int32 × gq_M) :=
  if a0 < a1 then (fx_X9_mustBeIn_10 N   M) else (if a0 ≤ a2 then (none) else (fx_X9_mustBeIn_10 N   M))
set_option maxHeartbeats 1000000 in
set_option maxRecDepth 20000 in
theorem tx_X9_mustBeIn {l : Launch} (hl9 : l.stackTraces = false) {D : va_G} {cI cZ : ClassId} {ad : Nat → Nat} (N : Nat) (a0 : Int32) (a1 : Int32) (a2 : Int32) (M : gq_M) (ex9 : Nat) (v9 : Int32) (M9 : gq_M) (h : fx_X9_mustBeIn N a0 a1 a2 M = some (ex9, v9, M9)) : gq_Xv l D cI cZ ad mtC yX9_mustBeIn cX9_mustBeIn 3 6 [.int a0, .int a1, .int a2] M ex9 M9 := by
  refine gq_introXv (own := RX9) (by decide) rfl (Nat.le_of_ble_eq_true rfl) ?_
  intro p e s m below meth c hC hr hZ htb
  refine g_cast (L2 := [(0, .int a0), (1, .int a1), (2, .int a2)]) ?_ rfl rfl rfl rfl
  unfold fx_X9_mustBeIn at h
  refine g_iload_n hC 0 rfl rfl dX9_mustBeIn_0 ?_
  refine g_iload_n hC 1 rfl rfl dX9_mustBeIn_1 ?_
  refine g_icmp_lt (tgt := 10) hC (by decide) dX9_mustBeIn_2 (fun c1 => ?_) (fun c1 => ?_)
  · replace h := gq_t c1 h
    exact g_weak [] rfl (tx_X9_mustBeIn_10 hl9 hZ htb hC hr   M h)
  · replace h := gq_f c1 h
    refine g_iload_n hC 0 rfl rfl dX9_mustBeIn_5 ?_
    refine g_iload_n hC 2 rfl rfl dX9_mustBeIn_6 ?_
    refine g_icmp_le (tgt := 21) hC (by decide) dX9_mustBeIn_7 (fun c2 => ?_) (fun c2 => ?_)
    · replace h := gq_t c2 h
      cases h
    · replace h := gq_f c2 h
      exact g_weak [] rfl (tx_X9_mustBeIn_10 hl9 hZ htb hC hr   M h)
def f_X9_mustHold (N : Nat) (a0 : Int32) (M : gq_M) : Option (Int32 × gq_M) :=
  if a0 = 0 then (none) else (some (0, M))
set_option maxHeartbeats 1000000 in
set_option maxRecDepth 20000 in
theorem t_X9_mustHold {l : Launch} {D : va_G} {cI cZ : ClassId} {ad : Nat → Nat} (N : Nat) (a0 : Int32) (M : gq_M) (v9 : Int32) (M9 : gq_M) (h : f_X9_mustHold N a0 M = some (v9, M9)) : gq_Cv l D cI cZ ad mtC yX9_mustHold cX9_mustHold 1 6 [.int a0] M M9 := by
  refine gq_introV (own := RX9) (by decide) rfl (Nat.le_of_ble_eq_true rfl) ?_
  intro p e s m below meth c hC hr
  refine g_cast (L2 := [(0, .int a0)]) ?_ rfl rfl rfl rfl
  unfold f_X9_mustHold at h
  refine g_iload_n hC 0 rfl rfl dX9_mustHold_0 ?_
  refine g_if_ne (tgt := 15) hC (by decide) dX9_mustHold_1 (fun c1 => ?_) (fun c1 => ?_)
  · replace h := gq_f c1 h
    exact g_vrets hC hr h dX9_mustHold_15
  · replace h := gq_t c1 h
    cases h
def fx_X9_mustHold (N : Nat) (a0 : Int32) (M : gq_M) : Option (Nat × Int32 × gq_M) :=
  if a0 = 0 then (some (3, 0, M)) else (none)
set_option maxHeartbeats 1000000 in
set_option maxRecDepth 20000 in
theorem tx_X9_mustHold {l : Launch} (hl9 : l.stackTraces = false) {D : va_G} {cI cZ : ClassId} {ad : Nat → Nat} (N : Nat) (a0 : Int32) (M : gq_M) (ex9 : Nat) (v9 : Int32) (M9 : gq_M) (h : fx_X9_mustHold N a0 M = some (ex9, v9, M9)) : gq_Xv l D cI cZ ad mtC yX9_mustHold cX9_mustHold 1 6 [.int a0] M ex9 M9 := by
  refine gq_introXv (own := RX9) (by decide) rfl (Nat.le_of_ble_eq_true rfl) ?_
  intro p e s m below meth c hC hr hZ htb
  refine g_cast (L2 := [(0, .int a0)]) ?_ rfl rfl rfl rfl
  unfold fx_X9_mustHold at h
  refine g_iload_n hC 0 rfl rfl dX9_mustHold_0 ?_
  refine g_if_ne (tgt := 15) hC (by decide) dX9_mustHold_1 (fun c1 => ?_) (fun c1 => ?_)
  · replace h := gq_f c1 h
    cases h
  · replace h := gq_t c1 h
    exact g_throw hl9 hC hZ htb tw_328 (by decide) ⟨Nat.le_of_ble_eq_true rfl, Nat.le_of_ble_eq_true rfl, rfl, rfl⟩ h dX9_mustHold_4 dX9_mustHold_7 dX9_mustHold_8 dX9_mustHold_11 dX9_mustHold_14
def f_X9_quota (N : Nat) (a1 : Int32) (a2 : Int32) (a3 : Int32) (M : gq_M) : Option (Nat × Int32 × gq_M) :=
  gq_x2 (f_X9_mustExist N a1 8 M) (fx_X9_mustExist N a1 8 M) fun v1 M2 => gq_x2 (f_X9_mustExist N a2 4 M2) (fx_X9_mustExist N a2 4 M2) fun v5 M6 => gq_x2 (f_X9_mustBeIn N a3 0 100000 M6) (fx_X9_mustBeIn N a3 0 100000 M6) fun v9 M10 => gq_b (f_X0_placeOf N a1 a2 M10) fun v13 M14 => gq_b (f_X8_swap 3 32 N v13 a3 M14) fun v16 M17 => some (0, v16, M17)
set_option maxHeartbeats 1000000 in
set_option maxRecDepth 20000 in
theorem t_X9_quota {l : Launch} (hl9 : l.stackTraces = false) {D : va_G} {cI cZ : ClassId} {ad : Nat → Nat} (N : Nat) (a1 : Int32) (a2 : Int32) (a3 : Int32) (M : gq_M) (ex9 : Nat) (v9 : Int32) (M9 : gq_M) (h : f_X9_quota N a1 a2 a3 M = some (ex9, v9, M9)) : gq_Xi l D cI cZ ad mtC yX9_quota cX9_quota 4 (some .int) 7 [.ref (ad 0), .int a1, .int a2, .int a3] M ex9 v9 M9 := by
  refine gq_introXi (own := RX9) (v := v9) (by decide) rfl (Nat.le_of_ble_eq_true rfl) ?_
  intro p e s m below meth c hC hr hZ htb
  refine g_cast (L2 := [(0, .ref (ad 0)), (1, .int a1), (2, .int a2), (3, .int a3)]) ?_ rfl rfl rfl rfl
  unfold f_X9_quota at h
  refine g_iload_n hC 1 rfl rfl dX9_quota_0 ?_
  refine g_bipush (v := 8) hC (by decide) dX9_quota_1 ?_
  rcases gq_x2_i h with ⟨v1, M2, c3, h⟩ | ⟨k4, v1, M2, c3, hk4, h⟩
  rotate_left
  · exact g_SXo (as := [.int a1, .int 8]) hC hZ htb (tx_X9_mustExist hl9 N _ _ _ _ _ _ c3) hk4 h ⟨rfl, rfl⟩ mS_X9_mustExist wm_X9_79 rfl rfl (Nat.le_of_ble_eq_true rfl) ⟨Nat.le_of_ble_eq_true rfl, Nat.le_of_ble_eq_true rfl⟩ dX9_quota_3
  refine g_Sv (as := [.int a1, .int 8]) hC (t_X9_mustExist N _ _ _ _ _ c3) mS_X9_mustExist wm_X9_79 rfl rfl (Nat.le_of_ble_eq_true rfl) ⟨Nat.le_of_ble_eq_true rfl, Nat.le_of_ble_eq_true rfl⟩ ⟨Nat.zero_le _, Nat.zero_le _⟩ dX9_quota_3 ?_
  refine g_iload_n hC 2 rfl rfl dX9_quota_6 ?_
  refine g_iconst (v := 4) hC (by decide) dX9_quota_7 ?_
  rcases gq_x2_i h with ⟨v5, M6, c7, h⟩ | ⟨k8, v5, M6, c7, hk8, h⟩
  rotate_left
  · exact g_SXo (as := [.int a2, .int 4]) hC hZ htb (tx_X9_mustExist hl9 N _ _ _ _ _ _ c7) hk8 h ⟨rfl, rfl⟩ mS_X9_mustExist wm_X9_79 rfl rfl (Nat.le_of_ble_eq_true rfl) ⟨Nat.le_of_ble_eq_true rfl, Nat.le_of_ble_eq_true rfl⟩ dX9_quota_8
  refine g_Sv (as := [.int a2, .int 4]) hC (t_X9_mustExist N _ _ _ _ _ c7) mS_X9_mustExist wm_X9_79 rfl rfl (Nat.le_of_ble_eq_true rfl) ⟨Nat.le_of_ble_eq_true rfl, Nat.le_of_ble_eq_true rfl⟩ ⟨Nat.zero_le _, Nat.zero_le _⟩ dX9_quota_8 ?_
  refine g_iload_n hC 3 rfl rfl dX9_quota_11 ?_
  refine g_iconst (v := 0) hC (by decide) dX9_quota_12 ?_
  refine g_ldc (v := 100000) hC wk_X9_83 dX9_quota_13 ?_
  rcases gq_x2_i h with ⟨v9, M10, c11, h⟩ | ⟨k12, v9, M10, c11, hk12, h⟩
  rotate_left
  · exact g_SXo (as := [.int a3, .int 0, .int 100000]) hC hZ htb (tx_X9_mustBeIn hl9 N _ _ _ _ _ _ _ c11) hk12 h ⟨rfl, rfl⟩ mS_X9_mustBeIn wm_X9_84 rfl rfl (Nat.le_of_ble_eq_true rfl) ⟨Nat.le_of_ble_eq_true rfl, Nat.le_of_ble_eq_true rfl⟩ dX9_quota_15
  refine g_Sv (as := [.int a3, .int 0, .int 100000]) hC (t_X9_mustBeIn N _ _ _ _ _ _ c11) mS_X9_mustBeIn wm_X9_84 rfl rfl (Nat.le_of_ble_eq_true rfl) ⟨Nat.le_of_ble_eq_true rfl, Nat.le_of_ble_eq_true rfl⟩ ⟨Nat.zero_le _, Nat.zero_le _⟩ dX9_quota_15 ?_
  refine g_aload_n hC 0 rfl rfl dX9_quota_18 ?_
  refine g_getR hC fF_X9_10 lkC_0_0 dX9_quota_19 ?_
  refine g_getR hC fF_X9_88 lkC_1_0 dX9_quota_22 ?_
  refine g_iload_n hC 1 rfl rfl dX9_quota_25 ?_
  refine g_iload_n hC 2 rfl rfl dX9_quota_26 ?_
  obtain ⟨v13, M14, c15, h⟩ := gq_b_i h
  refine g_Si (as := [.int a1, .int a2]) hC (t_X0_placeOf N _ _ _ _ _ c15) mS_X0_placeOf wm_X9_92 rfl rfl (Nat.le_of_ble_eq_true rfl) ⟨Nat.le_of_ble_eq_true rfl, Nat.le_of_ble_eq_true rfl⟩ ⟨Nat.zero_le _, Nat.zero_le _⟩ dX9_quota_27 ?_
  refine g_iload_n hC 3 rfl rfl dX9_quota_30 ?_
  obtain ⟨v16, M17, c18, h⟩ := gq_b_i h
  refine g_Vi (as := [.int v13, .int a3]) hC (t_X8_swap lkC_2_0 arC_3 N _ _ _ _ _ c18) mV_X8_swap  wm_X9_96 obC_2 rfl rfl (Nat.le_of_ble_eq_true rfl) ⟨Nat.le_of_ble_eq_true rfl, Nat.le_of_ble_eq_true rfl⟩ ⟨Nat.zero_le _, Nat.zero_le _⟩ dX9_quota_31 ?_
  exact g_iretsX hC hr h dX9_quota_34
def f_X9_aid_30 (N : Nat) (x1 : Int32) (x2 : Int32) (s1 : Int32) (s2 : Int32) (M : gq_M) : Option (Nat × Int32 × gq_M) :=
  gq_b (f_X8_put 11 8 N s1 s2 M) fun v10 M11 => gq_b (f_X8_swap 9 8 N x1 x2 M11) fun v13 M14 => some (0, v13, M14)
set_option maxHeartbeats 1000000 in
set_option maxRecDepth 20000 in
theorem t_X9_aid_30 {N : Nat} {ex9 : Nat} {v9 : Int32} {M9 : gq_M} (hl9 : l.stackTraces = false) (hZ : gq_Z A s) (htb : ∀ x ∈ c.exceptionTable.toList, False) (hC : gq_C p s m args meth c D A cI cZ ad mtC RX9 cX9_aid 4) (hr : meth.sig.returnType = (some .int))   : ∀ (x1 : Int32) (x2 : Int32) (s1 : Int32) (s2 : Int32) (M : gq_M), f_X9_aid_30 N  x1 x2 s1 s2 M = some (ex9, v9, M9) → gq_W p l e (gq_rx 7 ex9) s m args below meth c D A cI cZ ad mtC 4 (vx_MQ below (gq_Qix D cI cZ ad mtC ex9 v9 M9 A) (gq_XC D cI cZ ad mtC ex9 M9 A) args s (gq_xc ex9) (gq_xs ex9) A) 30 [(0, .ref (ad 0)), (1, .int x1), (2, .int x2)] [.int s2, .int s1, .ref (ad 10)] M 0 0 := by
  intro x1 x2 s1 s2 M h
  unfold f_X9_aid_30 at h
  obtain ⟨v10, M11, c12, h⟩ := gq_b_i h
  refine g_Vv (as := [.int s1, .int s2]) hC (t_X8_put lkC_10_0 arC_11 N _ _ _ _ _ c12) mV_X8_put  wm_X9_104 obC_10 rfl rfl (Nat.le_of_ble_eq_true rfl) ⟨Nat.le_of_ble_eq_true rfl, Nat.le_of_ble_eq_true rfl⟩ ⟨Nat.zero_le _, Nat.zero_le _⟩ dX9_aid_30 ?_
  refine g_aload_n hC 0 rfl rfl dX9_aid_33 ?_
  refine g_getR hC fF_X9_10 lkC_0_0 dX9_aid_34 ?_
  refine g_getR hC fF_X9_107 lkC_1_3 dX9_aid_37 ?_
  refine g_iload_n hC 1 rfl rfl dX9_aid_40 ?_
  refine g_iload_n hC 2 rfl rfl dX9_aid_41 ?_
  obtain ⟨v13, M14, c15, h⟩ := gq_b_i h
  refine g_Vi (as := [.int x1, .int x2]) hC (t_X8_swap lkC_8_0 arC_9 N _ _ _ _ _ c15) mV_X8_swap  wm_X9_96 obC_8 rfl rfl (Nat.le_of_ble_eq_true rfl) ⟨Nat.le_of_ble_eq_true rfl, Nat.le_of_ble_eq_true rfl⟩ ⟨Nat.zero_le _, Nat.zero_le _⟩ dX9_aid_42 ?_
  exact g_iretsX hC hr h dX9_aid_45
def f_X9_aid (N : Nat) (a1 : Int32) (a2 : Int32) (a3 : Int32) (M : gq_M) : Option (Nat × Int32 × gq_M) :=
  gq_x2 (f_X9_mustExist N a1 8 M) (fx_X9_mustExist N a1 8 M) fun v1 M2 => gq_x2 (f_X9_mustBeIn N a2 0 100000 M2) (fx_X9_mustBeIn N a2 0 100000 M2) fun v5 M6 => if a3 = 0 then (f_X9_aid_30 N  a1 a2 a1 0 M6) else (f_X9_aid_30 N  a1 a2 a1 1 M6)
set_option maxHeartbeats 1000000 in
set_option maxRecDepth 20000 in
theorem t_X9_aid {l : Launch} (hl9 : l.stackTraces = false) {D : va_G} {cI cZ : ClassId} {ad : Nat → Nat} (N : Nat) (a1 : Int32) (a2 : Int32) (a3 : Int32) (M : gq_M) (ex9 : Nat) (v9 : Int32) (M9 : gq_M) (h : f_X9_aid N a1 a2 a3 M = some (ex9, v9, M9)) : gq_Xi l D cI cZ ad mtC yX9_aid cX9_aid 4 (some .int) 7 [.ref (ad 0), .int a1, .int a2, .int a3] M ex9 v9 M9 := by
  refine gq_introXi (own := RX9) (v := v9) (by decide) rfl (Nat.le_of_ble_eq_true rfl) ?_
  intro p e s m below meth c hC hr hZ htb
  refine g_cast (L2 := [(0, .ref (ad 0)), (1, .int a1), (2, .int a2), (3, .int a3)]) ?_ rfl rfl rfl rfl
  unfold f_X9_aid at h
  refine g_iload_n hC 1 rfl rfl dX9_aid_0 ?_
  refine g_bipush (v := 8) hC (by decide) dX9_aid_1 ?_
  rcases gq_x2_i h with ⟨v1, M2, c3, h⟩ | ⟨k4, v1, M2, c3, hk4, h⟩
  rotate_left
  · exact g_SXo (as := [.int a1, .int 8]) hC hZ htb (tx_X9_mustExist hl9 N _ _ _ _ _ _ c3) hk4 h ⟨rfl, rfl⟩ mS_X9_mustExist wm_X9_79 rfl rfl (Nat.le_of_ble_eq_true rfl) ⟨Nat.le_of_ble_eq_true rfl, Nat.le_of_ble_eq_true rfl⟩ dX9_aid_3
  refine g_Sv (as := [.int a1, .int 8]) hC (t_X9_mustExist N _ _ _ _ _ c3) mS_X9_mustExist wm_X9_79 rfl rfl (Nat.le_of_ble_eq_true rfl) ⟨Nat.le_of_ble_eq_true rfl, Nat.le_of_ble_eq_true rfl⟩ ⟨Nat.zero_le _, Nat.zero_le _⟩ dX9_aid_3 ?_
  refine g_iload_n hC 2 rfl rfl dX9_aid_6 ?_
  refine g_iconst (v := 0) hC (by decide) dX9_aid_7 ?_
  refine g_ldc (v := 100000) hC wk_X9_83 dX9_aid_8 ?_
  rcases gq_x2_i h with ⟨v5, M6, c7, h⟩ | ⟨k8, v5, M6, c7, hk8, h⟩
  rotate_left
  · exact g_SXo (as := [.int a2, .int 0, .int 100000]) hC hZ htb (tx_X9_mustBeIn hl9 N _ _ _ _ _ _ _ c7) hk8 h ⟨rfl, rfl⟩ mS_X9_mustBeIn wm_X9_84 rfl rfl (Nat.le_of_ble_eq_true rfl) ⟨Nat.le_of_ble_eq_true rfl, Nat.le_of_ble_eq_true rfl⟩ dX9_aid_10
  refine g_Sv (as := [.int a2, .int 0, .int 100000]) hC (t_X9_mustBeIn N _ _ _ _ _ _ c7) mS_X9_mustBeIn wm_X9_84 rfl rfl (Nat.le_of_ble_eq_true rfl) ⟨Nat.le_of_ble_eq_true rfl, Nat.le_of_ble_eq_true rfl⟩ ⟨Nat.zero_le _, Nat.zero_le _⟩ dX9_aid_10 ?_
  refine g_aload_n hC 0 rfl rfl dX9_aid_13 ?_
  refine g_getR hC fF_X9_10 lkC_0_0 dX9_aid_14 ?_
  refine g_getR hC fF_X9_101 lkC_1_4 dX9_aid_17 ?_
  refine g_iload_n hC 1 rfl rfl dX9_aid_20 ?_
  refine g_iload_n hC 3 rfl rfl dX9_aid_21 ?_
  refine g_if_eq (tgt := 29) hC (by decide) dX9_aid_22 (fun c9 => ?_) (fun c9 => ?_)
  · replace h := gq_t c9 h
    refine g_iconst (v := 0) hC (by decide) dX9_aid_29 ?_
    exact g_weak [0, 1, 2] rfl (t_X9_aid_30 hl9 hZ htb hC hr  a1 a2 a1 0 M6 h)
  · replace h := gq_f c9 h
    refine g_iconst (v := 1) hC (by decide) dX9_aid_25 ?_
    refine g_goto (tgt := 30) hC (by decide) dX9_aid_26 ?_
    exact g_weak [0, 1, 2] rfl (t_X9_aid_30 hl9 hZ htb hC hr  a1 a2 a1 1 M6 h)
def f_X9_kind (N : Nat) (a1 : Int32) (a2 : Int32) (a3 : Int32) (a4 : Int32) (M : gq_M) : Option (Nat × Int32 × gq_M) :=
  gq_x2 (f_X9_mustExist N a1 4 M) (fx_X9_mustExist N a1 4 M) fun v1 M2 => gq_x2 (f_X9_mustExist N a4 3 M2) (fx_X9_mustExist N a4 3 M2) fun v5 M6 => gq_x2 (f_X9_mustBeIn N a2 1 10000 M6) (fx_X9_mustBeIn N a2 1 10000 M6) fun v9 M10 => gq_x2 (f_X9_mustBeIn N a3 1 10000 M10) (fx_X9_mustBeIn N a3 1 10000 M10) fun v13 M14 => gq_b (f_X8_put 18 4 N a1 a2 M14) fun v17 M18 => gq_b (f_X8_put 20 4 N a1 a3 M18) fun v20 M21 => gq_b (f_X8_put 22 4 N a1 a4 M21) fun v23 M24 => some (0, 0, M24)
set_option maxHeartbeats 1000000 in
set_option maxRecDepth 20000 in
theorem t_X9_kind {l : Launch} (hl9 : l.stackTraces = false) {D : va_G} {cI cZ : ClassId} {ad : Nat → Nat} (N : Nat) (a1 : Int32) (a2 : Int32) (a3 : Int32) (a4 : Int32) (M : gq_M) (ex9 : Nat) (v9 : Int32) (M9 : gq_M) (h : f_X9_kind N a1 a2 a3 a4 M = some (ex9, v9, M9)) : gq_Xv l D cI cZ ad mtC yX9_kind cX9_kind 5 7 [.ref (ad 0), .int a1, .int a2, .int a3, .int a4] M ex9 M9 := by
  refine gq_introXv (own := RX9) (by decide) rfl (Nat.le_of_ble_eq_true rfl) ?_
  intro p e s m below meth c hC hr hZ htb
  refine g_cast (L2 := [(0, .ref (ad 0)), (1, .int a1), (2, .int a2), (3, .int a3), (4, .int a4)]) ?_ rfl rfl rfl rfl
  unfold f_X9_kind at h
  refine g_iload_n hC 1 rfl rfl dX9_kind_0 ?_
  refine g_iconst (v := 4) hC (by decide) dX9_kind_1 ?_
  rcases gq_x2_i h with ⟨v1, M2, c3, h⟩ | ⟨k4, v1, M2, c3, hk4, h⟩
  rotate_left
  · exact g_SXo (as := [.int a1, .int 4]) hC hZ htb (tx_X9_mustExist hl9 N _ _ _ _ _ _ c3) hk4 h ⟨rfl, rfl⟩ mS_X9_mustExist wm_X9_79 rfl rfl (Nat.le_of_ble_eq_true rfl) ⟨Nat.le_of_ble_eq_true rfl, Nat.le_of_ble_eq_true rfl⟩ dX9_kind_2
  refine g_Sv (as := [.int a1, .int 4]) hC (t_X9_mustExist N _ _ _ _ _ c3) mS_X9_mustExist wm_X9_79 rfl rfl (Nat.le_of_ble_eq_true rfl) ⟨Nat.le_of_ble_eq_true rfl, Nat.le_of_ble_eq_true rfl⟩ ⟨Nat.zero_le _, Nat.zero_le _⟩ dX9_kind_2 ?_
  refine g_iload hC 4 rfl dX9_kind_5 ?_
  refine g_iconst (v := 3) hC (by decide) dX9_kind_7 ?_
  rcases gq_x2_i h with ⟨v5, M6, c7, h⟩ | ⟨k8, v5, M6, c7, hk8, h⟩
  rotate_left
  · exact g_SXo (as := [.int a4, .int 3]) hC hZ htb (tx_X9_mustExist hl9 N _ _ _ _ _ _ c7) hk8 h ⟨rfl, rfl⟩ mS_X9_mustExist wm_X9_79 rfl rfl (Nat.le_of_ble_eq_true rfl) ⟨Nat.le_of_ble_eq_true rfl, Nat.le_of_ble_eq_true rfl⟩ dX9_kind_8
  refine g_Sv (as := [.int a4, .int 3]) hC (t_X9_mustExist N _ _ _ _ _ c7) mS_X9_mustExist wm_X9_79 rfl rfl (Nat.le_of_ble_eq_true rfl) ⟨Nat.le_of_ble_eq_true rfl, Nat.le_of_ble_eq_true rfl⟩ ⟨Nat.zero_le _, Nat.zero_le _⟩ dX9_kind_8 ?_
  refine g_iload_n hC 2 rfl rfl dX9_kind_11 ?_
  refine g_iconst (v := 1) hC (by decide) dX9_kind_12 ?_
  refine g_sipush (v := 10000) hC (by decide) dX9_kind_13 ?_
  rcases gq_x2_i h with ⟨v9, M10, c11, h⟩ | ⟨k12, v9, M10, c11, hk12, h⟩
  rotate_left
  · exact g_SXo (as := [.int a2, .int 1, .int 10000]) hC hZ htb (tx_X9_mustBeIn hl9 N _ _ _ _ _ _ _ c11) hk12 h ⟨rfl, rfl⟩ mS_X9_mustBeIn wm_X9_84 rfl rfl (Nat.le_of_ble_eq_true rfl) ⟨Nat.le_of_ble_eq_true rfl, Nat.le_of_ble_eq_true rfl⟩ dX9_kind_16
  refine g_Sv (as := [.int a2, .int 1, .int 10000]) hC (t_X9_mustBeIn N _ _ _ _ _ _ c11) mS_X9_mustBeIn wm_X9_84 rfl rfl (Nat.le_of_ble_eq_true rfl) ⟨Nat.le_of_ble_eq_true rfl, Nat.le_of_ble_eq_true rfl⟩ ⟨Nat.zero_le _, Nat.zero_le _⟩ dX9_kind_16 ?_
  refine g_iload_n hC 3 rfl rfl dX9_kind_19 ?_
  refine g_iconst (v := 1) hC (by decide) dX9_kind_20 ?_
  refine g_sipush (v := 10000) hC (by decide) dX9_kind_21 ?_
  rcases gq_x2_i h with ⟨v13, M14, c15, h⟩ | ⟨k16, v13, M14, c15, hk16, h⟩
  rotate_left
  · exact g_SXo (as := [.int a3, .int 1, .int 10000]) hC hZ htb (tx_X9_mustBeIn hl9 N _ _ _ _ _ _ _ c15) hk16 h ⟨rfl, rfl⟩ mS_X9_mustBeIn wm_X9_84 rfl rfl (Nat.le_of_ble_eq_true rfl) ⟨Nat.le_of_ble_eq_true rfl, Nat.le_of_ble_eq_true rfl⟩ dX9_kind_24
  refine g_Sv (as := [.int a3, .int 1, .int 10000]) hC (t_X9_mustBeIn N _ _ _ _ _ _ c15) mS_X9_mustBeIn wm_X9_84 rfl rfl (Nat.le_of_ble_eq_true rfl) ⟨Nat.le_of_ble_eq_true rfl, Nat.le_of_ble_eq_true rfl⟩ ⟨Nat.zero_le _, Nat.zero_le _⟩ dX9_kind_24 ?_
  refine g_aload_n hC 0 rfl rfl dX9_kind_27 ?_
  refine g_getR hC fF_X9_19 lkC_0_1 dX9_kind_28 ?_
  refine g_getR hC fF_X9_110 lkC_16_0 dX9_kind_31 ?_
  refine g_iload_n hC 1 rfl rfl dX9_kind_34 ?_
  refine g_iload_n hC 2 rfl rfl dX9_kind_35 ?_
  obtain ⟨v17, M18, c19, h⟩ := gq_b_i h
  refine g_Vv (as := [.int a1, .int a2]) hC (t_X8_put lkC_17_0 arC_18 N _ _ _ _ _ c19) mV_X8_put  wm_X9_104 obC_17 rfl rfl (Nat.le_of_ble_eq_true rfl) ⟨Nat.le_of_ble_eq_true rfl, Nat.le_of_ble_eq_true rfl⟩ ⟨Nat.zero_le _, Nat.zero_le _⟩ dX9_kind_36 ?_
  refine g_aload_n hC 0 rfl rfl dX9_kind_39 ?_
  refine g_getR hC fF_X9_19 lkC_0_1 dX9_kind_40 ?_
  refine g_getR hC fF_X9_113 lkC_16_1 dX9_kind_43 ?_
  refine g_iload_n hC 1 rfl rfl dX9_kind_46 ?_
  refine g_iload_n hC 3 rfl rfl dX9_kind_47 ?_
  obtain ⟨v20, M21, c22, h⟩ := gq_b_i h
  refine g_Vv (as := [.int a1, .int a3]) hC (t_X8_put lkC_19_0 arC_20 N _ _ _ _ _ c22) mV_X8_put  wm_X9_104 obC_19 rfl rfl (Nat.le_of_ble_eq_true rfl) ⟨Nat.le_of_ble_eq_true rfl, Nat.le_of_ble_eq_true rfl⟩ ⟨Nat.zero_le _, Nat.zero_le _⟩ dX9_kind_48 ?_
  refine g_aload_n hC 0 rfl rfl dX9_kind_51 ?_
  refine g_getR hC fF_X9_19 lkC_0_1 dX9_kind_52 ?_
  refine g_getR hC fF_X9_116 lkC_16_2 dX9_kind_55 ?_
  refine g_iload_n hC 1 rfl rfl dX9_kind_58 ?_
  refine g_iload hC 4 rfl dX9_kind_59 ?_
  obtain ⟨v23, M24, c25, h⟩ := gq_b_i h
  refine g_Vv (as := [.int a1, .int a4]) hC (t_X8_put lkC_21_0 arC_22 N _ _ _ _ _ c25) mV_X8_put  wm_X9_104 obC_21 rfl rfl (Nat.le_of_ble_eq_true rfl) ⟨Nat.le_of_ble_eq_true rfl, Nat.le_of_ble_eq_true rfl⟩ ⟨Nat.zero_le _, Nat.zero_le _⟩ dX9_kind_61 ?_
  exact g_vretsX hC hr h dX9_kind_64
def f_X9_step (N : Nat) (a1 : Int32) (a2 : Int32) (M : gq_M) : Option (Nat × Int32 × gq_M) :=
  gq_x2 (f_X9_mustExist N a1 3 M) (fx_X9_mustExist N a1 3 M) fun v1 M2 => gq_x2 (f_X9_mustBeIn N a2 1 500 M2) (fx_X9_mustBeIn N a2 1 500 M2) fun v5 M6 => gq_b (f_X8_swap 90 3 N a1 a2 M6) fun v9 M10 => some (0, v9, M10)
set_option maxHeartbeats 1000000 in
set_option maxRecDepth 20000 in
theorem t_X9_step {l : Launch} (hl9 : l.stackTraces = false) {D : va_G} {cI cZ : ClassId} {ad : Nat → Nat} (N : Nat) (a1 : Int32) (a2 : Int32) (M : gq_M) (ex9 : Nat) (v9 : Int32) (M9 : gq_M) (h : f_X9_step N a1 a2 M = some (ex9, v9, M9)) : gq_Xi l D cI cZ ad mtC yX9_step cX9_step 3 (some .int) 7 [.ref (ad 0), .int a1, .int a2] M ex9 v9 M9 := by
  refine gq_introXi (own := RX9) (v := v9) (by decide) rfl (Nat.le_of_ble_eq_true rfl) ?_
  intro p e s m below meth c hC hr hZ htb
  refine g_cast (L2 := [(0, .ref (ad 0)), (1, .int a1), (2, .int a2)]) ?_ rfl rfl rfl rfl
  unfold f_X9_step at h
  refine g_iload_n hC 1 rfl rfl dX9_step_0 ?_
  refine g_iconst (v := 3) hC (by decide) dX9_step_1 ?_
  rcases gq_x2_i h with ⟨v1, M2, c3, h⟩ | ⟨k4, v1, M2, c3, hk4, h⟩
  rotate_left
  · exact g_SXo (as := [.int a1, .int 3]) hC hZ htb (tx_X9_mustExist hl9 N _ _ _ _ _ _ c3) hk4 h ⟨rfl, rfl⟩ mS_X9_mustExist wm_X9_79 rfl rfl (Nat.le_of_ble_eq_true rfl) ⟨Nat.le_of_ble_eq_true rfl, Nat.le_of_ble_eq_true rfl⟩ dX9_step_2
  refine g_Sv (as := [.int a1, .int 3]) hC (t_X9_mustExist N _ _ _ _ _ c3) mS_X9_mustExist wm_X9_79 rfl rfl (Nat.le_of_ble_eq_true rfl) ⟨Nat.le_of_ble_eq_true rfl, Nat.le_of_ble_eq_true rfl⟩ ⟨Nat.zero_le _, Nat.zero_le _⟩ dX9_step_2 ?_
  refine g_iload_n hC 2 rfl rfl dX9_step_5 ?_
  refine g_iconst (v := 1) hC (by decide) dX9_step_6 ?_
  refine g_sipush (v := 500) hC (by decide) dX9_step_7 ?_
  rcases gq_x2_i h with ⟨v5, M6, c7, h⟩ | ⟨k8, v5, M6, c7, hk8, h⟩
  rotate_left
  · exact g_SXo (as := [.int a2, .int 1, .int 500]) hC hZ htb (tx_X9_mustBeIn hl9 N _ _ _ _ _ _ _ c7) hk8 h ⟨rfl, rfl⟩ mS_X9_mustBeIn wm_X9_84 rfl rfl (Nat.le_of_ble_eq_true rfl) ⟨Nat.le_of_ble_eq_true rfl, Nat.le_of_ble_eq_true rfl⟩ dX9_step_10
  refine g_Sv (as := [.int a2, .int 1, .int 500]) hC (t_X9_mustBeIn N _ _ _ _ _ _ c7) mS_X9_mustBeIn wm_X9_84 rfl rfl (Nat.le_of_ble_eq_true rfl) ⟨Nat.le_of_ble_eq_true rfl, Nat.le_of_ble_eq_true rfl⟩ ⟨Nat.zero_le _, Nat.zero_le _⟩ dX9_step_10 ?_
  refine g_aload_n hC 0 rfl rfl dX9_step_13 ?_
  refine g_getR hC fF_X9_47 lkC_0_5 dX9_step_14 ?_
  refine g_getR hC fF_X9_119 lkC_76_6 dX9_step_17 ?_
  refine g_iload_n hC 1 rfl rfl dX9_step_20 ?_
  refine g_iload_n hC 2 rfl rfl dX9_step_21 ?_
  obtain ⟨v9, M10, c11, h⟩ := gq_b_i h
  refine g_Vi (as := [.int a1, .int a2]) hC (t_X8_swap lkC_89_0 arC_90 N _ _ _ _ _ c11) mV_X8_swap  wm_X9_96 obC_89 rfl rfl (Nat.le_of_ble_eq_true rfl) ⟨Nat.le_of_ble_eq_true rfl, Nat.le_of_ble_eq_true rfl⟩ ⟨Nat.zero_le _, Nat.zero_le _⟩ dX9_step_22 ?_
  exact g_iretsX hC hr h dX9_step_25
def f_X9_buyer (N : Nat) (a1 : Int32) (a2 : Int32) (a3 : Int32) (M : gq_M) : Option (Nat × Int32 × gq_M) :=
  gq_x2 (f_X9_mustExist N a1 8 M) (fx_X9_mustExist N a1 8 M) fun v1 M2 => gq_x2 (f_X9_mustBeIn N a2 0 100000000 M2) (fx_X9_mustBeIn N a2 0 100000000 M2) fun v5 M6 => gq_x2 (f_X9_mustBeIn N a3 1 9 M6) (fx_X9_mustBeIn N a3 1 9 M6) fun v9 M10 => gq_b (f_X8_put 27 8 N a1 a3 M10) fun v13 M14 => gq_b (f_X8_swap 25 8 N a1 a2 M14) fun v16 M17 => some (0, v16, M17)
set_option maxHeartbeats 1000000 in
set_option maxRecDepth 20000 in
theorem t_X9_buyer {l : Launch} (hl9 : l.stackTraces = false) {D : va_G} {cI cZ : ClassId} {ad : Nat → Nat} (N : Nat) (a1 : Int32) (a2 : Int32) (a3 : Int32) (M : gq_M) (ex9 : Nat) (v9 : Int32) (M9 : gq_M) (h : f_X9_buyer N a1 a2 a3 M = some (ex9, v9, M9)) : gq_Xi l D cI cZ ad mtC yX9_buyer cX9_buyer 4 (some .int) 7 [.ref (ad 0), .int a1, .int a2, .int a3] M ex9 v9 M9 := by
  refine gq_introXi (own := RX9) (v := v9) (by decide) rfl (Nat.le_of_ble_eq_true rfl) ?_
  intro p e s m below meth c hC hr hZ htb
  refine g_cast (L2 := [(0, .ref (ad 0)), (1, .int a1), (2, .int a2), (3, .int a3)]) ?_ rfl rfl rfl rfl
  unfold f_X9_buyer at h
  refine g_iload_n hC 1 rfl rfl dX9_buyer_0 ?_
  refine g_bipush (v := 8) hC (by decide) dX9_buyer_1 ?_
  rcases gq_x2_i h with ⟨v1, M2, c3, h⟩ | ⟨k4, v1, M2, c3, hk4, h⟩
  rotate_left
  · exact g_SXo (as := [.int a1, .int 8]) hC hZ htb (tx_X9_mustExist hl9 N _ _ _ _ _ _ c3) hk4 h ⟨rfl, rfl⟩ mS_X9_mustExist wm_X9_79 rfl rfl (Nat.le_of_ble_eq_true rfl) ⟨Nat.le_of_ble_eq_true rfl, Nat.le_of_ble_eq_true rfl⟩ dX9_buyer_3
  refine g_Sv (as := [.int a1, .int 8]) hC (t_X9_mustExist N _ _ _ _ _ c3) mS_X9_mustExist wm_X9_79 rfl rfl (Nat.le_of_ble_eq_true rfl) ⟨Nat.le_of_ble_eq_true rfl, Nat.le_of_ble_eq_true rfl⟩ ⟨Nat.zero_le _, Nat.zero_le _⟩ dX9_buyer_3 ?_
  refine g_iload_n hC 2 rfl rfl dX9_buyer_6 ?_
  refine g_iconst (v := 0) hC (by decide) dX9_buyer_7 ?_
  refine g_ldc (v := 100000000) hC wk_X9_122 dX9_buyer_8 ?_
  rcases gq_x2_i h with ⟨v5, M6, c7, h⟩ | ⟨k8, v5, M6, c7, hk8, h⟩
  rotate_left
  · exact g_SXo (as := [.int a2, .int 0, .int 100000000]) hC hZ htb (tx_X9_mustBeIn hl9 N _ _ _ _ _ _ _ c7) hk8 h ⟨rfl, rfl⟩ mS_X9_mustBeIn wm_X9_84 rfl rfl (Nat.le_of_ble_eq_true rfl) ⟨Nat.le_of_ble_eq_true rfl, Nat.le_of_ble_eq_true rfl⟩ dX9_buyer_10
  refine g_Sv (as := [.int a2, .int 0, .int 100000000]) hC (t_X9_mustBeIn N _ _ _ _ _ _ c7) mS_X9_mustBeIn wm_X9_84 rfl rfl (Nat.le_of_ble_eq_true rfl) ⟨Nat.le_of_ble_eq_true rfl, Nat.le_of_ble_eq_true rfl⟩ ⟨Nat.zero_le _, Nat.zero_le _⟩ dX9_buyer_10 ?_
  refine g_iload_n hC 3 rfl rfl dX9_buyer_13 ?_
  refine g_iconst (v := 1) hC (by decide) dX9_buyer_14 ?_
  refine g_bipush (v := 9) hC (by decide) dX9_buyer_15 ?_
  rcases gq_x2_i h with ⟨v9, M10, c11, h⟩ | ⟨k12, v9, M10, c11, hk12, h⟩
  rotate_left
  · exact g_SXo (as := [.int a3, .int 1, .int 9]) hC hZ htb (tx_X9_mustBeIn hl9 N _ _ _ _ _ _ _ c11) hk12 h ⟨rfl, rfl⟩ mS_X9_mustBeIn wm_X9_84 rfl rfl (Nat.le_of_ble_eq_true rfl) ⟨Nat.le_of_ble_eq_true rfl, Nat.le_of_ble_eq_true rfl⟩ dX9_buyer_17
  refine g_Sv (as := [.int a3, .int 1, .int 9]) hC (t_X9_mustBeIn N _ _ _ _ _ _ c11) mS_X9_mustBeIn wm_X9_84 rfl rfl (Nat.le_of_ble_eq_true rfl) ⟨Nat.le_of_ble_eq_true rfl, Nat.le_of_ble_eq_true rfl⟩ ⟨Nat.zero_le _, Nat.zero_le _⟩ dX9_buyer_17 ?_
  refine g_aload_n hC 0 rfl rfl dX9_buyer_20 ?_
  refine g_getR hC fF_X9_26 lkC_0_2 dX9_buyer_21 ?_
  refine g_getR hC fF_X9_123 lkC_23_1 dX9_buyer_24 ?_
  refine g_iload_n hC 1 rfl rfl dX9_buyer_27 ?_
  refine g_iload_n hC 3 rfl rfl dX9_buyer_28 ?_
  obtain ⟨v13, M14, c15, h⟩ := gq_b_i h
  refine g_Vv (as := [.int a1, .int a3]) hC (t_X8_put lkC_26_0 arC_27 N _ _ _ _ _ c15) mV_X8_put  wm_X9_104 obC_26 rfl rfl (Nat.le_of_ble_eq_true rfl) ⟨Nat.le_of_ble_eq_true rfl, Nat.le_of_ble_eq_true rfl⟩ ⟨Nat.zero_le _, Nat.zero_le _⟩ dX9_buyer_29 ?_
  refine g_aload_n hC 0 rfl rfl dX9_buyer_32 ?_
  refine g_getR hC fF_X9_26 lkC_0_2 dX9_buyer_33 ?_
  refine g_getR hC fF_X9_126 lkC_23_0 dX9_buyer_36 ?_
  refine g_iload_n hC 1 rfl rfl dX9_buyer_39 ?_
  refine g_iload_n hC 2 rfl rfl dX9_buyer_40 ?_
  obtain ⟨v16, M17, c18, h⟩ := gq_b_i h
  refine g_Vi (as := [.int a1, .int a2]) hC (t_X8_swap lkC_24_0 arC_25 N _ _ _ _ _ c18) mV_X8_swap  wm_X9_96 obC_24 rfl rfl (Nat.le_of_ble_eq_true rfl) ⟨Nat.le_of_ble_eq_true rfl, Nat.le_of_ble_eq_true rfl⟩ ⟨Nat.zero_le _, Nat.zero_le _⟩ dX9_buyer_41 ?_
  exact g_iretsX hC hr h dX9_buyer_44
def f_X9_power_34 (N : Nat) (s0 : Int32) (M : gq_M) : Option (Nat × Int32 × gq_M) :=
  gq_g (gq_bb s0) (some (0, s0, M))
set_option maxHeartbeats 1000000 in
set_option maxRecDepth 20000 in
theorem t_X9_power_34 {N : Nat} {ex9 : Nat} {v9 : Int32} {M9 : gq_M} (hl9 : l.stackTraces = false) (hZ : gq_Z A s) (htb : ∀ x ∈ c.exceptionTable.toList, False) (hC : gq_C p s m args meth c D A cI cZ ad mtC RX9 cX9_power 3) (hr : meth.sig.returnType = (some .boolean))   : ∀ (s0 : Int32) (M : gq_M), f_X9_power_34 N  s0 M = some (ex9, v9, M9) → gq_W p l e (gq_rx 7 ex9) s m args below meth c D A cI cZ ad mtC 3 (vx_MQ below (gq_Qix D cI cZ ad mtC ex9 v9 M9 A) (gq_XC D cI cZ ad mtC ex9 M9 A) args s (gq_xc ex9) (gq_xs ex9) A) 34 [] [.int s0] M 0 0 := by
  intro s0 M h
  unfold f_X9_power_34 at h
  obtain ⟨g10, h⟩ := gq_g_i h
  exact g_zretsX hC hr (gq_bb_i g10) h dX9_power_34
def f_X9_power_22 (N : Nat) (s1 : Int32) (s2 : Int32) (M : gq_M) : Option (Nat × Int32 × gq_M) :=
  gq_b (f_X8_swap 92 3 N s1 s2 M) fun v6 M7 => if v6 = 1 then (f_X9_power_34 N  1 M7) else (f_X9_power_34 N  0 M7)
set_option maxHeartbeats 1000000 in
set_option maxRecDepth 20000 in
theorem t_X9_power_22 {N : Nat} {ex9 : Nat} {v9 : Int32} {M9 : gq_M} (hl9 : l.stackTraces = false) (hZ : gq_Z A s) (htb : ∀ x ∈ c.exceptionTable.toList, False) (hC : gq_C p s m args meth c D A cI cZ ad mtC RX9 cX9_power 3) (hr : meth.sig.returnType = (some .boolean))   : ∀ (s1 : Int32) (s2 : Int32) (M : gq_M), f_X9_power_22 N  s1 s2 M = some (ex9, v9, M9) → gq_W p l e (gq_rx 7 ex9) s m args below meth c D A cI cZ ad mtC 3 (vx_MQ below (gq_Qix D cI cZ ad mtC ex9 v9 M9 A) (gq_XC D cI cZ ad mtC ex9 M9 A) args s (gq_xc ex9) (gq_xs ex9) A) 22 [] [.int s2, .int s1, .ref (ad 91)] M 0 0 := by
  intro s1 s2 M h
  unfold f_X9_power_22 at h
  obtain ⟨v6, M7, c8, h⟩ := gq_b_i h
  refine g_Vi (as := [.int s1, .int s2]) hC (t_X8_swap lkC_91_0 arC_92 N _ _ _ _ _ c8) mV_X8_swap  wm_X9_96 obC_91 rfl rfl (Nat.le_of_ble_eq_true rfl) ⟨Nat.le_of_ble_eq_true rfl, Nat.le_of_ble_eq_true rfl⟩ ⟨Nat.zero_le _, Nat.zero_le _⟩ dX9_power_22 ?_
  refine g_iconst (v := 1) hC (by decide) dX9_power_25 ?_
  refine g_icmp_ne (tgt := 33) hC (by decide) dX9_power_26 (fun c9 => ?_) (fun c9 => ?_)
  · replace h := gq_f c9 h
    refine g_iconst (v := 0) hC (by decide) dX9_power_33 ?_
    exact g_weak [] rfl (t_X9_power_34 hl9 hZ htb hC hr  0 M7 h)
  · replace h := gq_t c9 h
    refine g_iconst (v := 1) hC (by decide) dX9_power_29 ?_
    refine g_goto (tgt := 34) hC (by decide) dX9_power_30 ?_
    exact g_weak [] rfl (t_X9_power_34 hl9 hZ htb hC hr  1 M7 h)
def f_X9_power (N : Nat) (a1 : Int32) (a2 : Int32) (M : gq_M) : Option (Nat × Int32 × gq_M) :=
  gq_x2 (f_X9_mustExist N a1 3 M) (fx_X9_mustExist N a1 3 M) fun v1 M2 => if a2 = 0 then (f_X9_power_22 N  a1 0 M2) else (f_X9_power_22 N  a1 1 M2)
set_option maxHeartbeats 1000000 in
set_option maxRecDepth 20000 in
theorem t_X9_power {l : Launch} (hl9 : l.stackTraces = false) {D : va_G} {cI cZ : ClassId} {ad : Nat → Nat} (N : Nat) (a1 : Int32) (a2 : Int32) (M : gq_M) (ex9 : Nat) (v9 : Int32) (M9 : gq_M) (h : f_X9_power N a1 a2 M = some (ex9, v9, M9)) : gq_Xi l D cI cZ ad mtC yX9_power cX9_power 3 (some .boolean) 7 [.ref (ad 0), .int a1, .int a2] M ex9 v9 M9 := by
  refine gq_introXi (own := RX9) (v := v9) (by decide) rfl (Nat.le_of_ble_eq_true rfl) ?_
  intro p e s m below meth c hC hr hZ htb
  refine g_cast (L2 := [(0, .ref (ad 0)), (1, .int a1), (2, .int a2)]) ?_ rfl rfl rfl rfl
  unfold f_X9_power at h
  refine g_iload_n hC 1 rfl rfl dX9_power_0 ?_
  refine g_iconst (v := 3) hC (by decide) dX9_power_1 ?_
  rcases gq_x2_i h with ⟨v1, M2, c3, h⟩ | ⟨k4, v1, M2, c3, hk4, h⟩
  rotate_left
  · exact g_SXo (as := [.int a1, .int 3]) hC hZ htb (tx_X9_mustExist hl9 N _ _ _ _ _ _ c3) hk4 h ⟨rfl, rfl⟩ mS_X9_mustExist wm_X9_79 rfl rfl (Nat.le_of_ble_eq_true rfl) ⟨Nat.le_of_ble_eq_true rfl, Nat.le_of_ble_eq_true rfl⟩ dX9_power_2
  refine g_Sv (as := [.int a1, .int 3]) hC (t_X9_mustExist N _ _ _ _ _ c3) mS_X9_mustExist wm_X9_79 rfl rfl (Nat.le_of_ble_eq_true rfl) ⟨Nat.le_of_ble_eq_true rfl, Nat.le_of_ble_eq_true rfl⟩ ⟨Nat.zero_le _, Nat.zero_le _⟩ dX9_power_2 ?_
  refine g_aload_n hC 0 rfl rfl dX9_power_5 ?_
  refine g_getR hC fF_X9_47 lkC_0_5 dX9_power_6 ?_
  refine g_getR hC fF_X9_129 lkC_76_7 dX9_power_9 ?_
  refine g_iload_n hC 1 rfl rfl dX9_power_12 ?_
  refine g_iload_n hC 2 rfl rfl dX9_power_13 ?_
  refine g_if_eq (tgt := 21) hC (by decide) dX9_power_14 (fun c5 => ?_) (fun c5 => ?_)
  · replace h := gq_t c5 h
    refine g_iconst (v := 0) hC (by decide) dX9_power_21 ?_
    exact g_weak [] rfl (t_X9_power_22 hl9 hZ htb hC hr  a1 0 M2 h)
  · replace h := gq_f c5 h
    refine g_iconst (v := 1) hC (by decide) dX9_power_17 ?_
    refine g_goto (tgt := 22) hC (by decide) dX9_power_18 ?_
    exact g_weak [] rfl (t_X9_power_22 hl9 hZ htb hC hr  a1 1 M2 h)
def f_X9_line_35 (N : Nat) (s0 : Int32) (M : gq_M) : Option (Nat × Int32 × gq_M) :=
  gq_g (gq_bb s0) (some (0, s0, M))
set_option maxHeartbeats 1000000 in
set_option maxRecDepth 20000 in
theorem t_X9_line_35 {N : Nat} {ex9 : Nat} {v9 : Int32} {M9 : gq_M} (hl9 : l.stackTraces = false) (hZ : gq_Z A s) (htb : ∀ x ∈ c.exceptionTable.toList, False) (hC : gq_C p s m args meth c D A cI cZ ad mtC RX9 cX9_line 3) (hr : meth.sig.returnType = (some .boolean))   : ∀ (s0 : Int32) (M : gq_M), f_X9_line_35 N  s0 M = some (ex9, v9, M9) → gq_W p l e (gq_rx 7 ex9) s m args below meth c D A cI cZ ad mtC 3 (vx_MQ below (gq_Qix D cI cZ ad mtC ex9 v9 M9 A) (gq_XC D cI cZ ad mtC ex9 M9 A) args s (gq_xc ex9) (gq_xs ex9) A) 35 [] [.int s0] M 0 0 := by
  intro s0 M h
  unfold f_X9_line_35 at h
  obtain ⟨g10, h⟩ := gq_g_i h
  exact g_zretsX hC hr (gq_bb_i g10) h dX9_line_35
def f_X9_line_23 (N : Nat) (s1 : Int32) (s2 : Int32) (M : gq_M) : Option (Nat × Int32 × gq_M) :=
  gq_b (f_X8_swap 33 8 N s1 s2 M) fun v6 M7 => if v6 = 1 then (f_X9_line_35 N  1 M7) else (f_X9_line_35 N  0 M7)
set_option maxHeartbeats 1000000 in
set_option maxRecDepth 20000 in
theorem t_X9_line_23 {N : Nat} {ex9 : Nat} {v9 : Int32} {M9 : gq_M} (hl9 : l.stackTraces = false) (hZ : gq_Z A s) (htb : ∀ x ∈ c.exceptionTable.toList, False) (hC : gq_C p s m args meth c D A cI cZ ad mtC RX9 cX9_line 3) (hr : meth.sig.returnType = (some .boolean))   : ∀ (s1 : Int32) (s2 : Int32) (M : gq_M), f_X9_line_23 N  s1 s2 M = some (ex9, v9, M9) → gq_W p l e (gq_rx 7 ex9) s m args below meth c D A cI cZ ad mtC 3 (vx_MQ below (gq_Qix D cI cZ ad mtC ex9 v9 M9 A) (gq_XC D cI cZ ad mtC ex9 M9 A) args s (gq_xc ex9) (gq_xs ex9) A) 23 [] [.int s2, .int s1, .ref (ad 32)] M 0 0 := by
  intro s1 s2 M h
  unfold f_X9_line_23 at h
  obtain ⟨v6, M7, c8, h⟩ := gq_b_i h
  refine g_Vi (as := [.int s1, .int s2]) hC (t_X8_swap lkC_32_0 arC_33 N _ _ _ _ _ c8) mV_X8_swap  wm_X9_96 obC_32 rfl rfl (Nat.le_of_ble_eq_true rfl) ⟨Nat.le_of_ble_eq_true rfl, Nat.le_of_ble_eq_true rfl⟩ ⟨Nat.zero_le _, Nat.zero_le _⟩ dX9_line_23 ?_
  refine g_iconst (v := 1) hC (by decide) dX9_line_26 ?_
  refine g_icmp_ne (tgt := 34) hC (by decide) dX9_line_27 (fun c9 => ?_) (fun c9 => ?_)
  · replace h := gq_f c9 h
    refine g_iconst (v := 0) hC (by decide) dX9_line_34 ?_
    exact g_weak [] rfl (t_X9_line_35 hl9 hZ htb hC hr  0 M7 h)
  · replace h := gq_t c9 h
    refine g_iconst (v := 1) hC (by decide) dX9_line_30 ?_
    refine g_goto (tgt := 35) hC (by decide) dX9_line_31 ?_
    exact g_weak [] rfl (t_X9_line_35 hl9 hZ htb hC hr  1 M7 h)
def f_X9_line (N : Nat) (a1 : Int32) (a2 : Int32) (M : gq_M) : Option (Nat × Int32 × gq_M) :=
  gq_x2 (f_X9_mustExist N a1 8 M) (fx_X9_mustExist N a1 8 M) fun v1 M2 => if a2 = 0 then (f_X9_line_23 N  a1 0 M2) else (f_X9_line_23 N  a1 1 M2)
set_option maxHeartbeats 1000000 in
set_option maxRecDepth 20000 in
theorem t_X9_line {l : Launch} (hl9 : l.stackTraces = false) {D : va_G} {cI cZ : ClassId} {ad : Nat → Nat} (N : Nat) (a1 : Int32) (a2 : Int32) (M : gq_M) (ex9 : Nat) (v9 : Int32) (M9 : gq_M) (h : f_X9_line N a1 a2 M = some (ex9, v9, M9)) : gq_Xi l D cI cZ ad mtC yX9_line cX9_line 3 (some .boolean) 7 [.ref (ad 0), .int a1, .int a2] M ex9 v9 M9 := by
  refine gq_introXi (own := RX9) (v := v9) (by decide) rfl (Nat.le_of_ble_eq_true rfl) ?_
  intro p e s m below meth c hC hr hZ htb
  refine g_cast (L2 := [(0, .ref (ad 0)), (1, .int a1), (2, .int a2)]) ?_ rfl rfl rfl rfl
  unfold f_X9_line at h
  refine g_iload_n hC 1 rfl rfl dX9_line_0 ?_
  refine g_bipush (v := 8) hC (by decide) dX9_line_1 ?_
  rcases gq_x2_i h with ⟨v1, M2, c3, h⟩ | ⟨k4, v1, M2, c3, hk4, h⟩
  rotate_left
  · exact g_SXo (as := [.int a1, .int 8]) hC hZ htb (tx_X9_mustExist hl9 N _ _ _ _ _ _ c3) hk4 h ⟨rfl, rfl⟩ mS_X9_mustExist wm_X9_79 rfl rfl (Nat.le_of_ble_eq_true rfl) ⟨Nat.le_of_ble_eq_true rfl, Nat.le_of_ble_eq_true rfl⟩ dX9_line_3
  refine g_Sv (as := [.int a1, .int 8]) hC (t_X9_mustExist N _ _ _ _ _ c3) mS_X9_mustExist wm_X9_79 rfl rfl (Nat.le_of_ble_eq_true rfl) ⟨Nat.le_of_ble_eq_true rfl, Nat.le_of_ble_eq_true rfl⟩ ⟨Nat.zero_le _, Nat.zero_le _⟩ dX9_line_3 ?_
  refine g_aload_n hC 0 rfl rfl dX9_line_6 ?_
  refine g_getR hC fF_X9_26 lkC_0_2 dX9_line_7 ?_
  refine g_getR hC fF_X9_132 lkC_23_4 dX9_line_10 ?_
  refine g_iload_n hC 1 rfl rfl dX9_line_13 ?_
  refine g_iload_n hC 2 rfl rfl dX9_line_14 ?_
  refine g_if_eq (tgt := 22) hC (by decide) dX9_line_15 (fun c5 => ?_) (fun c5 => ?_)
  · replace h := gq_t c5 h
    refine g_iconst (v := 0) hC (by decide) dX9_line_22 ?_
    exact g_weak [] rfl (t_X9_line_23 hl9 hZ htb hC hr  a1 0 M2 h)
  · replace h := gq_f c5 h
    refine g_iconst (v := 1) hC (by decide) dX9_line_18 ?_
    refine g_goto (tgt := 23) hC (by decide) dX9_line_19 ?_
    exact g_weak [] rfl (t_X9_line_23 hl9 hZ htb hC hr  a1 1 M2 h)
def f_X9_land_90 (N : Nat) (x1 : Int32) (x2 : Int32) (x3 : Int32) (x4 : Int32) (x5 : Int32) (x6 : Int32) (s0 : Int32) (M : gq_M) : Option (Nat × Int32 × gq_M) :=
  gq_b (f_X1_rankOf N x2 x3 x4 M) fun v37 M38 => gq_b (f_X1_add N x1 v37 x5 x6 s0 M38) fun v40 M41 => some (0, v40, M41)
set_option maxHeartbeats 1000000 in
set_option maxRecDepth 20000 in
theorem t_X9_land_90 {N : Nat} {ex9 : Nat} {v9 : Int32} {M9 : gq_M} (hl9 : l.stackTraces = false) (hZ : gq_Z A s) (htb : ∀ x ∈ c.exceptionTable.toList, False) (hC : gq_C p s m args meth c D A cI cZ ad mtC RX9 cX9_land 8) (hr : meth.sig.returnType = (some .int))   : ∀ (x1 : Int32) (x2 : Int32) (x3 : Int32) (x4 : Int32) (x5 : Int32) (x6 : Int32) (s0 : Int32) (M : gq_M), f_X9_land_90 N  x1 x2 x3 x4 x5 x6 s0 M = some (ex9, v9, M9) → gq_W p l e (gq_rx 7 ex9) s m args below meth c D A cI cZ ad mtC 8 (vx_MQ below (gq_Qix D cI cZ ad mtC ex9 v9 M9 A) (gq_XC D cI cZ ad mtC ex9 M9 A) args s (gq_xc ex9) (gq_xs ex9) A) 90 [(0, .ref (ad 0)), (1, .int x1), (2, .int x2), (3, .int x3), (4, .int x4), (5, .int x5), (6, .int x6)] [.int s0] M 0 0 := by
  intro x1 x2 x3 x4 x5 x6 s0 M h
  unfold f_X9_land_90 at h
  refine g_istore (L2 := [(7, .int s0), (0, .ref (ad 0)), (1, .int x1), (2, .int x2), (3, .int x3), (4, .int x4), (5, .int x5), (6, .int x6)]) hC (by decide) rfl dX9_land_90 ?_
  refine g_aload_n hC 1 rfl rfl dX9_land_92 ?_
  refine g_getR hC fF_X9_33 lkC_0_3 dX9_land_93 ?_
  refine g_iload_n hC 2 rfl rfl dX9_land_96 ?_
  refine g_iload_n hC 3 rfl rfl dX9_land_97 ?_
  refine g_iload_n hC 4 rfl rfl dX9_land_98 ?_
  refine g_iload hC 5 rfl dX9_land_99 ?_
  obtain ⟨v37, M38, c39, h⟩ := gq_b_i h
  refine g_Si (as := [.int x2, .int x3, .int x4]) hC (t_X1_rankOf N _ _ _ _ _ _ c39) mS_X1_rankOf wm_X9_149 rfl rfl (Nat.le_of_ble_eq_true rfl) ⟨Nat.le_of_ble_eq_true rfl, Nat.le_of_ble_eq_true rfl⟩ ⟨Nat.zero_le _, Nat.zero_le _⟩ dX9_land_101 ?_
  refine g_iload hC 6 rfl dX9_land_104 ?_
  refine g_iload hC 7 rfl dX9_land_106 ?_
  refine g_iload hC 0 rfl dX9_land_108 ?_
  obtain ⟨v40, M41, c42, h⟩ := gq_b_i h
  refine g_Vi (as := [.int x1, .int v37, .int x5, .int x6, .int s0]) hC (t_X1_add N _ _ _ _ _ _ _ _ c42) mV_X1_add  wm_X9_153 obC_34 rfl rfl (Nat.le_of_ble_eq_true rfl) ⟨Nat.le_of_ble_eq_true rfl, Nat.le_of_ble_eq_true rfl⟩ ⟨Nat.zero_le _, Nat.zero_le _⟩ dX9_land_110 ?_
  exact g_iretsX hC hr h dX9_land_113
def f_X9_land_59 (N : Nat) (x1 : Int32) (x2 : Int32) (x3 : Int32) (x4 : Int32) (x5 : Int32) (x6 : Int32) (s0 : Int32) (M : gq_M) : Option (Nat × Int32 × gq_M) :=
  gq_x2 (f_X9_mustHold N s0 M) (fx_X9_mustHold N s0 M) fun v26 M27 => gq_b (f_X0_addLanded N x1 x2 x5 M27) fun v30 M31 => gq_b (f_X0_isAboveQuota N x1 x2 M31) fun v33 M34 => if v33 = 0 then (f_X9_land_90 N  x1 x2 x3 x4 x5 x6 0 M34) else (f_X9_land_90 N  x1 x2 x3 x4 x5 x6 1 M34)
set_option maxHeartbeats 1000000 in
set_option maxRecDepth 20000 in
theorem t_X9_land_59 {N : Nat} {ex9 : Nat} {v9 : Int32} {M9 : gq_M} (hl9 : l.stackTraces = false) (hZ : gq_Z A s) (htb : ∀ x ∈ c.exceptionTable.toList, False) (hC : gq_C p s m args meth c D A cI cZ ad mtC RX9 cX9_land 8) (hr : meth.sig.returnType = (some .int))   : ∀ (x1 : Int32) (x2 : Int32) (x3 : Int32) (x4 : Int32) (x5 : Int32) (x6 : Int32) (s0 : Int32) (M : gq_M), f_X9_land_59 N  x1 x2 x3 x4 x5 x6 s0 M = some (ex9, v9, M9) → gq_W p l e (gq_rx 7 ex9) s m args below meth c D A cI cZ ad mtC 8 (vx_MQ below (gq_Qix D cI cZ ad mtC ex9 v9 M9 A) (gq_XC D cI cZ ad mtC ex9 M9 A) args s (gq_xc ex9) (gq_xs ex9) A) 59 [(0, .ref (ad 0)), (1, .int x1), (2, .int x2), (3, .int x3), (4, .int x4), (5, .int x5), (6, .int x6)] [.int s0] M 0 0 := by
  intro x1 x2 x3 x4 x5 x6 s0 M h
  unfold f_X9_land_59 at h
  rcases gq_x2_i h with ⟨v26, M27, c28, h⟩ | ⟨k29, v26, M27, c28, hk29, h⟩
  rotate_left
  · exact g_SXo (as := [.int s0]) hC hZ htb (tx_X9_mustHold hl9 N _ _ _ _ _ c28) hk29 h ⟨rfl, rfl⟩ mS_X9_mustHold wm_X9_138 rfl rfl (Nat.le_of_ble_eq_true rfl) ⟨Nat.le_of_ble_eq_true rfl, Nat.le_of_ble_eq_true rfl⟩ dX9_land_59
  refine g_Sv (as := [.int s0]) hC (t_X9_mustHold N _ _ _ _ c28) mS_X9_mustHold wm_X9_138 rfl rfl (Nat.le_of_ble_eq_true rfl) ⟨Nat.le_of_ble_eq_true rfl, Nat.le_of_ble_eq_true rfl⟩ ⟨Nat.zero_le _, Nat.zero_le _⟩ dX9_land_59 ?_
  refine g_aload_n hC 0 rfl rfl dX9_land_62 ?_
  refine g_getR hC fF_X9_10 lkC_0_0 dX9_land_63 ?_
  refine g_iload_n hC 1 rfl rfl dX9_land_66 ?_
  refine g_iload_n hC 2 rfl rfl dX9_land_67 ?_
  refine g_iload hC 5 rfl dX9_land_68 ?_
  obtain ⟨v30, M31, c32, h⟩ := gq_b_i h
  refine g_Vv (as := [.int x1, .int x2, .int x5]) hC (t_X0_addLanded N _ _ _ _ _ _ c32) mV_X0_addLanded  wm_X9_142 obC_1 rfl rfl (Nat.le_of_ble_eq_true rfl) ⟨Nat.le_of_ble_eq_true rfl, Nat.le_of_ble_eq_true rfl⟩ ⟨Nat.zero_le _, Nat.zero_le _⟩ dX9_land_70 ?_
  refine g_aload_n hC 0 rfl rfl dX9_land_73 ?_
  refine g_getR hC fF_X9_10 lkC_0_0 dX9_land_74 ?_
  refine g_iload_n hC 1 rfl rfl dX9_land_77 ?_
  refine g_iload_n hC 2 rfl rfl dX9_land_78 ?_
  obtain ⟨v33, M34, c35, h⟩ := gq_b_i h
  refine g_Vi (as := [.int x1, .int x2]) hC (t_X0_isAboveQuota N _ _ _ _ _ c35) mV_X0_isAboveQuota  wm_X9_145 obC_1 rfl rfl (Nat.le_of_ble_eq_true rfl) ⟨Nat.le_of_ble_eq_true rfl, Nat.le_of_ble_eq_true rfl⟩ ⟨Nat.zero_le _, Nat.zero_le _⟩ dX9_land_79 ?_
  refine g_if_eq (tgt := 89) hC (by decide) dX9_land_82 (fun c36 => ?_) (fun c36 => ?_)
  · replace h := gq_t c36 h
    refine g_iconst (v := 0) hC (by decide) dX9_land_89 ?_
    exact g_weak [0, 1, 2, 3, 4, 5, 6] rfl (t_X9_land_90 hl9 hZ htb hC hr  x1 x2 x3 x4 x5 x6 0 M34 h)
  · replace h := gq_f c36 h
    refine g_iconst (v := 1) hC (by decide) dX9_land_85 ?_
    refine g_goto (tgt := 90) hC (by decide) dX9_land_86 ?_
    exact g_weak [0, 1, 2, 3, 4, 5, 6] rfl (t_X9_land_90 hl9 hZ htb hC hr  x1 x2 x3 x4 x5 x6 1 M34 h)
def f_X9_land (N : Nat) (a1 : Int32) (a2 : Int32) (a3 : Int32) (a4 : Int32) (a5 : Int32) (a6 : Int32) (M : gq_M) : Option (Nat × Int32 × gq_M) :=
  gq_x2 (f_X9_mustExist N a1 8 M) (fx_X9_mustExist N a1 8 M) fun v1 M2 => gq_x2 (f_X9_mustExist N a2 4 M2) (fx_X9_mustExist N a2 4 M2) fun v5 M6 => gq_x2 (f_X9_mustBeIn N a3 0 2 M6) (fx_X9_mustBeIn N a3 0 2 M6) fun v9 M10 => gq_x2 (f_X9_mustBeIn N a4 1 9 M10) (fx_X9_mustBeIn N a4 1 9 M10) fun v13 M14 => gq_x2 (f_X9_mustBeIn N a5 1 100 M14) (fx_X9_mustBeIn N a5 1 100 M14) fun v17 M18 => gq_x2 (f_X9_mustBeIn N a6 1 100 M18) (fx_X9_mustBeIn N a6 1 100 M18) fun v21 M22 => if 150 ≤ (M22 34 13) then (f_X9_land_59 N  a1 a2 a3 a4 a5 a6 0 M22) else (f_X9_land_59 N  a1 a2 a3 a4 a5 a6 1 M22)
set_option maxHeartbeats 1000000 in
set_option maxRecDepth 20000 in
theorem t_X9_land {l : Launch} (hl9 : l.stackTraces = false) {D : va_G} {cI cZ : ClassId} {ad : Nat → Nat} (N : Nat) (a1 : Int32) (a2 : Int32) (a3 : Int32) (a4 : Int32) (a5 : Int32) (a6 : Int32) (M : gq_M) (ex9 : Nat) (v9 : Int32) (M9 : gq_M) (h : f_X9_land N a1 a2 a3 a4 a5 a6 M = some (ex9, v9, M9)) : gq_Xi l D cI cZ ad mtC yX9_land cX9_land 8 (some .int) 7 [.ref (ad 0), .int a1, .int a2, .int a3, .int a4, .int a5, .int a6] M ex9 v9 M9 := by
  refine gq_introXi (own := RX9) (v := v9) (by decide) rfl (Nat.le_of_ble_eq_true rfl) ?_
  intro p e s m below meth c hC hr hZ htb
  refine g_cast (L2 := [(0, .ref (ad 0)), (1, .int a1), (2, .int a2), (3, .int a3), (4, .int a4), (5, .int a5), (6, .int a6)]) ?_ rfl rfl rfl rfl
  unfold f_X9_land at h
  refine g_iload_n hC 1 rfl rfl dX9_land_0 ?_
  refine g_bipush (v := 8) hC (by decide) dX9_land_1 ?_
  rcases gq_x2_i h with ⟨v1, M2, c3, h⟩ | ⟨k4, v1, M2, c3, hk4, h⟩
  rotate_left
  · exact g_SXo (as := [.int a1, .int 8]) hC hZ htb (tx_X9_mustExist hl9 N _ _ _ _ _ _ c3) hk4 h ⟨rfl, rfl⟩ mS_X9_mustExist wm_X9_79 rfl rfl (Nat.le_of_ble_eq_true rfl) ⟨Nat.le_of_ble_eq_true rfl, Nat.le_of_ble_eq_true rfl⟩ dX9_land_3
  refine g_Sv (as := [.int a1, .int 8]) hC (t_X9_mustExist N _ _ _ _ _ c3) mS_X9_mustExist wm_X9_79 rfl rfl (Nat.le_of_ble_eq_true rfl) ⟨Nat.le_of_ble_eq_true rfl, Nat.le_of_ble_eq_true rfl⟩ ⟨Nat.zero_le _, Nat.zero_le _⟩ dX9_land_3 ?_
  refine g_iload_n hC 2 rfl rfl dX9_land_6 ?_
  refine g_iconst (v := 4) hC (by decide) dX9_land_7 ?_
  rcases gq_x2_i h with ⟨v5, M6, c7, h⟩ | ⟨k8, v5, M6, c7, hk8, h⟩
  rotate_left
  · exact g_SXo (as := [.int a2, .int 4]) hC hZ htb (tx_X9_mustExist hl9 N _ _ _ _ _ _ c7) hk8 h ⟨rfl, rfl⟩ mS_X9_mustExist wm_X9_79 rfl rfl (Nat.le_of_ble_eq_true rfl) ⟨Nat.le_of_ble_eq_true rfl, Nat.le_of_ble_eq_true rfl⟩ dX9_land_8
  refine g_Sv (as := [.int a2, .int 4]) hC (t_X9_mustExist N _ _ _ _ _ c7) mS_X9_mustExist wm_X9_79 rfl rfl (Nat.le_of_ble_eq_true rfl) ⟨Nat.le_of_ble_eq_true rfl, Nat.le_of_ble_eq_true rfl⟩ ⟨Nat.zero_le _, Nat.zero_le _⟩ dX9_land_8 ?_
  refine g_iload_n hC 3 rfl rfl dX9_land_11 ?_
  refine g_iconst (v := 0) hC (by decide) dX9_land_12 ?_
  refine g_iconst (v := 2) hC (by decide) dX9_land_13 ?_
  rcases gq_x2_i h with ⟨v9, M10, c11, h⟩ | ⟨k12, v9, M10, c11, hk12, h⟩
  rotate_left
  · exact g_SXo (as := [.int a3, .int 0, .int 2]) hC hZ htb (tx_X9_mustBeIn hl9 N _ _ _ _ _ _ _ c11) hk12 h ⟨rfl, rfl⟩ mS_X9_mustBeIn wm_X9_84 rfl rfl (Nat.le_of_ble_eq_true rfl) ⟨Nat.le_of_ble_eq_true rfl, Nat.le_of_ble_eq_true rfl⟩ dX9_land_14
  refine g_Sv (as := [.int a3, .int 0, .int 2]) hC (t_X9_mustBeIn N _ _ _ _ _ _ c11) mS_X9_mustBeIn wm_X9_84 rfl rfl (Nat.le_of_ble_eq_true rfl) ⟨Nat.le_of_ble_eq_true rfl, Nat.le_of_ble_eq_true rfl⟩ ⟨Nat.zero_le _, Nat.zero_le _⟩ dX9_land_14 ?_
  refine g_iload hC 4 rfl dX9_land_17 ?_
  refine g_iconst (v := 1) hC (by decide) dX9_land_19 ?_
  refine g_bipush (v := 9) hC (by decide) dX9_land_20 ?_
  rcases gq_x2_i h with ⟨v13, M14, c15, h⟩ | ⟨k16, v13, M14, c15, hk16, h⟩
  rotate_left
  · exact g_SXo (as := [.int a4, .int 1, .int 9]) hC hZ htb (tx_X9_mustBeIn hl9 N _ _ _ _ _ _ _ c15) hk16 h ⟨rfl, rfl⟩ mS_X9_mustBeIn wm_X9_84 rfl rfl (Nat.le_of_ble_eq_true rfl) ⟨Nat.le_of_ble_eq_true rfl, Nat.le_of_ble_eq_true rfl⟩ dX9_land_22
  refine g_Sv (as := [.int a4, .int 1, .int 9]) hC (t_X9_mustBeIn N _ _ _ _ _ _ c15) mS_X9_mustBeIn wm_X9_84 rfl rfl (Nat.le_of_ble_eq_true rfl) ⟨Nat.le_of_ble_eq_true rfl, Nat.le_of_ble_eq_true rfl⟩ ⟨Nat.zero_le _, Nat.zero_le _⟩ dX9_land_22 ?_
  refine g_iload hC 5 rfl dX9_land_25 ?_
  refine g_iconst (v := 1) hC (by decide) dX9_land_27 ?_
  refine g_bipush (v := 100) hC (by decide) dX9_land_28 ?_
  rcases gq_x2_i h with ⟨v17, M18, c19, h⟩ | ⟨k20, v17, M18, c19, hk20, h⟩
  rotate_left
  · exact g_SXo (as := [.int a5, .int 1, .int 100]) hC hZ htb (tx_X9_mustBeIn hl9 N _ _ _ _ _ _ _ c19) hk20 h ⟨rfl, rfl⟩ mS_X9_mustBeIn wm_X9_84 rfl rfl (Nat.le_of_ble_eq_true rfl) ⟨Nat.le_of_ble_eq_true rfl, Nat.le_of_ble_eq_true rfl⟩ dX9_land_30
  refine g_Sv (as := [.int a5, .int 1, .int 100]) hC (t_X9_mustBeIn N _ _ _ _ _ _ c19) mS_X9_mustBeIn wm_X9_84 rfl rfl (Nat.le_of_ble_eq_true rfl) ⟨Nat.le_of_ble_eq_true rfl, Nat.le_of_ble_eq_true rfl⟩ ⟨Nat.zero_le _, Nat.zero_le _⟩ dX9_land_30 ?_
  refine g_iload hC 6 rfl dX9_land_33 ?_
  refine g_iconst (v := 1) hC (by decide) dX9_land_35 ?_
  refine g_bipush (v := 100) hC (by decide) dX9_land_36 ?_
  rcases gq_x2_i h with ⟨v21, M22, c23, h⟩ | ⟨k24, v21, M22, c23, hk24, h⟩
  rotate_left
  · exact g_SXo (as := [.int a6, .int 1, .int 100]) hC hZ htb (tx_X9_mustBeIn hl9 N _ _ _ _ _ _ _ c23) hk24 h ⟨rfl, rfl⟩ mS_X9_mustBeIn wm_X9_84 rfl rfl (Nat.le_of_ble_eq_true rfl) ⟨Nat.le_of_ble_eq_true rfl, Nat.le_of_ble_eq_true rfl⟩ dX9_land_38
  refine g_Sv (as := [.int a6, .int 1, .int 100]) hC (t_X9_mustBeIn N _ _ _ _ _ _ c23) mS_X9_mustBeIn wm_X9_84 rfl rfl (Nat.le_of_ble_eq_true rfl) ⟨Nat.le_of_ble_eq_true rfl, Nat.le_of_ble_eq_true rfl⟩ ⟨Nat.zero_le _, Nat.zero_le _⟩ dX9_land_38 ?_
  refine g_aload_n hC 0 rfl rfl dX9_land_41 ?_
  refine g_getR hC fF_X9_33 lkC_0_3 dX9_land_42 ?_
  refine g_getI hC fF_X9_135 lkC_34_13 dX9_land_45 ?_
  refine g_sipush (v := 150) hC (by decide) dX9_land_48 ?_
  refine g_icmp_ge (tgt := 58) hC (by decide) dX9_land_51 (fun c25 => ?_) (fun c25 => ?_)
  · replace h := gq_t c25 h
    refine g_iconst (v := 0) hC (by decide) dX9_land_58 ?_
    exact g_weak [0, 1, 2, 3, 4, 5, 6] rfl (t_X9_land_59 hl9 hZ htb hC hr  a1 a2 a3 a4 a5 a6 0 M22 h)
  · replace h := gq_f c25 h
    refine g_iconst (v := 1) hC (by decide) dX9_land_54 ?_
    refine g_goto (tgt := 59) hC (by decide) dX9_land_55 ?_
    exact g_weak [0, 1, 2, 3, 4, 5, 6] rfl (t_X9_land_59 hl9 hZ htb hC hr  a1 a2 a3 a4 a5 a6 1 M22 h)
def f_X9_open_46_b (N : Nat) (kh46 : Int32 → gq_M → Option (Nat × Int32 × gq_M)) (x1 : Int32) (M : gq_M) : Option (Nat × Int32 × gq_M) :=
  if 3 ≤ x1 then (some (0, (M 61 7), M)) else (gq_b (f_X6_countIn N x1 M) fun v21 M22 => gq_b (f_X8_put 86 3 N x1 v21 M22) fun v24 M25 => gq_b (f_X6_nextIn N x1 (-1) M25) fun v27 M28 => gq_b (f_X9_bringToClock N x1 v27 M28) fun v30 M31 => gq_b (f_X9_beginRound N x1 M31) fun v33 M34 => kh46 (x1 + 1) M34)
def f_X9_open_46 (N : Nat) : Nat → Int32 → gq_M → Option (Nat × Int32 × gq_M)
  | 0 => fun _ _ => none
  | n9 + 1 => f_X9_open_46_b N  (f_X9_open_46 N  n9)
set_option maxHeartbeats 1000000 in
set_option maxRecDepth 20000 in
theorem t_X9_open_46_b {N : Nat} {kh46 : Int32 → gq_M → Option (Nat × Int32 × gq_M)} {ex9 : Nat} {v9 : Int32} {M9 : gq_M} (hl9 : l.stackTraces = false) (hZ : gq_Z A s) (htb : ∀ x ∈ c.exceptionTable.toList, False) (hC : gq_C p s m args meth c D A cI cZ ad mtC RX9 cX9_open 2) (hr : meth.sig.returnType = (some .int))  (hk46 : ∀ (x1 : Int32) (M : gq_M), kh46 x1 M = some (ex9, v9, M9) → gq_W p l e (gq_rx 7 ex9) s m args below meth c D A cI cZ ad mtC 2 (vx_MQ below (gq_Qix D cI cZ ad mtC ex9 v9 M9 A) (gq_XC D cI cZ ad mtC ex9 M9 A) args s (gq_xc ex9) (gq_xs ex9) A) 46 [(0, .ref (ad 0)), (1, .int x1)] [] M 0 0) : ∀ (x1 : Int32) (M : gq_M), f_X9_open_46_b N  kh46 x1 M = some (ex9, v9, M9) → gq_W p l e (gq_rx 7 ex9) s m args below meth c D A cI cZ ad mtC 2 (vx_MQ below (gq_Qix D cI cZ ad mtC ex9 v9 M9 A) (gq_XC D cI cZ ad mtC ex9 M9 A) args s (gq_xc ex9) (gq_xs ex9) A) 46 [(0, .ref (ad 0)), (1, .int x1)] [] M 0 0 := by
  intro x1 M h
  unfold f_X9_open_46_b at h
  refine g_iload_n hC 1 rfl rfl dX9_open_46 ?_
  refine g_iconst (v := 3) hC (by decide) dX9_open_47 ?_
  refine g_icmp_ge (tgt := 95) hC (by decide) dX9_open_48 (fun c20 => ?_) (fun c20 => ?_)
  · replace h := gq_t c20 h
    refine g_aload_n hC 0 rfl rfl dX9_open_95 ?_
    refine g_getR hC fF_X9_40 lkC_0_4 dX9_open_96 ?_
    refine g_getI hC fF_X9_184 lkC_61_7 dX9_open_99 ?_
    exact g_iretsX hC hr h dX9_open_102
  · replace h := gq_f c20 h
    refine g_aload_n hC 0 rfl rfl dX9_open_51 ?_
    refine g_getR hC fF_X9_47 lkC_0_5 dX9_open_52 ?_
    refine g_getR hC fF_X9_167 lkC_76_4 dX9_open_55 ?_
    refine g_iload_n hC 1 rfl rfl dX9_open_58 ?_
    refine g_aload_n hC 0 rfl rfl dX9_open_59 ?_
    refine g_getR hC fF_X9_40 lkC_0_4 dX9_open_60 ?_
    refine g_iload_n hC 1 rfl rfl dX9_open_63 ?_
    obtain ⟨v21, M22, c23, h⟩ := gq_b_i h
    refine g_Vi (as := [.int x1]) hC (t_X6_countIn N _ _ _ _ c23) mV_X6_countIn  wm_X9_170 obC_61 rfl rfl (Nat.le_of_ble_eq_true rfl) ⟨Nat.le_of_ble_eq_true rfl, Nat.le_of_ble_eq_true rfl⟩ ⟨Nat.zero_le _, Nat.zero_le _⟩ dX9_open_64 ?_
    obtain ⟨v24, M25, c26, h⟩ := gq_b_i h
    refine g_Vv (as := [.int x1, .int v21]) hC (t_X8_put lkC_85_0 arC_86 N _ _ _ _ _ c26) mV_X8_put  wm_X9_104 obC_85 rfl rfl (Nat.le_of_ble_eq_true rfl) ⟨Nat.le_of_ble_eq_true rfl, Nat.le_of_ble_eq_true rfl⟩ ⟨Nat.zero_le _, Nat.zero_le _⟩ dX9_open_67 ?_
    refine g_aload_n hC 0 rfl rfl dX9_open_70 ?_
    refine g_iload_n hC 1 rfl rfl dX9_open_71 ?_
    refine g_aload_n hC 0 rfl rfl dX9_open_72 ?_
    refine g_getR hC fF_X9_40 lkC_0_4 dX9_open_73 ?_
    refine g_iload_n hC 1 rfl rfl dX9_open_76 ?_
    refine g_iconst (v := (-1)) hC (by decide) dX9_open_77 ?_
    obtain ⟨v27, M28, c29, h⟩ := gq_b_i h
    refine g_Vi (as := [.int x1, .int (-1)]) hC (t_X6_nextIn N _ _ _ _ _ c29) mV_X6_nextIn  wm_X9_174 obC_61 rfl rfl (Nat.le_of_ble_eq_true rfl) ⟨Nat.le_of_ble_eq_true rfl, Nat.le_of_ble_eq_true rfl⟩ ⟨Nat.zero_le _, Nat.zero_le _⟩ dX9_open_78 ?_
    obtain ⟨v30, M31, c32, h⟩ := gq_b_i h
    refine g_Vv (as := [.int x1, .int v27]) hC (t_X9_bringToClock N _ _ _ _ _ c32) mV_X9_bringToClock  wm_X9_177 obC_0 rfl rfl (Nat.le_of_ble_eq_true rfl) ⟨Nat.le_of_ble_eq_true rfl, Nat.le_of_ble_eq_true rfl⟩ ⟨Nat.zero_le _, Nat.zero_le _⟩ dX9_open_81 ?_
    refine g_aload_n hC 0 rfl rfl dX9_open_84 ?_
    refine g_iload_n hC 1 rfl rfl dX9_open_85 ?_
    obtain ⟨v33, M34, c35, h⟩ := gq_b_i h
    refine g_Vv (as := [.int x1]) hC (t_X9_beginRound N _ _ _ _ c35) mV_X9_beginRound  wm_X9_180 obC_0 rfl rfl (Nat.le_of_ble_eq_true rfl) ⟨Nat.le_of_ble_eq_true rfl, Nat.le_of_ble_eq_true rfl⟩ ⟨Nat.zero_le _, Nat.zero_le _⟩ dX9_open_86 ?_
    refine g_iinc (v := (x1 + 1)) (L2 := [(1, .int (x1 + 1)), (0, .ref (ad 0))]) hC 1 rfl (by first | rfl | decide) (by decide) rfl dX9_open_89 ?_
    refine g_goto (tgt := 46) hC (by decide) dX9_open_92 ?_
    exact g_weak [1, 0] rfl (hk46 (x1 + 1) M34 h)
theorem t_X9_open_46 {N : Nat} {ex9 : Nat} {v9 : Int32} {M9 : gq_M} (hl9 : l.stackTraces = false) (hZ : gq_Z A s) (htb : ∀ x ∈ c.exceptionTable.toList, False) (hC : gq_C p s m args meth c D A cI cZ ad mtC RX9 cX9_open 2) (hr : meth.sig.returnType = (some .int))  : ∀ (n9 : Nat) (x1 : Int32) (M : gq_M), f_X9_open_46 N  n9 x1 M = some (ex9, v9, M9) → gq_W p l e (gq_rx 7 ex9) s m args below meth c D A cI cZ ad mtC 2 (vx_MQ below (gq_Qix D cI cZ ad mtC ex9 v9 M9 A) (gq_XC D cI cZ ad mtC ex9 M9 A) args s (gq_xc ex9) (gq_xs ex9) A) 46 [(0, .ref (ad 0)), (1, .int x1)] [] M 0 0 := by
  intro n9
  induction n9 with
  | zero => intro x1 M h; cases h
  | succ n9 ih => intro x1 M h; exact t_X9_open_46_b hl9 hZ htb hC hr  ih x1 M h
def f_X9_open_22 (N : Nat) (s0 : Int32) (M : gq_M) : Option (Nat × Int32 × gq_M) :=
  gq_x2 (f_X9_mustHold N s0 M) (fx_X9_mustHold N s0 M) fun v6 M7 => gq_l (gq_up M7 0 10 1) fun M10 => gq_b (f_X9_countWaitingBoxes N  M10) fun v11 M12 => gq_b (f_X9_offerBoats N 1 M12) fun v14 M15 => gq_b (f_X9_offerBoats N 0 M15) fun v17 M18 => f_X9_open_46 N  N 0 M18
set_option maxHeartbeats 1000000 in
set_option maxRecDepth 20000 in
theorem t_X9_open_22 {N : Nat} {ex9 : Nat} {v9 : Int32} {M9 : gq_M} (hl9 : l.stackTraces = false) (hZ : gq_Z A s) (htb : ∀ x ∈ c.exceptionTable.toList, False) (hC : gq_C p s m args meth c D A cI cZ ad mtC RX9 cX9_open 2) (hr : meth.sig.returnType = (some .int))   : ∀ (s0 : Int32) (M : gq_M), f_X9_open_22 N  s0 M = some (ex9, v9, M9) → gq_W p l e (gq_rx 7 ex9) s m args below meth c D A cI cZ ad mtC 2 (vx_MQ below (gq_Qix D cI cZ ad mtC ex9 v9 M9 A) (gq_XC D cI cZ ad mtC ex9 M9 A) args s (gq_xc ex9) (gq_xs ex9) A) 22 [(0, .ref (ad 0))] [.int s0] M 0 0 := by
  intro s0 M h
  unfold f_X9_open_22 at h
  rcases gq_x2_i h with ⟨v6, M7, c8, h⟩ | ⟨k9, v6, M7, c8, hk9, h⟩
  rotate_left
  · exact g_SXo (as := [.int s0]) hC hZ htb (tx_X9_mustHold hl9 N _ _ _ _ _ c8) hk9 h ⟨rfl, rfl⟩ mS_X9_mustHold wm_X9_138 rfl rfl (Nat.le_of_ble_eq_true rfl) ⟨Nat.le_of_ble_eq_true rfl, Nat.le_of_ble_eq_true rfl⟩ dX9_open_22
  refine g_Sv (as := [.int s0]) hC (t_X9_mustHold N _ _ _ _ c8) mS_X9_mustHold wm_X9_138 rfl rfl (Nat.le_of_ble_eq_true rfl) ⟨Nat.le_of_ble_eq_true rfl, Nat.le_of_ble_eq_true rfl⟩ ⟨Nat.zero_le _, Nat.zero_le _⟩ dX9_open_22 ?_
  refine g_aload_n hC 0 rfl rfl dX9_open_25 ?_
  refine g_iconst (v := 1) hC (by decide) dX9_open_26 ?_
  refine g_putZ hC fG_X9_72 lkC_0_10 gq_bit1 dX9_open_27 ?_
  refine g_topM (fun M10 hM10 => ?_)
  replace h := gq_l_i hM10 h
  refine g_aload_n hC 0 rfl rfl dX9_open_30 ?_
  obtain ⟨v11, M12, c13, h⟩ := gq_b_i h
  refine g_Vv (as := []) hC (t_X9_countWaitingBoxes N  _ _ _ c13) mV_X9_countWaitingBoxes  wm_X9_161 obC_0 rfl rfl (Nat.le_of_ble_eq_true rfl) ⟨Nat.le_of_ble_eq_true rfl, Nat.le_of_ble_eq_true rfl⟩ ⟨Nat.zero_le _, Nat.zero_le _⟩ dX9_open_31 ?_
  refine g_aload_n hC 0 rfl rfl dX9_open_34 ?_
  refine g_iconst (v := 1) hC (by decide) dX9_open_35 ?_
  obtain ⟨v14, M15, c16, h⟩ := gq_b_i h
  refine g_Vv (as := [.int 1]) hC (t_X9_offerBoats N _ _ _ _ c16) mV_X9_offerBoats  wm_X9_164 obC_0 rfl rfl (Nat.le_of_ble_eq_true rfl) ⟨Nat.le_of_ble_eq_true rfl, Nat.le_of_ble_eq_true rfl⟩ ⟨Nat.zero_le _, Nat.zero_le _⟩ dX9_open_36 ?_
  refine g_aload_n hC 0 rfl rfl dX9_open_39 ?_
  refine g_iconst (v := 0) hC (by decide) dX9_open_40 ?_
  obtain ⟨v17, M18, c19, h⟩ := gq_b_i h
  refine g_Vv (as := [.int 0]) hC (t_X9_offerBoats N _ _ _ _ c19) mV_X9_offerBoats  wm_X9_164 obC_0 rfl rfl (Nat.le_of_ble_eq_true rfl) ⟨Nat.le_of_ble_eq_true rfl, Nat.le_of_ble_eq_true rfl⟩ ⟨Nat.zero_le _, Nat.zero_le _⟩ dX9_open_41 ?_
  refine g_iconst (v := 0) hC (by decide) dX9_open_44 ?_
  refine g_istore_n (L2 := [(1, .int 0), (0, .ref (ad 0))]) hC rfl (by decide) rfl dX9_open_45 ?_
  exact g_weak [1, 0] rfl (t_X9_open_46 hl9 hZ htb hC hr  N 0 M18 h)
def f_X9_open_21 (N : Nat) (M : gq_M) : Option (Nat × Int32 × gq_M) :=
  f_X9_open_22 N  0 M
set_option maxHeartbeats 1000000 in
set_option maxRecDepth 20000 in
theorem t_X9_open_21 {N : Nat} {ex9 : Nat} {v9 : Int32} {M9 : gq_M} (hl9 : l.stackTraces = false) (hZ : gq_Z A s) (htb : ∀ x ∈ c.exceptionTable.toList, False) (hC : gq_C p s m args meth c D A cI cZ ad mtC RX9 cX9_open 2) (hr : meth.sig.returnType = (some .int))   : ∀ (M : gq_M), f_X9_open_21 N   M = some (ex9, v9, M9) → gq_W p l e (gq_rx 7 ex9) s m args below meth c D A cI cZ ad mtC 2 (vx_MQ below (gq_Qix D cI cZ ad mtC ex9 v9 M9 A) (gq_XC D cI cZ ad mtC ex9 M9 A) args s (gq_xc ex9) (gq_xs ex9) A) 21 [(0, .ref (ad 0))] [] M 0 0 := by
  intro  M h
  unfold f_X9_open_21 at h
  refine g_iconst (v := 0) hC (by decide) dX9_open_21 ?_
  exact g_weak [0] rfl (t_X9_open_22 hl9 hZ htb hC hr  0 M h)
def f_X9_open (N : Nat) (M : gq_M) : Option (Nat × Int32 × gq_M) :=
  if (M 0 10) = 0 then (gq_b (f_X1_countWaiting N  M) fun v2 M3 => if v2 ≤ 0 then (f_X9_open_21 N   M3) else (f_X9_open_22 N  1 M3)) else (f_X9_open_21 N   M)
set_option maxHeartbeats 1000000 in
set_option maxRecDepth 20000 in
theorem t_X9_open {l : Launch} (hl9 : l.stackTraces = false) {D : va_G} {cI cZ : ClassId} {ad : Nat → Nat} (N : Nat) (M : gq_M) (ex9 : Nat) (v9 : Int32) (M9 : gq_M) (h : f_X9_open N  M = some (ex9, v9, M9)) : gq_Xi l D cI cZ ad mtC yX9_open cX9_open 2 (some .int) 7 [.ref (ad 0)] M ex9 v9 M9 := by
  refine gq_introXi (own := RX9) (v := v9) (by decide) rfl (Nat.le_of_ble_eq_true rfl) ?_
  intro p e s m below meth c hC hr hZ htb
  refine g_cast (L2 := [(0, .ref (ad 0))]) ?_ rfl rfl rfl rfl
  unfold f_X9_open at h
  refine g_aload_n hC 0 rfl rfl dX9_open_0 ?_
  refine g_getI hC fF_X9_72 lkC_0_10 dX9_open_1 ?_
  refine g_if_ne (tgt := 21) hC (by decide) dX9_open_4 (fun c1 => ?_) (fun c1 => ?_)
  · replace h := gq_f c1 h
    exact g_weak [0] rfl (t_X9_open_21 hl9 hZ htb hC hr   M h)
  · replace h := gq_t c1 h
    refine g_aload_n hC 0 rfl rfl dX9_open_7 ?_
    refine g_getR hC fF_X9_33 lkC_0_3 dX9_open_8 ?_
    obtain ⟨v2, M3, c4, h⟩ := gq_b_i h
    refine g_Vi (as := []) hC (t_X1_countWaiting N  _ _ _ c4) mV_X1_countWaiting  wm_X9_157 obC_34 rfl rfl (Nat.le_of_ble_eq_true rfl) ⟨Nat.le_of_ble_eq_true rfl, Nat.le_of_ble_eq_true rfl⟩ ⟨Nat.zero_le _, Nat.zero_le _⟩ dX9_open_11 ?_
    refine g_if_le (tgt := 21) hC (by decide) dX9_open_14 (fun c5 => ?_) (fun c5 => ?_)
    · replace h := gq_t c5 h
      exact g_weak [0] rfl (t_X9_open_21 hl9 hZ htb hC hr   M3 h)
    · replace h := gq_f c5 h
      refine g_iconst (v := 1) hC (by decide) dX9_open_17 ?_
      refine g_goto (tgt := 22) hC (by decide) dX9_open_18 ?_
      exact g_weak [0] rfl (t_X9_open_22 hl9 hZ htb hC hr  1 M3 h)
def f_X9_end_38_b (N : Nat) (kh38 : Int32 → Int32 → gq_M → Option (Nat × Int32 × gq_M)) (x1 : Int32) (x2 : Int32) (M : gq_M) : Option (Nat × Int32 × gq_M) :=
  if 3 ≤ x2 then (gq_b (f_X6_clear N  M) fun v10 M11 => gq_b (f_X8_fill 46 150 N (-1) M11) fun v13 M14 => gq_l (gq_up M14 0 10 0) fun M16 => gq_l (gq_up M16 0 9 ((M16 0 9) + 1)) fun M17 => some (0, x1, M17)) else (gq_b (f_X8_put 86 3 N x2 0 M) fun v18 M19 => gq_b (f_X9_bringToClock N x2 (-1) M19) fun v21 M22 => gq_b (f_X9_beginRound N x2 M22) fun v24 M25 => kh38 x1 (x2 + 1) M25)
def f_X9_end_38 (N : Nat) : Nat → Int32 → Int32 → gq_M → Option (Nat × Int32 × gq_M)
  | 0 => fun _ _ _ => none
  | n9 + 1 => f_X9_end_38_b N  (f_X9_end_38 N  n9)
set_option maxHeartbeats 1000000 in
set_option maxRecDepth 20000 in
theorem t_X9_end_38_b {N : Nat} {kh38 : Int32 → Int32 → gq_M → Option (Nat × Int32 × gq_M)} {ex9 : Nat} {v9 : Int32} {M9 : gq_M} (hl9 : l.stackTraces = false) (hZ : gq_Z A s) (htb : ∀ x ∈ c.exceptionTable.toList, False) (hC : gq_C p s m args meth c D A cI cZ ad mtC RX9 cX9_end 3) (hr : meth.sig.returnType = (some .int))  (hk38 : ∀ (x1 : Int32) (x2 : Int32) (M : gq_M), kh38 x1 x2 M = some (ex9, v9, M9) → gq_W p l e (gq_rx 7 ex9) s m args below meth c D A cI cZ ad mtC 3 (vx_MQ below (gq_Qix D cI cZ ad mtC ex9 v9 M9 A) (gq_XC D cI cZ ad mtC ex9 M9 A) args s (gq_xc ex9) (gq_xs ex9) A) 38 [(0, .ref (ad 0)), (1, .int x1), (2, .int x2)] [] M 0 0) : ∀ (x1 : Int32) (x2 : Int32) (M : gq_M), f_X9_end_38_b N  kh38 x1 x2 M = some (ex9, v9, M9) → gq_W p l e (gq_rx 7 ex9) s m args below meth c D A cI cZ ad mtC 3 (vx_MQ below (gq_Qix D cI cZ ad mtC ex9 v9 M9 A) (gq_XC D cI cZ ad mtC ex9 M9 A) args s (gq_xc ex9) (gq_xs ex9) A) 38 [(0, .ref (ad 0)), (1, .int x1), (2, .int x2)] [] M 0 0 := by
  intro x1 x2 M h
  unfold f_X9_end_38_b at h
  refine g_iload_n hC 2 rfl rfl dX9_end_38 ?_
  refine g_iconst (v := 3) hC (by decide) dX9_end_39 ?_
  refine g_icmp_ge (tgt := 72) hC (by decide) dX9_end_40 (fun c9 => ?_) (fun c9 => ?_)
  · replace h := gq_t c9 h
    refine g_aload_n hC 0 rfl rfl dX9_end_72 ?_
    refine g_getR hC fF_X9_40 lkC_0_4 dX9_end_73 ?_
    obtain ⟨v10, M11, c12, h⟩ := gq_b_i h
    refine g_Vv (as := []) hC (t_X6_clear N  _ _ _ c12) mV_X6_clear  wm_X9_188 obC_61 rfl rfl (Nat.le_of_ble_eq_true rfl) ⟨Nat.le_of_ble_eq_true rfl, Nat.le_of_ble_eq_true rfl⟩ ⟨Nat.zero_le _, Nat.zero_le _⟩ dX9_end_76 ?_
    refine g_aload_n hC 0 rfl rfl dX9_end_79 ?_
    refine g_getR hC fF_X9_33 lkC_0_3 dX9_end_80 ?_
    refine g_getR hC fF_X9_191 lkC_34_5 dX9_end_83 ?_
    refine g_iconst (v := (-1)) hC (by decide) dX9_end_86 ?_
    obtain ⟨v13, M14, c15, h⟩ := gq_b_i h
    refine g_Vv (as := [.int (-1)]) hC (t_X8_fill lkC_45_0 arC_46 N _ _ _ _ c15) mV_X8_fill  wm_X9_194 obC_45 rfl rfl (Nat.le_of_ble_eq_true rfl) ⟨Nat.le_of_ble_eq_true rfl, Nat.le_of_ble_eq_true rfl⟩ ⟨Nat.zero_le _, Nat.zero_le _⟩ dX9_end_87 ?_
    refine g_aload_n hC 0 rfl rfl dX9_end_90 ?_
    refine g_iconst (v := 0) hC (by decide) dX9_end_91 ?_
    refine g_putZ hC fG_X9_72 lkC_0_10 gq_bit0 dX9_end_92 ?_
    refine g_topM (fun M16 hM16 => ?_)
    replace h := gq_l_i hM16 h
    refine g_aload_n hC 0 rfl rfl dX9_end_95 ?_
    refine g_dup hC rfl dX9_end_96 ?_
    refine g_getI hC fF_X9_69 lkC_0_9 dX9_end_97 ?_
    refine g_iconst (v := 1) hC (by decide) dX9_end_100 ?_
    refine g_iadd hC dX9_end_101 ?_
    refine g_putI hC fG_X9_69 lkC_0_9 dX9_end_102 ?_
    refine g_topM (fun M17 hM17 => ?_)
    replace h := gq_l_i hM17 h
    refine g_iload_n hC 1 rfl rfl dX9_end_105 ?_
    exact g_iretsX hC hr h dX9_end_106
  · replace h := gq_f c9 h
    refine g_aload_n hC 0 rfl rfl dX9_end_43 ?_
    refine g_getR hC fF_X9_47 lkC_0_5 dX9_end_44 ?_
    refine g_getR hC fF_X9_167 lkC_76_4 dX9_end_47 ?_
    refine g_iload_n hC 2 rfl rfl dX9_end_50 ?_
    refine g_iconst (v := 0) hC (by decide) dX9_end_51 ?_
    obtain ⟨v18, M19, c20, h⟩ := gq_b_i h
    refine g_Vv (as := [.int x2, .int 0]) hC (t_X8_put lkC_85_0 arC_86 N _ _ _ _ _ c20) mV_X8_put  wm_X9_104 obC_85 rfl rfl (Nat.le_of_ble_eq_true rfl) ⟨Nat.le_of_ble_eq_true rfl, Nat.le_of_ble_eq_true rfl⟩ ⟨Nat.zero_le _, Nat.zero_le _⟩ dX9_end_52 ?_
    refine g_aload_n hC 0 rfl rfl dX9_end_55 ?_
    refine g_iload_n hC 2 rfl rfl dX9_end_56 ?_
    refine g_iconst (v := (-1)) hC (by decide) dX9_end_57 ?_
    obtain ⟨v21, M22, c23, h⟩ := gq_b_i h
    refine g_Vv (as := [.int x2, .int (-1)]) hC (t_X9_bringToClock N _ _ _ _ _ c23) mV_X9_bringToClock  wm_X9_177 obC_0 rfl rfl (Nat.le_of_ble_eq_true rfl) ⟨Nat.le_of_ble_eq_true rfl, Nat.le_of_ble_eq_true rfl⟩ ⟨Nat.zero_le _, Nat.zero_le _⟩ dX9_end_58 ?_
    refine g_aload_n hC 0 rfl rfl dX9_end_61 ?_
    refine g_iload_n hC 2 rfl rfl dX9_end_62 ?_
    obtain ⟨v24, M25, c26, h⟩ := gq_b_i h
    refine g_Vv (as := [.int x2]) hC (t_X9_beginRound N _ _ _ _ c26) mV_X9_beginRound  wm_X9_180 obC_0 rfl rfl (Nat.le_of_ble_eq_true rfl) ⟨Nat.le_of_ble_eq_true rfl, Nat.le_of_ble_eq_true rfl⟩ ⟨Nat.zero_le _, Nat.zero_le _⟩ dX9_end_63 ?_
    refine g_iinc (v := (x2 + 1)) (L2 := [(2, .int (x2 + 1)), (0, .ref (ad 0)), (1, .int x1)]) hC 2 rfl (by first | rfl | decide) (by decide) rfl dX9_end_66 ?_
    refine g_goto (tgt := 38) hC (by decide) dX9_end_69 ?_
    exact g_weak [1, 2, 0] rfl (hk38 x1 (x2 + 1) M25 h)
theorem t_X9_end_38 {N : Nat} {ex9 : Nat} {v9 : Int32} {M9 : gq_M} (hl9 : l.stackTraces = false) (hZ : gq_Z A s) (htb : ∀ x ∈ c.exceptionTable.toList, False) (hC : gq_C p s m args meth c D A cI cZ ad mtC RX9 cX9_end 3) (hr : meth.sig.returnType = (some .int))  : ∀ (n9 : Nat) (x1 : Int32) (x2 : Int32) (M : gq_M), f_X9_end_38 N  n9 x1 x2 M = some (ex9, v9, M9) → gq_W p l e (gq_rx 7 ex9) s m args below meth c D A cI cZ ad mtC 3 (vx_MQ below (gq_Qix D cI cZ ad mtC ex9 v9 M9 A) (gq_XC D cI cZ ad mtC ex9 M9 A) args s (gq_xc ex9) (gq_xs ex9) A) 38 [(0, .ref (ad 0)), (1, .int x1), (2, .int x2)] [] M 0 0 := by
  intro n9
  induction n9 with
  | zero => intro x1 x2 M h; cases h
  | succ n9 ih => intro x1 x2 M h; exact t_X9_end_38_b hl9 hZ htb hC hr  ih x1 x2 M h
def f_X9_end_11_b (N : Nat) (kh11 : Int32 → Int32 → gq_M → Option (Nat × Int32 × gq_M)) (x1 : Int32) (x2 : Int32) (M : gq_M) : Option (Nat × Int32 × gq_M) :=
  if (M 61 7) ≤ x2 then (f_X9_end_38 N  N x1 0 M) else (gq_b (f_X9_withdrawRest N x2 M) fun v6 M7 => kh11 (x1 + v6) (x2 + 1) M7)
def f_X9_end_11 (N : Nat) : Nat → Int32 → Int32 → gq_M → Option (Nat × Int32 × gq_M)
  | 0 => fun _ _ _ => none
  | n9 + 1 => f_X9_end_11_b N  (f_X9_end_11 N  n9)
set_option maxHeartbeats 1000000 in
set_option maxRecDepth 20000 in
theorem t_X9_end_11_b {N : Nat} {kh11 : Int32 → Int32 → gq_M → Option (Nat × Int32 × gq_M)} {ex9 : Nat} {v9 : Int32} {M9 : gq_M} (hl9 : l.stackTraces = false) (hZ : gq_Z A s) (htb : ∀ x ∈ c.exceptionTable.toList, False) (hC : gq_C p s m args meth c D A cI cZ ad mtC RX9 cX9_end 3) (hr : meth.sig.returnType = (some .int))  (hk11 : ∀ (x1 : Int32) (x2 : Int32) (M : gq_M), kh11 x1 x2 M = some (ex9, v9, M9) → gq_W p l e (gq_rx 7 ex9) s m args below meth c D A cI cZ ad mtC 3 (vx_MQ below (gq_Qix D cI cZ ad mtC ex9 v9 M9 A) (gq_XC D cI cZ ad mtC ex9 M9 A) args s (gq_xc ex9) (gq_xs ex9) A) 11 [(0, .ref (ad 0)), (1, .int x1), (2, .int x2)] [] M 0 0) : ∀ (x1 : Int32) (x2 : Int32) (M : gq_M), f_X9_end_11_b N  kh11 x1 x2 M = some (ex9, v9, M9) → gq_W p l e (gq_rx 7 ex9) s m args below meth c D A cI cZ ad mtC 3 (vx_MQ below (gq_Qix D cI cZ ad mtC ex9 v9 M9 A) (gq_XC D cI cZ ad mtC ex9 M9 A) args s (gq_xc ex9) (gq_xs ex9) A) 11 [(0, .ref (ad 0)), (1, .int x1), (2, .int x2)] [] M 0 0 := by
  intro x1 x2 M h
  unfold f_X9_end_11_b at h
  refine g_iload_n hC 2 rfl rfl dX9_end_11 ?_
  refine g_aload_n hC 0 rfl rfl dX9_end_12 ?_
  refine g_getR hC fF_X9_40 lkC_0_4 dX9_end_13 ?_
  refine g_getI hC fF_X9_184 lkC_61_7 dX9_end_16 ?_
  refine g_icmp_ge (tgt := 36) hC (by decide) dX9_end_19 (fun c5 => ?_) (fun c5 => ?_)
  · replace h := gq_t c5 h
    refine g_iconst (v := 0) hC (by decide) dX9_end_36 ?_
    refine g_istore_n (L2 := [(2, .int 0), (0, .ref (ad 0)), (1, .int x1)]) hC rfl (by decide) rfl dX9_end_37 ?_
    exact g_weak [1, 2, 0] rfl (t_X9_end_38 hl9 hZ htb hC hr  N x1 0 M h)
  · replace h := gq_f c5 h
    refine g_iload_n hC 1 rfl rfl dX9_end_22 ?_
    refine g_aload_n hC 0 rfl rfl dX9_end_23 ?_
    refine g_iload_n hC 2 rfl rfl dX9_end_24 ?_
    obtain ⟨v6, M7, c8, h⟩ := gq_b_i h
    refine g_Vi (as := [.int x2]) hC (t_X9_withdrawRest N _ _ _ _ c8) mV_X9_withdrawRest  wm_X9_185 obC_0 rfl rfl (Nat.le_of_ble_eq_true rfl) ⟨Nat.le_of_ble_eq_true rfl, Nat.le_of_ble_eq_true rfl⟩ ⟨Nat.zero_le _, Nat.zero_le _⟩ dX9_end_25 ?_
    refine g_iadd hC dX9_end_28 ?_
    refine g_istore_n (L2 := [(1, .int (x1 + v6)), (0, .ref (ad 0)), (2, .int x2)]) hC rfl (by decide) rfl dX9_end_29 ?_
    refine g_iinc (v := (x2 + 1)) (L2 := [(2, .int (x2 + 1)), (1, .int (x1 + v6)), (0, .ref (ad 0))]) hC 2 rfl (by first | rfl | decide) (by decide) rfl dX9_end_30 ?_
    refine g_goto (tgt := 11) hC (by decide) dX9_end_33 ?_
    exact g_weak [2, 1, 0] rfl (hk11 (x1 + v6) (x2 + 1) M7 h)
theorem t_X9_end_11 {N : Nat} {ex9 : Nat} {v9 : Int32} {M9 : gq_M} (hl9 : l.stackTraces = false) (hZ : gq_Z A s) (htb : ∀ x ∈ c.exceptionTable.toList, False) (hC : gq_C p s m args meth c D A cI cZ ad mtC RX9 cX9_end 3) (hr : meth.sig.returnType = (some .int))  : ∀ (n9 : Nat) (x1 : Int32) (x2 : Int32) (M : gq_M), f_X9_end_11 N  n9 x1 x2 M = some (ex9, v9, M9) → gq_W p l e (gq_rx 7 ex9) s m args below meth c D A cI cZ ad mtC 3 (vx_MQ below (gq_Qix D cI cZ ad mtC ex9 v9 M9 A) (gq_XC D cI cZ ad mtC ex9 M9 A) args s (gq_xc ex9) (gq_xs ex9) A) 11 [(0, .ref (ad 0)), (1, .int x1), (2, .int x2)] [] M 0 0 := by
  intro n9
  induction n9 with
  | zero => intro x1 x2 M h; cases h
  | succ n9 ih => intro x1 x2 M h; exact t_X9_end_11_b hl9 hZ htb hC hr  ih x1 x2 M h
def f_X9_end (N : Nat) (M : gq_M) : Option (Nat × Int32 × gq_M) :=
  gq_x2 (f_X9_mustHold N (M 0 10) M) (fx_X9_mustHold N (M 0 10) M) fun v1 M2 => f_X9_end_11 N  N 0 0 M2
set_option maxHeartbeats 1000000 in
set_option maxRecDepth 20000 in
theorem t_X9_end {l : Launch} (hl9 : l.stackTraces = false) {D : va_G} {cI cZ : ClassId} {ad : Nat → Nat} (N : Nat) (M : gq_M) (ex9 : Nat) (v9 : Int32) (M9 : gq_M) (h : f_X9_end N  M = some (ex9, v9, M9)) : gq_Xi l D cI cZ ad mtC yX9_end cX9_end 3 (some .int) 7 [.ref (ad 0)] M ex9 v9 M9 := by
  refine gq_introXi (own := RX9) (v := v9) (by decide) rfl (Nat.le_of_ble_eq_true rfl) ?_
  intro p e s m below meth c hC hr hZ htb
  refine g_cast (L2 := [(0, .ref (ad 0))]) ?_ rfl rfl rfl rfl
  unfold f_X9_end at h
  refine g_aload_n hC 0 rfl rfl dX9_end_0 ?_
  refine g_getI hC fF_X9_72 lkC_0_10 dX9_end_1 ?_
  rcases gq_x2_i h with ⟨v1, M2, c3, h⟩ | ⟨k4, v1, M2, c3, hk4, h⟩
  rotate_left
  · exact g_SXo (as := [.int (M 0 10)]) hC hZ htb (tx_X9_mustHold hl9 N _ _ _ _ _ c3) hk4 h ⟨rfl, rfl⟩ mS_X9_mustHold wm_X9_138 rfl rfl (Nat.le_of_ble_eq_true rfl) ⟨Nat.le_of_ble_eq_true rfl, Nat.le_of_ble_eq_true rfl⟩ dX9_end_4
  refine g_Sv (as := [.int (M 0 10)]) hC (t_X9_mustHold N _ _ _ _ c3) mS_X9_mustHold wm_X9_138 rfl rfl (Nat.le_of_ble_eq_true rfl) ⟨Nat.le_of_ble_eq_true rfl, Nat.le_of_ble_eq_true rfl⟩ ⟨Nat.zero_le _, Nat.zero_le _⟩ dX9_end_4 ?_
  refine g_iconst (v := 0) hC (by decide) dX9_end_7 ?_
  refine g_istore_n (L2 := [(1, .int 0), (0, .ref (ad 0))]) hC rfl (by decide) rfl dX9_end_8 ?_
  refine g_iconst (v := 0) hC (by decide) dX9_end_9 ?_
  refine g_istore_n (L2 := [(2, .int 0), (1, .int 0), (0, .ref (ad 0))]) hC rfl (by decide) rfl dX9_end_10 ?_
  exact g_weak [2, 1, 0] rfl (t_X9_end_11 hl9 hZ htb hC hr  N 0 0 M2 h)
def f_X9_press_81 (N : Nat) (x1 : Int32) (x2 : Int32) (s0 : Int32) (M : gq_M) : Option (Nat × Int32 × gq_M) :=
  gq_x2 (f_X9_mustHold N s0 M) (fx_X9_mustHold N s0 M) fun v29 M30 => gq_b (f_X8_at 82 3 N x2 M30) fun v33 M34 => gq_b (f_X8_at 27 8 N x1 M34) fun v36 M37 => gq_b (f_X7_make N x2 x1 v33 (M34 0 8) ((M34 0 8) + v36) M37) fun v39 M40 => some (0, v33, M40)
set_option maxHeartbeats 1000000 in
set_option maxRecDepth 20000 in
theorem t_X9_press_81 {N : Nat} {ex9 : Nat} {v9 : Int32} {M9 : gq_M} (hl9 : l.stackTraces = false) (hZ : gq_Z A s) (htb : ∀ x ∈ c.exceptionTable.toList, False) (hC : gq_C p s m args meth c D A cI cZ ad mtC RX9 cX9_press 4) (hr : meth.sig.returnType = (some .int))   : ∀ (x1 : Int32) (x2 : Int32) (s0 : Int32) (M : gq_M), f_X9_press_81 N  x1 x2 s0 M = some (ex9, v9, M9) → gq_W p l e (gq_rx 7 ex9) s m args below meth c D A cI cZ ad mtC 4 (vx_MQ below (gq_Qix D cI cZ ad mtC ex9 v9 M9 A) (gq_XC D cI cZ ad mtC ex9 M9 A) args s (gq_xc ex9) (gq_xs ex9) A) 81 [(0, .ref (ad 0)), (1, .int x1), (2, .int x2)] [.int s0] M 0 0 := by
  intro x1 x2 s0 M h
  unfold f_X9_press_81 at h
  rcases gq_x2_i h with ⟨v29, M30, c31, h⟩ | ⟨k32, v29, M30, c31, hk32, h⟩
  rotate_left
  · exact g_SXo (as := [.int s0]) hC hZ htb (tx_X9_mustHold hl9 N _ _ _ _ _ c31) hk32 h ⟨rfl, rfl⟩ mS_X9_mustHold wm_X9_138 rfl rfl (Nat.le_of_ble_eq_true rfl) ⟨Nat.le_of_ble_eq_true rfl, Nat.le_of_ble_eq_true rfl⟩ dX9_press_81
  refine g_Sv (as := [.int s0]) hC (t_X9_mustHold N _ _ _ _ c31) mS_X9_mustHold wm_X9_138 rfl rfl (Nat.le_of_ble_eq_true rfl) ⟨Nat.le_of_ble_eq_true rfl, Nat.le_of_ble_eq_true rfl⟩ ⟨Nat.zero_le _, Nat.zero_le _⟩ dX9_press_81 ?_
  refine g_aload_n hC 0 rfl rfl dX9_press_84 ?_
  refine g_getR hC fF_X9_47 lkC_0_5 dX9_press_85 ?_
  refine g_getR hC fF_X9_206 lkC_76_2 dX9_press_88 ?_
  refine g_iload_n hC 2 rfl rfl dX9_press_91 ?_
  obtain ⟨v33, M34, c35, h⟩ := gq_b_i h
  refine g_Vi (as := [.int x2]) hC (t_X8_at lkC_81_0 arC_82 N _ _ _ _ c35) mV_X8_at  wm_X9_200 obC_81 rfl rfl (Nat.le_of_ble_eq_true rfl) ⟨Nat.le_of_ble_eq_true rfl, Nat.le_of_ble_eq_true rfl⟩ ⟨Nat.zero_le _, Nat.zero_le _⟩ dX9_press_92 ?_
  refine g_istore_n (L2 := [(3, .int v33), (0, .ref (ad 0)), (1, .int x1), (2, .int x2)]) hC rfl (by decide) rfl dX9_press_95 ?_
  refine g_aload_n hC 1 rfl rfl dX9_press_96 ?_
  refine g_getR hC fF_X9_54 lkC_0_6 dX9_press_97 ?_
  refine g_iload_n hC 3 rfl rfl dX9_press_100 ?_
  refine g_iload_n hC 2 rfl rfl dX9_press_101 ?_
  refine g_iload_n hC 0 rfl rfl dX9_press_102 ?_
  refine g_aload_n hC 1 rfl rfl dX9_press_103 ?_
  refine g_getI hC fF_X9_65 lkC_0_8 dX9_press_104 ?_
  refine g_aload_n hC 1 rfl rfl dX9_press_107 ?_
  refine g_getI hC fF_X9_65 lkC_0_8 dX9_press_108 ?_
  refine g_aload_n hC 1 rfl rfl dX9_press_111 ?_
  refine g_getR hC fF_X9_26 lkC_0_2 dX9_press_112 ?_
  refine g_getR hC fF_X9_123 lkC_23_1 dX9_press_115 ?_
  refine g_iload_n hC 2 rfl rfl dX9_press_118 ?_
  obtain ⟨v36, M37, c38, h⟩ := gq_b_i h
  refine g_Vi (as := [.int x1]) hC (t_X8_at lkC_26_0 arC_27 N _ _ _ _ c38) mV_X8_at  wm_X9_200 obC_26 rfl rfl (Nat.le_of_ble_eq_true rfl) ⟨Nat.le_of_ble_eq_true rfl, Nat.le_of_ble_eq_true rfl⟩ ⟨Nat.zero_le _, Nat.zero_le _⟩ dX9_press_119 ?_
  refine g_iadd hC dX9_press_122 ?_
  obtain ⟨v39, M40, c41, h⟩ := gq_b_i h
  refine g_Vv (as := [.int x2, .int x1, .int v33, .int (M34 0 8), .int ((M34 0 8) + v36)]) hC (t_X7_make N _ _ _ _ _ _ _ _ c41) mV_X7_make  wm_X9_209 obC_93 rfl rfl (Nat.le_of_ble_eq_true rfl) ⟨Nat.le_of_ble_eq_true rfl, Nat.le_of_ble_eq_true rfl⟩ ⟨Nat.zero_le _, Nat.zero_le _⟩ dX9_press_123 ?_
  refine g_iload_n hC 0 rfl rfl dX9_press_126 ?_
  exact g_iretsX hC hr h dX9_press_127
def f_X9_press_80 (N : Nat) (x1 : Int32) (x2 : Int32) (M : gq_M) : Option (Nat × Int32 × gq_M) :=
  f_X9_press_81 N  x1 x2 0 M
set_option maxHeartbeats 1000000 in
set_option maxRecDepth 20000 in
theorem t_X9_press_80 {N : Nat} {ex9 : Nat} {v9 : Int32} {M9 : gq_M} (hl9 : l.stackTraces = false) (hZ : gq_Z A s) (htb : ∀ x ∈ c.exceptionTable.toList, False) (hC : gq_C p s m args meth c D A cI cZ ad mtC RX9 cX9_press 4) (hr : meth.sig.returnType = (some .int))   : ∀ (x1 : Int32) (x2 : Int32) (M : gq_M), f_X9_press_80 N  x1 x2 M = some (ex9, v9, M9) → gq_W p l e (gq_rx 7 ex9) s m args below meth c D A cI cZ ad mtC 4 (vx_MQ below (gq_Qix D cI cZ ad mtC ex9 v9 M9 A) (gq_XC D cI cZ ad mtC ex9 M9 A) args s (gq_xc ex9) (gq_xs ex9) A) 80 [(0, .ref (ad 0)), (1, .int x1), (2, .int x2)] [] M 0 0 := by
  intro x1 x2 M h
  unfold f_X9_press_80 at h
  refine g_iconst (v := 0) hC (by decide) dX9_press_80 ?_
  exact g_weak [0, 1, 2] rfl (t_X9_press_81 hl9 hZ htb hC hr  x1 x2 0 M h)
def f_X9_press_46 (N : Nat) (x1 : Int32) (x2 : Int32) (s0 : Int32) (M : gq_M) : Option (Nat × Int32 × gq_M) :=
  gq_x2 (f_X9_mustHold N s0 M) (fx_X9_mustHold N s0 M) fun v17 M18 => gq_b (f_X8_at 33 8 N x1 M18) fun v21 M22 => if v21 = 1 then (gq_b (f_X7_isMade N x2 x1 M22) fun v25 M26 => if v25 = 0 then (f_X9_press_81 N  x1 x2 1 M26) else (f_X9_press_80 N  x1 x2 M26)) else (f_X9_press_80 N  x1 x2 M22)
set_option maxHeartbeats 1000000 in
set_option maxRecDepth 20000 in
theorem t_X9_press_46 {N : Nat} {ex9 : Nat} {v9 : Int32} {M9 : gq_M} (hl9 : l.stackTraces = false) (hZ : gq_Z A s) (htb : ∀ x ∈ c.exceptionTable.toList, False) (hC : gq_C p s m args meth c D A cI cZ ad mtC RX9 cX9_press 4) (hr : meth.sig.returnType = (some .int))   : ∀ (x1 : Int32) (x2 : Int32) (s0 : Int32) (M : gq_M), f_X9_press_46 N  x1 x2 s0 M = some (ex9, v9, M9) → gq_W p l e (gq_rx 7 ex9) s m args below meth c D A cI cZ ad mtC 4 (vx_MQ below (gq_Qix D cI cZ ad mtC ex9 v9 M9 A) (gq_XC D cI cZ ad mtC ex9 M9 A) args s (gq_xc ex9) (gq_xs ex9) A) 46 [(0, .ref (ad 0)), (1, .int x1), (2, .int x2)] [.int s0] M 0 0 := by
  intro x1 x2 s0 M h
  unfold f_X9_press_46 at h
  rcases gq_x2_i h with ⟨v17, M18, c19, h⟩ | ⟨k20, v17, M18, c19, hk20, h⟩
  rotate_left
  · exact g_SXo (as := [.int s0]) hC hZ htb (tx_X9_mustHold hl9 N _ _ _ _ _ c19) hk20 h ⟨rfl, rfl⟩ mS_X9_mustHold wm_X9_138 rfl rfl (Nat.le_of_ble_eq_true rfl) ⟨Nat.le_of_ble_eq_true rfl, Nat.le_of_ble_eq_true rfl⟩ dX9_press_46
  refine g_Sv (as := [.int s0]) hC (t_X9_mustHold N _ _ _ _ c19) mS_X9_mustHold wm_X9_138 rfl rfl (Nat.le_of_ble_eq_true rfl) ⟨Nat.le_of_ble_eq_true rfl, Nat.le_of_ble_eq_true rfl⟩ ⟨Nat.zero_le _, Nat.zero_le _⟩ dX9_press_46 ?_
  refine g_aload_n hC 0 rfl rfl dX9_press_49 ?_
  refine g_getR hC fF_X9_26 lkC_0_2 dX9_press_50 ?_
  refine g_getR hC fF_X9_132 lkC_23_4 dX9_press_53 ?_
  refine g_iload_n hC 1 rfl rfl dX9_press_56 ?_
  obtain ⟨v21, M22, c23, h⟩ := gq_b_i h
  refine g_Vi (as := [.int x1]) hC (t_X8_at lkC_32_0 arC_33 N _ _ _ _ c23) mV_X8_at  wm_X9_200 obC_32 rfl rfl (Nat.le_of_ble_eq_true rfl) ⟨Nat.le_of_ble_eq_true rfl, Nat.le_of_ble_eq_true rfl⟩ ⟨Nat.zero_le _, Nat.zero_le _⟩ dX9_press_57 ?_
  refine g_iconst (v := 1) hC (by decide) dX9_press_60 ?_
  refine g_icmp_ne (tgt := 80) hC (by decide) dX9_press_61 (fun c24 => ?_) (fun c24 => ?_)
  · replace h := gq_f c24 h
    exact g_weak [0, 1, 2] rfl (t_X9_press_80 hl9 hZ htb hC hr  x1 x2 M22 h)
  · replace h := gq_t c24 h
    refine g_aload_n hC 0 rfl rfl dX9_press_64 ?_
    refine g_getR hC fF_X9_54 lkC_0_6 dX9_press_65 ?_
    refine g_iload_n hC 2 rfl rfl dX9_press_68 ?_
    refine g_iload_n hC 1 rfl rfl dX9_press_69 ?_
    obtain ⟨v25, M26, c27, h⟩ := gq_b_i h
    refine g_Vi (as := [.int x2, .int x1]) hC (t_X7_isMade N _ _ _ _ _ c27) mV_X7_isMade  wm_X9_203 obC_93 rfl rfl (Nat.le_of_ble_eq_true rfl) ⟨Nat.le_of_ble_eq_true rfl, Nat.le_of_ble_eq_true rfl⟩ ⟨Nat.zero_le _, Nat.zero_le _⟩ dX9_press_70 ?_
    refine g_if_ne (tgt := 80) hC (by decide) dX9_press_73 (fun c28 => ?_) (fun c28 => ?_)
    · replace h := gq_f c28 h
      exact g_weak [0, 1, 2] rfl (t_X9_press_80 hl9 hZ htb hC hr  x1 x2 M26 h)
    · replace h := gq_t c28 h
      refine g_iconst (v := 1) hC (by decide) dX9_press_76 ?_
      refine g_goto (tgt := 81) hC (by decide) dX9_press_77 ?_
      exact g_weak [0, 1, 2] rfl (t_X9_press_81 hl9 hZ htb hC hr  x1 x2 1 M26 h)
def f_X9_press_45 (N : Nat) (x1 : Int32) (x2 : Int32) (M : gq_M) : Option (Nat × Int32 × gq_M) :=
  f_X9_press_46 N  x1 x2 0 M
set_option maxHeartbeats 1000000 in
set_option maxRecDepth 20000 in
theorem t_X9_press_45 {N : Nat} {ex9 : Nat} {v9 : Int32} {M9 : gq_M} (hl9 : l.stackTraces = false) (hZ : gq_Z A s) (htb : ∀ x ∈ c.exceptionTable.toList, False) (hC : gq_C p s m args meth c D A cI cZ ad mtC RX9 cX9_press 4) (hr : meth.sig.returnType = (some .int))   : ∀ (x1 : Int32) (x2 : Int32) (M : gq_M), f_X9_press_45 N  x1 x2 M = some (ex9, v9, M9) → gq_W p l e (gq_rx 7 ex9) s m args below meth c D A cI cZ ad mtC 4 (vx_MQ below (gq_Qix D cI cZ ad mtC ex9 v9 M9 A) (gq_XC D cI cZ ad mtC ex9 M9 A) args s (gq_xc ex9) (gq_xs ex9) A) 45 [(0, .ref (ad 0)), (1, .int x1), (2, .int x2)] [] M 0 0 := by
  intro x1 x2 M h
  unfold f_X9_press_45 at h
  refine g_iconst (v := 0) hC (by decide) dX9_press_45 ?_
  exact g_weak [0, 1, 2] rfl (t_X9_press_46 hl9 hZ htb hC hr  x1 x2 0 M h)
def f_X9_press (N : Nat) (a1 : Int32) (a2 : Int32) (M : gq_M) : Option (Nat × Int32 × gq_M) :=
  gq_x2 (f_X9_mustExist N a1 8 M) (fx_X9_mustExist N a1 8 M) fun v1 M2 => gq_x2 (f_X9_mustExist N a2 3 M2) (fx_X9_mustExist N a2 3 M2) fun v5 M6 => gq_b (f_X8_at 78 3 N a2 M6) fun v9 M10 => if v9 = 1 then (gq_b (f_X8_at 92 3 N a2 M10) fun v13 M14 => if v13 = 1 then (f_X9_press_46 N  a1 a2 1 M14) else (f_X9_press_45 N  a1 a2 M14)) else (f_X9_press_45 N  a1 a2 M10)
set_option maxHeartbeats 1000000 in
set_option maxRecDepth 20000 in
theorem t_X9_press {l : Launch} (hl9 : l.stackTraces = false) {D : va_G} {cI cZ : ClassId} {ad : Nat → Nat} (N : Nat) (a1 : Int32) (a2 : Int32) (M : gq_M) (ex9 : Nat) (v9 : Int32) (M9 : gq_M) (h : f_X9_press N a1 a2 M = some (ex9, v9, M9)) : gq_Xi l D cI cZ ad mtC yX9_press cX9_press 4 (some .int) 7 [.ref (ad 0), .int a1, .int a2] M ex9 v9 M9 := by
  refine gq_introXi (own := RX9) (v := v9) (by decide) rfl (Nat.le_of_ble_eq_true rfl) ?_
  intro p e s m below meth c hC hr hZ htb
  refine g_cast (L2 := [(0, .ref (ad 0)), (1, .int a1), (2, .int a2)]) ?_ rfl rfl rfl rfl
  unfold f_X9_press at h
  refine g_iload_n hC 1 rfl rfl dX9_press_0 ?_
  refine g_bipush (v := 8) hC (by decide) dX9_press_1 ?_
  rcases gq_x2_i h with ⟨v1, M2, c3, h⟩ | ⟨k4, v1, M2, c3, hk4, h⟩
  rotate_left
  · exact g_SXo (as := [.int a1, .int 8]) hC hZ htb (tx_X9_mustExist hl9 N _ _ _ _ _ _ c3) hk4 h ⟨rfl, rfl⟩ mS_X9_mustExist wm_X9_79 rfl rfl (Nat.le_of_ble_eq_true rfl) ⟨Nat.le_of_ble_eq_true rfl, Nat.le_of_ble_eq_true rfl⟩ dX9_press_3
  refine g_Sv (as := [.int a1, .int 8]) hC (t_X9_mustExist N _ _ _ _ _ c3) mS_X9_mustExist wm_X9_79 rfl rfl (Nat.le_of_ble_eq_true rfl) ⟨Nat.le_of_ble_eq_true rfl, Nat.le_of_ble_eq_true rfl⟩ ⟨Nat.zero_le _, Nat.zero_le _⟩ dX9_press_3 ?_
  refine g_iload_n hC 2 rfl rfl dX9_press_6 ?_
  refine g_iconst (v := 3) hC (by decide) dX9_press_7 ?_
  rcases gq_x2_i h with ⟨v5, M6, c7, h⟩ | ⟨k8, v5, M6, c7, hk8, h⟩
  rotate_left
  · exact g_SXo (as := [.int a2, .int 3]) hC hZ htb (tx_X9_mustExist hl9 N _ _ _ _ _ _ c7) hk8 h ⟨rfl, rfl⟩ mS_X9_mustExist wm_X9_79 rfl rfl (Nat.le_of_ble_eq_true rfl) ⟨Nat.le_of_ble_eq_true rfl, Nat.le_of_ble_eq_true rfl⟩ dX9_press_8
  refine g_Sv (as := [.int a2, .int 3]) hC (t_X9_mustExist N _ _ _ _ _ c7) mS_X9_mustExist wm_X9_79 rfl rfl (Nat.le_of_ble_eq_true rfl) ⟨Nat.le_of_ble_eq_true rfl, Nat.le_of_ble_eq_true rfl⟩ ⟨Nat.zero_le _, Nat.zero_le _⟩ dX9_press_8 ?_
  refine g_aload_n hC 0 rfl rfl dX9_press_11 ?_
  refine g_getR hC fF_X9_47 lkC_0_5 dX9_press_12 ?_
  refine g_getR hC fF_X9_197 lkC_76_0 dX9_press_15 ?_
  refine g_iload_n hC 2 rfl rfl dX9_press_18 ?_
  obtain ⟨v9, M10, c11, h⟩ := gq_b_i h
  refine g_Vi (as := [.int a2]) hC (t_X8_at lkC_77_0 arC_78 N _ _ _ _ c11) mV_X8_at  wm_X9_200 obC_77 rfl rfl (Nat.le_of_ble_eq_true rfl) ⟨Nat.le_of_ble_eq_true rfl, Nat.le_of_ble_eq_true rfl⟩ ⟨Nat.zero_le _, Nat.zero_le _⟩ dX9_press_19 ?_
  refine g_iconst (v := 1) hC (by decide) dX9_press_22 ?_
  refine g_icmp_ne (tgt := 45) hC (by decide) dX9_press_23 (fun c12 => ?_) (fun c12 => ?_)
  · replace h := gq_f c12 h
    exact g_weak [0, 1, 2] rfl (t_X9_press_45 hl9 hZ htb hC hr  a1 a2 M10 h)
  · replace h := gq_t c12 h
    refine g_aload_n hC 0 rfl rfl dX9_press_26 ?_
    refine g_getR hC fF_X9_47 lkC_0_5 dX9_press_27 ?_
    refine g_getR hC fF_X9_129 lkC_76_7 dX9_press_30 ?_
    refine g_iload_n hC 2 rfl rfl dX9_press_33 ?_
    obtain ⟨v13, M14, c15, h⟩ := gq_b_i h
    refine g_Vi (as := [.int a2]) hC (t_X8_at lkC_91_0 arC_92 N _ _ _ _ c15) mV_X8_at  wm_X9_200 obC_91 rfl rfl (Nat.le_of_ble_eq_true rfl) ⟨Nat.le_of_ble_eq_true rfl, Nat.le_of_ble_eq_true rfl⟩ ⟨Nat.zero_le _, Nat.zero_le _⟩ dX9_press_34 ?_
    refine g_iconst (v := 1) hC (by decide) dX9_press_37 ?_
    refine g_icmp_ne (tgt := 45) hC (by decide) dX9_press_38 (fun c16 => ?_) (fun c16 => ?_)
    · replace h := gq_f c16 h
      exact g_weak [0, 1, 2] rfl (t_X9_press_45 hl9 hZ htb hC hr  a1 a2 M14 h)
    · replace h := gq_t c16 h
      refine g_iconst (v := 1) hC (by decide) dX9_press_41 ?_
      refine g_goto (tgt := 46) hC (by decide) dX9_press_42 ?_
      exact g_weak [0, 1, 2] rfl (t_X9_press_46 hl9 hZ htb hC hr  a1 a2 1 M14 h)
def f_X9_take_133 (N : Nat) (x2 : Int32) (x3 : Int32) (x4 : Int32) (s0 : Int32) (M : gq_M) : Option (Nat × Int32 × gq_M) :=
  gq_x2 (f_X9_mustHold N s0 M) (fx_X9_mustHold N s0 M) fun v48 M49 => gq_b (f_X9_sellFirst N x2 x3 M49) fun v52 M53 => gq_b (f_X9_goOn N x2 M53) fun v55 M56 => some (0, x4, M56)
set_option maxHeartbeats 1000000 in
set_option maxRecDepth 20000 in
theorem t_X9_take_133 {N : Nat} {ex9 : Nat} {v9 : Int32} {M9 : gq_M} (hl9 : l.stackTraces = false) (hZ : gq_Z A s) (htb : ∀ x ∈ c.exceptionTable.toList, False) (hC : gq_C p s m args meth c D A cI cZ ad mtC RX9 cX9_take 5) (hr : meth.sig.returnType = (some .int))   : ∀ (x2 : Int32) (x3 : Int32) (x4 : Int32) (s0 : Int32) (M : gq_M), f_X9_take_133 N  x2 x3 x4 s0 M = some (ex9, v9, M9) → gq_W p l e (gq_rx 7 ex9) s m args below meth c D A cI cZ ad mtC 5 (vx_MQ below (gq_Qix D cI cZ ad mtC ex9 v9 M9 A) (gq_XC D cI cZ ad mtC ex9 M9 A) args s (gq_xc ex9) (gq_xs ex9) A) 133 [(0, .ref (ad 0)), (2, .int x2), (3, .int x3), (4, .int x4)] [.int s0] M 0 0 := by
  intro x2 x3 x4 s0 M h
  unfold f_X9_take_133 at h
  rcases gq_x2_i h with ⟨v48, M49, c50, h⟩ | ⟨k51, v48, M49, c50, hk51, h⟩
  rotate_left
  · exact g_SXo (as := [.int s0]) hC hZ htb (tx_X9_mustHold hl9 N _ _ _ _ _ c50) hk51 h ⟨rfl, rfl⟩ mS_X9_mustHold wm_X9_138 rfl rfl (Nat.le_of_ble_eq_true rfl) ⟨Nat.le_of_ble_eq_true rfl, Nat.le_of_ble_eq_true rfl⟩ dX9_take_133
  refine g_Sv (as := [.int s0]) hC (t_X9_mustHold N _ _ _ _ c50) mS_X9_mustHold wm_X9_138 rfl rfl (Nat.le_of_ble_eq_true rfl) ⟨Nat.le_of_ble_eq_true rfl, Nat.le_of_ble_eq_true rfl⟩ ⟨Nat.zero_le _, Nat.zero_le _⟩ dX9_take_133 ?_
  refine g_aload_n hC 0 rfl rfl dX9_take_136 ?_
  refine g_iload_n hC 1 rfl rfl dX9_take_137 ?_
  refine g_iload_n hC 2 rfl rfl dX9_take_138 ?_
  obtain ⟨v52, M53, c54, h⟩ := gq_b_i h
  refine g_Vv (as := [.int x2, .int x3]) hC (t_X9_sellFirst N _ _ _ _ _ c54) mV_X9_sellFirst  wm_X9_226 obC_0 rfl rfl (Nat.le_of_ble_eq_true rfl) ⟨Nat.le_of_ble_eq_true rfl, Nat.le_of_ble_eq_true rfl⟩ ⟨Nat.zero_le _, Nat.zero_le _⟩ dX9_take_139 ?_
  refine g_aload_n hC 0 rfl rfl dX9_take_142 ?_
  refine g_iload_n hC 1 rfl rfl dX9_take_143 ?_
  obtain ⟨v55, M56, c57, h⟩ := gq_b_i h
  refine g_Vv (as := [.int x2]) hC (t_X9_goOn N _ _ _ _ c57) mV_X9_goOn  wm_X9_229 obC_0 rfl rfl (Nat.le_of_ble_eq_true rfl) ⟨Nat.le_of_ble_eq_true rfl, Nat.le_of_ble_eq_true rfl⟩ ⟨Nat.zero_le _, Nat.zero_le _⟩ dX9_take_144 ?_
  refine g_iload hC 3 rfl dX9_take_147 ?_
  exact g_iretsX hC hr h dX9_take_149
def f_X9_take_104 (N : Nat) (x1 : Int32) (x2 : Int32) (x3 : Int32) (s0 : Int32) (M : gq_M) : Option (Nat × Int32 × gq_M) :=
  gq_x2 (f_X9_mustHold N s0 M) (fx_X9_mustHold N s0 M) fun v37 M38 => gq_b (f_X9_costOfFirst N x2 x3 M38) fun v41 M42 => gq_b (f_X2_leftOf N x1 M42) fun v44 M45 => if v44 < v41 then (f_X9_take_133 N  x2 x3 v41 0 M45) else (f_X9_take_133 N  x2 x3 v41 1 M45)
set_option maxHeartbeats 1000000 in
set_option maxRecDepth 20000 in
theorem t_X9_take_104 {N : Nat} {ex9 : Nat} {v9 : Int32} {M9 : gq_M} (hl9 : l.stackTraces = false) (hZ : gq_Z A s) (htb : ∀ x ∈ c.exceptionTable.toList, False) (hC : gq_C p s m args meth c D A cI cZ ad mtC RX9 cX9_take 5) (hr : meth.sig.returnType = (some .int))   : ∀ (x1 : Int32) (x2 : Int32) (x3 : Int32) (s0 : Int32) (M : gq_M), f_X9_take_104 N  x1 x2 x3 s0 M = some (ex9, v9, M9) → gq_W p l e (gq_rx 7 ex9) s m args below meth c D A cI cZ ad mtC 5 (vx_MQ below (gq_Qix D cI cZ ad mtC ex9 v9 M9 A) (gq_XC D cI cZ ad mtC ex9 M9 A) args s (gq_xc ex9) (gq_xs ex9) A) 104 [(0, .ref (ad 0)), (1, .int x1), (2, .int x2), (3, .int x3)] [.int s0] M 0 0 := by
  intro x1 x2 x3 s0 M h
  unfold f_X9_take_104 at h
  rcases gq_x2_i h with ⟨v37, M38, c39, h⟩ | ⟨k40, v37, M38, c39, hk40, h⟩
  rotate_left
  · exact g_SXo (as := [.int s0]) hC hZ htb (tx_X9_mustHold hl9 N _ _ _ _ _ c39) hk40 h ⟨rfl, rfl⟩ mS_X9_mustHold wm_X9_138 rfl rfl (Nat.le_of_ble_eq_true rfl) ⟨Nat.le_of_ble_eq_true rfl, Nat.le_of_ble_eq_true rfl⟩ dX9_take_104
  refine g_Sv (as := [.int s0]) hC (t_X9_mustHold N _ _ _ _ c39) mS_X9_mustHold wm_X9_138 rfl rfl (Nat.le_of_ble_eq_true rfl) ⟨Nat.le_of_ble_eq_true rfl, Nat.le_of_ble_eq_true rfl⟩ ⟨Nat.zero_le _, Nat.zero_le _⟩ dX9_take_104 ?_
  refine g_aload_n hC 0 rfl rfl dX9_take_107 ?_
  refine g_iload_n hC 2 rfl rfl dX9_take_108 ?_
  refine g_iload_n hC 3 rfl rfl dX9_take_109 ?_
  obtain ⟨v41, M42, c43, h⟩ := gq_b_i h
  refine g_Vi (as := [.int x2, .int x3]) hC (t_X9_costOfFirst N _ _ _ _ _ c43) mV_X9_costOfFirst  wm_X9_220 obC_0 rfl rfl (Nat.le_of_ble_eq_true rfl) ⟨Nat.le_of_ble_eq_true rfl, Nat.le_of_ble_eq_true rfl⟩ ⟨Nat.zero_le _, Nat.zero_le _⟩ dX9_take_110 ?_
  refine g_istore (L2 := [(4, .int v41), (0, .ref (ad 0)), (1, .int x1), (2, .int x2), (3, .int x3)]) hC (by decide) rfl dX9_take_113 ?_
  refine g_iload hC 0 rfl dX9_take_115 ?_
  refine g_aload_n hC 1 rfl rfl dX9_take_117 ?_
  refine g_getR hC fF_X9_26 lkC_0_2 dX9_take_118 ?_
  refine g_iload_n hC 2 rfl rfl dX9_take_121 ?_
  obtain ⟨v44, M45, c46, h⟩ := gq_b_i h
  refine g_Vi (as := [.int x1]) hC (t_X2_leftOf N _ _ _ _ c46) mV_X2_leftOf  wm_X9_223 obC_23 rfl rfl (Nat.le_of_ble_eq_true rfl) ⟨Nat.le_of_ble_eq_true rfl, Nat.le_of_ble_eq_true rfl⟩ ⟨Nat.zero_le _, Nat.zero_le _⟩ dX9_take_122 ?_
  refine g_icmp_gt (tgt := 132) hC (by decide) dX9_take_125 (fun c47 => ?_) (fun c47 => ?_)
  · replace h := gq_t c47 h
    refine g_iconst (v := 0) hC (by decide) dX9_take_132 ?_
    exact g_weak [1, 3, 4, 0] rfl (t_X9_take_133 hl9 hZ htb hC hr  x2 x3 v41 0 M45 h)
  · replace h := gq_f c47 h
    refine g_iconst (v := 1) hC (by decide) dX9_take_128 ?_
    refine g_goto (tgt := 133) hC (by decide) dX9_take_129 ?_
    exact g_weak [1, 3, 4, 0] rfl (t_X9_take_133 hl9 hZ htb hC hr  x2 x3 v41 1 M45 h)
def f_X9_take_103 (N : Nat) (x1 : Int32) (x2 : Int32) (x3 : Int32) (M : gq_M) : Option (Nat × Int32 × gq_M) :=
  f_X9_take_104 N  x1 x2 x3 0 M
set_option maxHeartbeats 1000000 in
set_option maxRecDepth 20000 in
theorem t_X9_take_103 {N : Nat} {ex9 : Nat} {v9 : Int32} {M9 : gq_M} (hl9 : l.stackTraces = false) (hZ : gq_Z A s) (htb : ∀ x ∈ c.exceptionTable.toList, False) (hC : gq_C p s m args meth c D A cI cZ ad mtC RX9 cX9_take 5) (hr : meth.sig.returnType = (some .int))   : ∀ (x1 : Int32) (x2 : Int32) (x3 : Int32) (M : gq_M), f_X9_take_103 N  x1 x2 x3 M = some (ex9, v9, M9) → gq_W p l e (gq_rx 7 ex9) s m args below meth c D A cI cZ ad mtC 5 (vx_MQ below (gq_Qix D cI cZ ad mtC ex9 v9 M9 A) (gq_XC D cI cZ ad mtC ex9 M9 A) args s (gq_xc ex9) (gq_xs ex9) A) 103 [(0, .ref (ad 0)), (1, .int x1), (2, .int x2), (3, .int x3)] [] M 0 0 := by
  intro x1 x2 x3 M h
  unfold f_X9_take_103 at h
  refine g_iconst (v := 0) hC (by decide) dX9_take_103 ?_
  exact g_weak [0, 1, 2, 3] rfl (t_X9_take_104 hl9 hZ htb hC hr  x1 x2 x3 0 M h)
def f_X9_take_69 (N : Nat) (x1 : Int32) (x2 : Int32) (x3 : Int32) (s0 : Int32) (M : gq_M) : Option (Nat × Int32 × gq_M) :=
  gq_x2 (f_X9_mustHold N s0 M) (fx_X9_mustHold N s0 M) fun v25 M26 => if x3 < 1 then (f_X9_take_103 N  x1 x2 x3 M26) else (gq_b (f_X8_at 80 3 N x2 M26) fun v30 M31 => gq_b (f_X6_left N v30 M31) fun v33 M34 => if v33 < x3 then (f_X9_take_103 N  x1 x2 x3 M34) else (f_X9_take_104 N  x1 x2 x3 1 M34))
set_option maxHeartbeats 1000000 in
set_option maxRecDepth 20000 in
theorem t_X9_take_69 {N : Nat} {ex9 : Nat} {v9 : Int32} {M9 : gq_M} (hl9 : l.stackTraces = false) (hZ : gq_Z A s) (htb : ∀ x ∈ c.exceptionTable.toList, False) (hC : gq_C p s m args meth c D A cI cZ ad mtC RX9 cX9_take 5) (hr : meth.sig.returnType = (some .int))   : ∀ (x1 : Int32) (x2 : Int32) (x3 : Int32) (s0 : Int32) (M : gq_M), f_X9_take_69 N  x1 x2 x3 s0 M = some (ex9, v9, M9) → gq_W p l e (gq_rx 7 ex9) s m args below meth c D A cI cZ ad mtC 5 (vx_MQ below (gq_Qix D cI cZ ad mtC ex9 v9 M9 A) (gq_XC D cI cZ ad mtC ex9 M9 A) args s (gq_xc ex9) (gq_xs ex9) A) 69 [(0, .ref (ad 0)), (1, .int x1), (2, .int x2), (3, .int x3)] [.int s0] M 0 0 := by
  intro x1 x2 x3 s0 M h
  unfold f_X9_take_69 at h
  rcases gq_x2_i h with ⟨v25, M26, c27, h⟩ | ⟨k28, v25, M26, c27, hk28, h⟩
  rotate_left
  · exact g_SXo (as := [.int s0]) hC hZ htb (tx_X9_mustHold hl9 N _ _ _ _ _ c27) hk28 h ⟨rfl, rfl⟩ mS_X9_mustHold wm_X9_138 rfl rfl (Nat.le_of_ble_eq_true rfl) ⟨Nat.le_of_ble_eq_true rfl, Nat.le_of_ble_eq_true rfl⟩ dX9_take_69
  refine g_Sv (as := [.int s0]) hC (t_X9_mustHold N _ _ _ _ c27) mS_X9_mustHold wm_X9_138 rfl rfl (Nat.le_of_ble_eq_true rfl) ⟨Nat.le_of_ble_eq_true rfl, Nat.le_of_ble_eq_true rfl⟩ ⟨Nat.zero_le _, Nat.zero_le _⟩ dX9_take_69 ?_
  refine g_iload_n hC 3 rfl rfl dX9_take_72 ?_
  refine g_iconst (v := 1) hC (by decide) dX9_take_73 ?_
  refine g_icmp_lt (tgt := 103) hC (by decide) dX9_take_74 (fun c29 => ?_) (fun c29 => ?_)
  · replace h := gq_t c29 h
    exact g_weak [0, 1, 2, 3] rfl (t_X9_take_103 hl9 hZ htb hC hr  x1 x2 x3 M26 h)
  · replace h := gq_f c29 h
    refine g_iload_n hC 3 rfl rfl dX9_take_77 ?_
    refine g_aload_n hC 0 rfl rfl dX9_take_78 ?_
    refine g_getR hC fF_X9_40 lkC_0_4 dX9_take_79 ?_
    refine g_aload_n hC 0 rfl rfl dX9_take_82 ?_
    refine g_getR hC fF_X9_47 lkC_0_5 dX9_take_83 ?_
    refine g_getR hC fF_X9_216 lkC_76_1 dX9_take_86 ?_
    refine g_iload_n hC 2 rfl rfl dX9_take_89 ?_
    obtain ⟨v30, M31, c32, h⟩ := gq_b_i h
    refine g_Vi (as := [.int x2]) hC (t_X8_at lkC_79_0 arC_80 N _ _ _ _ c32) mV_X8_at  wm_X9_200 obC_79 rfl rfl (Nat.le_of_ble_eq_true rfl) ⟨Nat.le_of_ble_eq_true rfl, Nat.le_of_ble_eq_true rfl⟩ ⟨Nat.zero_le _, Nat.zero_le _⟩ dX9_take_90 ?_
    obtain ⟨v33, M34, c35, h⟩ := gq_b_i h
    refine g_Vi (as := [.int v30]) hC (t_X6_left N _ _ _ _ c35) mV_X6_left  wm_X9_217 obC_61 rfl rfl (Nat.le_of_ble_eq_true rfl) ⟨Nat.le_of_ble_eq_true rfl, Nat.le_of_ble_eq_true rfl⟩ ⟨Nat.zero_le _, Nat.zero_le _⟩ dX9_take_93 ?_
    refine g_icmp_gt (tgt := 103) hC (by decide) dX9_take_96 (fun c36 => ?_) (fun c36 => ?_)
    · replace h := gq_t c36 h
      exact g_weak [0, 1, 2, 3] rfl (t_X9_take_103 hl9 hZ htb hC hr  x1 x2 x3 M34 h)
    · replace h := gq_f c36 h
      refine g_iconst (v := 1) hC (by decide) dX9_take_99 ?_
      refine g_goto (tgt := 104) hC (by decide) dX9_take_100 ?_
      exact g_weak [0, 1, 2, 3] rfl (t_X9_take_104 hl9 hZ htb hC hr  x1 x2 x3 1 M34 h)
def f_X9_take_46 (N : Nat) (x1 : Int32) (x2 : Int32) (x3 : Int32) (s0 : Int32) (M : gq_M) : Option (Nat × Int32 × gq_M) :=
  gq_x2 (f_X9_mustHold N s0 M) (fx_X9_mustHold N s0 M) fun v17 M18 => gq_b (f_X8_at 84 3 N x2 M18) fun v21 M22 => if v21 = x1 then (f_X9_take_69 N  x1 x2 x3 1 M22) else (f_X9_take_69 N  x1 x2 x3 0 M22)
set_option maxHeartbeats 1000000 in
set_option maxRecDepth 20000 in
theorem t_X9_take_46 {N : Nat} {ex9 : Nat} {v9 : Int32} {M9 : gq_M} (hl9 : l.stackTraces = false) (hZ : gq_Z A s) (htb : ∀ x ∈ c.exceptionTable.toList, False) (hC : gq_C p s m args meth c D A cI cZ ad mtC RX9 cX9_take 5) (hr : meth.sig.returnType = (some .int))   : ∀ (x1 : Int32) (x2 : Int32) (x3 : Int32) (s0 : Int32) (M : gq_M), f_X9_take_46 N  x1 x2 x3 s0 M = some (ex9, v9, M9) → gq_W p l e (gq_rx 7 ex9) s m args below meth c D A cI cZ ad mtC 5 (vx_MQ below (gq_Qix D cI cZ ad mtC ex9 v9 M9 A) (gq_XC D cI cZ ad mtC ex9 M9 A) args s (gq_xc ex9) (gq_xs ex9) A) 46 [(0, .ref (ad 0)), (1, .int x1), (2, .int x2), (3, .int x3)] [.int s0] M 0 0 := by
  intro x1 x2 x3 s0 M h
  unfold f_X9_take_46 at h
  rcases gq_x2_i h with ⟨v17, M18, c19, h⟩ | ⟨k20, v17, M18, c19, hk20, h⟩
  rotate_left
  · exact g_SXo (as := [.int s0]) hC hZ htb (tx_X9_mustHold hl9 N _ _ _ _ _ c19) hk20 h ⟨rfl, rfl⟩ mS_X9_mustHold wm_X9_138 rfl rfl (Nat.le_of_ble_eq_true rfl) ⟨Nat.le_of_ble_eq_true rfl, Nat.le_of_ble_eq_true rfl⟩ dX9_take_46
  refine g_Sv (as := [.int s0]) hC (t_X9_mustHold N _ _ _ _ c19) mS_X9_mustHold wm_X9_138 rfl rfl (Nat.le_of_ble_eq_true rfl) ⟨Nat.le_of_ble_eq_true rfl, Nat.le_of_ble_eq_true rfl⟩ ⟨Nat.zero_le _, Nat.zero_le _⟩ dX9_take_46 ?_
  refine g_aload_n hC 0 rfl rfl dX9_take_49 ?_
  refine g_getR hC fF_X9_47 lkC_0_5 dX9_take_50 ?_
  refine g_getR hC fF_X9_213 lkC_76_3 dX9_take_53 ?_
  refine g_iload_n hC 2 rfl rfl dX9_take_56 ?_
  obtain ⟨v21, M22, c23, h⟩ := gq_b_i h
  refine g_Vi (as := [.int x2]) hC (t_X8_at lkC_83_0 arC_84 N _ _ _ _ c23) mV_X8_at  wm_X9_200 obC_83 rfl rfl (Nat.le_of_ble_eq_true rfl) ⟨Nat.le_of_ble_eq_true rfl, Nat.le_of_ble_eq_true rfl⟩ ⟨Nat.zero_le _, Nat.zero_le _⟩ dX9_take_57 ?_
  refine g_iload_n hC 1 rfl rfl dX9_take_60 ?_
  refine g_icmp_ne (tgt := 68) hC (by decide) dX9_take_61 (fun c24 => ?_) (fun c24 => ?_)
  · replace h := gq_f c24 h
    refine g_iconst (v := 0) hC (by decide) dX9_take_68 ?_
    exact g_weak [0, 1, 2, 3] rfl (t_X9_take_69 hl9 hZ htb hC hr  x1 x2 x3 0 M22 h)
  · replace h := gq_t c24 h
    refine g_iconst (v := 1) hC (by decide) dX9_take_64 ?_
    refine g_goto (tgt := 69) hC (by decide) dX9_take_65 ?_
    exact g_weak [0, 1, 2, 3] rfl (t_X9_take_69 hl9 hZ htb hC hr  x1 x2 x3 1 M22 h)
def f_X9_take_45 (N : Nat) (x1 : Int32) (x2 : Int32) (x3 : Int32) (M : gq_M) : Option (Nat × Int32 × gq_M) :=
  f_X9_take_46 N  x1 x2 x3 0 M
set_option maxHeartbeats 1000000 in
set_option maxRecDepth 20000 in
theorem t_X9_take_45 {N : Nat} {ex9 : Nat} {v9 : Int32} {M9 : gq_M} (hl9 : l.stackTraces = false) (hZ : gq_Z A s) (htb : ∀ x ∈ c.exceptionTable.toList, False) (hC : gq_C p s m args meth c D A cI cZ ad mtC RX9 cX9_take 5) (hr : meth.sig.returnType = (some .int))   : ∀ (x1 : Int32) (x2 : Int32) (x3 : Int32) (M : gq_M), f_X9_take_45 N  x1 x2 x3 M = some (ex9, v9, M9) → gq_W p l e (gq_rx 7 ex9) s m args below meth c D A cI cZ ad mtC 5 (vx_MQ below (gq_Qix D cI cZ ad mtC ex9 v9 M9 A) (gq_XC D cI cZ ad mtC ex9 M9 A) args s (gq_xc ex9) (gq_xs ex9) A) 45 [(0, .ref (ad 0)), (1, .int x1), (2, .int x2), (3, .int x3)] [] M 0 0 := by
  intro x1 x2 x3 M h
  unfold f_X9_take_45 at h
  refine g_iconst (v := 0) hC (by decide) dX9_take_45 ?_
  exact g_weak [0, 1, 2, 3] rfl (t_X9_take_46 hl9 hZ htb hC hr  x1 x2 x3 0 M h)
def f_X9_take (N : Nat) (a1 : Int32) (a2 : Int32) (a3 : Int32) (M : gq_M) : Option (Nat × Int32 × gq_M) :=
  gq_x2 (f_X9_mustExist N a1 8 M) (fx_X9_mustExist N a1 8 M) fun v1 M2 => gq_x2 (f_X9_mustExist N a2 3 M2) (fx_X9_mustExist N a2 3 M2) fun v5 M6 => gq_b (f_X8_at 78 3 N a2 M6) fun v9 M10 => if v9 = 3 then (gq_b (f_X8_at 92 3 N a2 M10) fun v13 M14 => if v13 = 1 then (f_X9_take_46 N  a1 a2 a3 1 M14) else (f_X9_take_45 N  a1 a2 a3 M14)) else (f_X9_take_45 N  a1 a2 a3 M10)
set_option maxHeartbeats 1000000 in
set_option maxRecDepth 20000 in
theorem t_X9_take {l : Launch} (hl9 : l.stackTraces = false) {D : va_G} {cI cZ : ClassId} {ad : Nat → Nat} (N : Nat) (a1 : Int32) (a2 : Int32) (a3 : Int32) (M : gq_M) (ex9 : Nat) (v9 : Int32) (M9 : gq_M) (h : f_X9_take N a1 a2 a3 M = some (ex9, v9, M9)) : gq_Xi l D cI cZ ad mtC yX9_take cX9_take 5 (some .int) 7 [.ref (ad 0), .int a1, .int a2, .int a3] M ex9 v9 M9 := by
  refine gq_introXi (own := RX9) (v := v9) (by decide) rfl (Nat.le_of_ble_eq_true rfl) ?_
  intro p e s m below meth c hC hr hZ htb
  refine g_cast (L2 := [(0, .ref (ad 0)), (1, .int a1), (2, .int a2), (3, .int a3)]) ?_ rfl rfl rfl rfl
  unfold f_X9_take at h
  refine g_iload_n hC 1 rfl rfl dX9_take_0 ?_
  refine g_bipush (v := 8) hC (by decide) dX9_take_1 ?_
  rcases gq_x2_i h with ⟨v1, M2, c3, h⟩ | ⟨k4, v1, M2, c3, hk4, h⟩
  rotate_left
  · exact g_SXo (as := [.int a1, .int 8]) hC hZ htb (tx_X9_mustExist hl9 N _ _ _ _ _ _ c3) hk4 h ⟨rfl, rfl⟩ mS_X9_mustExist wm_X9_79 rfl rfl (Nat.le_of_ble_eq_true rfl) ⟨Nat.le_of_ble_eq_true rfl, Nat.le_of_ble_eq_true rfl⟩ dX9_take_3
  refine g_Sv (as := [.int a1, .int 8]) hC (t_X9_mustExist N _ _ _ _ _ c3) mS_X9_mustExist wm_X9_79 rfl rfl (Nat.le_of_ble_eq_true rfl) ⟨Nat.le_of_ble_eq_true rfl, Nat.le_of_ble_eq_true rfl⟩ ⟨Nat.zero_le _, Nat.zero_le _⟩ dX9_take_3 ?_
  refine g_iload_n hC 2 rfl rfl dX9_take_6 ?_
  refine g_iconst (v := 3) hC (by decide) dX9_take_7 ?_
  rcases gq_x2_i h with ⟨v5, M6, c7, h⟩ | ⟨k8, v5, M6, c7, hk8, h⟩
  rotate_left
  · exact g_SXo (as := [.int a2, .int 3]) hC hZ htb (tx_X9_mustExist hl9 N _ _ _ _ _ _ c7) hk8 h ⟨rfl, rfl⟩ mS_X9_mustExist wm_X9_79 rfl rfl (Nat.le_of_ble_eq_true rfl) ⟨Nat.le_of_ble_eq_true rfl, Nat.le_of_ble_eq_true rfl⟩ dX9_take_8
  refine g_Sv (as := [.int a2, .int 3]) hC (t_X9_mustExist N _ _ _ _ _ c7) mS_X9_mustExist wm_X9_79 rfl rfl (Nat.le_of_ble_eq_true rfl) ⟨Nat.le_of_ble_eq_true rfl, Nat.le_of_ble_eq_true rfl⟩ ⟨Nat.zero_le _, Nat.zero_le _⟩ dX9_take_8 ?_
  refine g_aload_n hC 0 rfl rfl dX9_take_11 ?_
  refine g_getR hC fF_X9_47 lkC_0_5 dX9_take_12 ?_
  refine g_getR hC fF_X9_197 lkC_76_0 dX9_take_15 ?_
  refine g_iload_n hC 2 rfl rfl dX9_take_18 ?_
  obtain ⟨v9, M10, c11, h⟩ := gq_b_i h
  refine g_Vi (as := [.int a2]) hC (t_X8_at lkC_77_0 arC_78 N _ _ _ _ c11) mV_X8_at  wm_X9_200 obC_77 rfl rfl (Nat.le_of_ble_eq_true rfl) ⟨Nat.le_of_ble_eq_true rfl, Nat.le_of_ble_eq_true rfl⟩ ⟨Nat.zero_le _, Nat.zero_le _⟩ dX9_take_19 ?_
  refine g_iconst (v := 3) hC (by decide) dX9_take_22 ?_
  refine g_icmp_ne (tgt := 45) hC (by decide) dX9_take_23 (fun c12 => ?_) (fun c12 => ?_)
  · replace h := gq_f c12 h
    exact g_weak [0, 1, 2, 3] rfl (t_X9_take_45 hl9 hZ htb hC hr  a1 a2 a3 M10 h)
  · replace h := gq_t c12 h
    refine g_aload_n hC 0 rfl rfl dX9_take_26 ?_
    refine g_getR hC fF_X9_47 lkC_0_5 dX9_take_27 ?_
    refine g_getR hC fF_X9_129 lkC_76_7 dX9_take_30 ?_
    refine g_iload_n hC 2 rfl rfl dX9_take_33 ?_
    obtain ⟨v13, M14, c15, h⟩ := gq_b_i h
    refine g_Vi (as := [.int a2]) hC (t_X8_at lkC_91_0 arC_92 N _ _ _ _ c15) mV_X8_at  wm_X9_200 obC_91 rfl rfl (Nat.le_of_ble_eq_true rfl) ⟨Nat.le_of_ble_eq_true rfl, Nat.le_of_ble_eq_true rfl⟩ ⟨Nat.zero_le _, Nat.zero_le _⟩ dX9_take_34 ?_
    refine g_iconst (v := 1) hC (by decide) dX9_take_37 ?_
    refine g_icmp_ne (tgt := 45) hC (by decide) dX9_take_38 (fun c16 => ?_) (fun c16 => ?_)
    · replace h := gq_f c16 h
      exact g_weak [0, 1, 2, 3] rfl (t_X9_take_45 hl9 hZ htb hC hr  a1 a2 a3 M14 h)
    · replace h := gq_t c16 h
      refine g_iconst (v := 1) hC (by decide) dX9_take_41 ?_
      refine g_goto (tgt := 46) hC (by decide) dX9_take_42 ?_
      exact g_weak [0, 1, 2, 3] rfl (t_X9_take_46 hl9 hZ htb hC hr  a1 a2 a3 1 M14 h)
def f_X9_pass_29_b (N : Nat) (kh29 : Int32 → Int32 → gq_M → Option (Nat × Int32 × gq_M)) (x1 : Int32) (x2 : Int32) (M : gq_M) : Option (Nat × Int32 × gq_M) :=
  if x1 ≤ x2 then (some (0, (M 0 8), M)) else (gq_l (gq_up M 0 8 ((M 0 8) + 1)) fun M11 => gq_b (f_X9_tickHalls N  M11) fun v12 M13 => gq_b (f_X9_sendLorries N  M13) fun v15 M16 => kh29 x1 (x2 + 1) M16)
def f_X9_pass_29 (N : Nat) : Nat → Int32 → Int32 → gq_M → Option (Nat × Int32 × gq_M)
  | 0 => fun _ _ _ => none
  | n9 + 1 => f_X9_pass_29_b N  (f_X9_pass_29 N  n9)
set_option maxHeartbeats 1000000 in
set_option maxRecDepth 20000 in
theorem t_X9_pass_29_b {N : Nat} {kh29 : Int32 → Int32 → gq_M → Option (Nat × Int32 × gq_M)} {ex9 : Nat} {v9 : Int32} {M9 : gq_M} (hl9 : l.stackTraces = false) (hZ : gq_Z A s) (htb : ∀ x ∈ c.exceptionTable.toList, False) (hC : gq_C p s m args meth c D A cI cZ ad mtC RX9 cX9_pass 3) (hr : meth.sig.returnType = (some .int))  (hk29 : ∀ (x1 : Int32) (x2 : Int32) (M : gq_M), kh29 x1 x2 M = some (ex9, v9, M9) → gq_W p l e (gq_rx 7 ex9) s m args below meth c D A cI cZ ad mtC 3 (vx_MQ below (gq_Qix D cI cZ ad mtC ex9 v9 M9 A) (gq_XC D cI cZ ad mtC ex9 M9 A) args s (gq_xc ex9) (gq_xs ex9) A) 29 [(0, .ref (ad 0)), (1, .int x1), (2, .int x2)] [] M 0 0) : ∀ (x1 : Int32) (x2 : Int32) (M : gq_M), f_X9_pass_29_b N  kh29 x1 x2 M = some (ex9, v9, M9) → gq_W p l e (gq_rx 7 ex9) s m args below meth c D A cI cZ ad mtC 3 (vx_MQ below (gq_Qix D cI cZ ad mtC ex9 v9 M9 A) (gq_XC D cI cZ ad mtC ex9 M9 A) args s (gq_xc ex9) (gq_xs ex9) A) 29 [(0, .ref (ad 0)), (1, .int x1), (2, .int x2)] [] M 0 0 := by
  intro x1 x2 M h
  unfold f_X9_pass_29_b at h
  refine g_iload_n hC 2 rfl rfl dX9_pass_29 ?_
  refine g_iload_n hC 1 rfl rfl dX9_pass_30 ?_
  refine g_icmp_ge (tgt := 58) hC (by decide) dX9_pass_31 (fun c10 => ?_) (fun c10 => ?_)
  · replace h := gq_t c10 h
    refine g_aload_n hC 0 rfl rfl dX9_pass_58 ?_
    refine g_getI hC fF_X9_65 lkC_0_8 dX9_pass_59 ?_
    exact g_iretsX hC hr h dX9_pass_62
  · replace h := gq_f c10 h
    refine g_aload_n hC 0 rfl rfl dX9_pass_34 ?_
    refine g_dup hC rfl dX9_pass_35 ?_
    refine g_getI hC fF_X9_65 lkC_0_8 dX9_pass_36 ?_
    refine g_iconst (v := 1) hC (by decide) dX9_pass_39 ?_
    refine g_iadd hC dX9_pass_40 ?_
    refine g_putI hC fG_X9_65 lkC_0_8 dX9_pass_41 ?_
    refine g_topM (fun M11 hM11 => ?_)
    replace h := gq_l_i hM11 h
    refine g_aload_n hC 0 rfl rfl dX9_pass_44 ?_
    obtain ⟨v12, M13, c14, h⟩ := gq_b_i h
    refine g_Vv (as := []) hC (t_X9_tickHalls N  _ _ _ c14) mV_X9_tickHalls  wm_X9_232 obC_0 rfl rfl (Nat.le_of_ble_eq_true rfl) ⟨Nat.le_of_ble_eq_true rfl, Nat.le_of_ble_eq_true rfl⟩ ⟨Nat.zero_le _, Nat.zero_le _⟩ dX9_pass_45 ?_
    refine g_aload_n hC 0 rfl rfl dX9_pass_48 ?_
    obtain ⟨v15, M16, c17, h⟩ := gq_b_i h
    refine g_Vv (as := []) hC (t_X9_sendLorries N  _ _ _ c17) mV_X9_sendLorries  wm_X9_235 obC_0 rfl rfl (Nat.le_of_ble_eq_true rfl) ⟨Nat.le_of_ble_eq_true rfl, Nat.le_of_ble_eq_true rfl⟩ ⟨Nat.zero_le _, Nat.zero_le _⟩ dX9_pass_49 ?_
    refine g_iinc (v := (x2 + 1)) (L2 := [(2, .int (x2 + 1)), (0, .ref (ad 0)), (1, .int x1)]) hC 2 rfl (by first | rfl | decide) (by decide) rfl dX9_pass_52 ?_
    refine g_goto (tgt := 29) hC (by decide) dX9_pass_55 ?_
    exact g_weak [1, 2, 0] rfl (hk29 x1 (x2 + 1) M16 h)
theorem t_X9_pass_29 {N : Nat} {ex9 : Nat} {v9 : Int32} {M9 : gq_M} (hl9 : l.stackTraces = false) (hZ : gq_Z A s) (htb : ∀ x ∈ c.exceptionTable.toList, False) (hC : gq_C p s m args meth c D A cI cZ ad mtC RX9 cX9_pass 3) (hr : meth.sig.returnType = (some .int))  : ∀ (n9 : Nat) (x1 : Int32) (x2 : Int32) (M : gq_M), f_X9_pass_29 N  n9 x1 x2 M = some (ex9, v9, M9) → gq_W p l e (gq_rx 7 ex9) s m args below meth c D A cI cZ ad mtC 3 (vx_MQ below (gq_Qix D cI cZ ad mtC ex9 v9 M9 A) (gq_XC D cI cZ ad mtC ex9 M9 A) args s (gq_xc ex9) (gq_xs ex9) A) 29 [(0, .ref (ad 0)), (1, .int x1), (2, .int x2)] [] M 0 0 := by
  intro n9
  induction n9 with
  | zero => intro x1 x2 M h; cases h
  | succ n9 ih => intro x1 x2 M h; exact t_X9_pass_29_b hl9 hZ htb hC hr  ih x1 x2 M h
def f_X9_pass_24 (N : Nat) (x1 : Int32) (s0 : Int32) (M : gq_M) : Option (Nat × Int32 × gq_M) :=
  gq_x2 (f_X9_mustHold N s0 M) (fx_X9_mustHold N s0 M) fun v6 M7 => f_X9_pass_29 N  N x1 0 M7
set_option maxHeartbeats 1000000 in
set_option maxRecDepth 20000 in
theorem t_X9_pass_24 {N : Nat} {ex9 : Nat} {v9 : Int32} {M9 : gq_M} (hl9 : l.stackTraces = false) (hZ : gq_Z A s) (htb : ∀ x ∈ c.exceptionTable.toList, False) (hC : gq_C p s m args meth c D A cI cZ ad mtC RX9 cX9_pass 3) (hr : meth.sig.returnType = (some .int))   : ∀ (x1 : Int32) (s0 : Int32) (M : gq_M), f_X9_pass_24 N  x1 s0 M = some (ex9, v9, M9) → gq_W p l e (gq_rx 7 ex9) s m args below meth c D A cI cZ ad mtC 3 (vx_MQ below (gq_Qix D cI cZ ad mtC ex9 v9 M9 A) (gq_XC D cI cZ ad mtC ex9 M9 A) args s (gq_xc ex9) (gq_xs ex9) A) 24 [(0, .ref (ad 0)), (1, .int x1)] [.int s0] M 0 0 := by
  intro x1 s0 M h
  unfold f_X9_pass_24 at h
  rcases gq_x2_i h with ⟨v6, M7, c8, h⟩ | ⟨k9, v6, M7, c8, hk9, h⟩
  rotate_left
  · exact g_SXo (as := [.int s0]) hC hZ htb (tx_X9_mustHold hl9 N _ _ _ _ _ c8) hk9 h ⟨rfl, rfl⟩ mS_X9_mustHold wm_X9_138 rfl rfl (Nat.le_of_ble_eq_true rfl) ⟨Nat.le_of_ble_eq_true rfl, Nat.le_of_ble_eq_true rfl⟩ dX9_pass_24
  refine g_Sv (as := [.int s0]) hC (t_X9_mustHold N _ _ _ _ c8) mS_X9_mustHold wm_X9_138 rfl rfl (Nat.le_of_ble_eq_true rfl) ⟨Nat.le_of_ble_eq_true rfl, Nat.le_of_ble_eq_true rfl⟩ ⟨Nat.zero_le _, Nat.zero_le _⟩ dX9_pass_24 ?_
  refine g_iconst (v := 0) hC (by decide) dX9_pass_27 ?_
  refine g_istore_n (L2 := [(2, .int 0), (0, .ref (ad 0)), (1, .int x1)]) hC rfl (by decide) rfl dX9_pass_28 ?_
  exact g_weak [1, 2, 0] rfl (t_X9_pass_29 hl9 hZ htb hC hr  N x1 0 M7 h)
def f_X9_pass (N : Nat) (a1 : Int32) (M : gq_M) : Option (Nat × Int32 × gq_M) :=
  gq_x2 (f_X9_mustBeIn N a1 1 500 M) (fx_X9_mustBeIn N a1 1 500 M) fun v1 M2 => if 100000 < ((M2 0 8) + a1) then (f_X9_pass_24 N  a1 0 M2) else (f_X9_pass_24 N  a1 1 M2)
set_option maxHeartbeats 1000000 in
set_option maxRecDepth 20000 in
theorem t_X9_pass {l : Launch} (hl9 : l.stackTraces = false) {D : va_G} {cI cZ : ClassId} {ad : Nat → Nat} (N : Nat) (a1 : Int32) (M : gq_M) (ex9 : Nat) (v9 : Int32) (M9 : gq_M) (h : f_X9_pass N a1 M = some (ex9, v9, M9)) : gq_Xi l D cI cZ ad mtC yX9_pass cX9_pass 3 (some .int) 7 [.ref (ad 0), .int a1] M ex9 v9 M9 := by
  refine gq_introXi (own := RX9) (v := v9) (by decide) rfl (Nat.le_of_ble_eq_true rfl) ?_
  intro p e s m below meth c hC hr hZ htb
  refine g_cast (L2 := [(0, .ref (ad 0)), (1, .int a1)]) ?_ rfl rfl rfl rfl
  unfold f_X9_pass at h
  refine g_iload_n hC 1 rfl rfl dX9_pass_0 ?_
  refine g_iconst (v := 1) hC (by decide) dX9_pass_1 ?_
  refine g_sipush (v := 500) hC (by decide) dX9_pass_2 ?_
  rcases gq_x2_i h with ⟨v1, M2, c3, h⟩ | ⟨k4, v1, M2, c3, hk4, h⟩
  rotate_left
  · exact g_SXo (as := [.int a1, .int 1, .int 500]) hC hZ htb (tx_X9_mustBeIn hl9 N _ _ _ _ _ _ _ c3) hk4 h ⟨rfl, rfl⟩ mS_X9_mustBeIn wm_X9_84 rfl rfl (Nat.le_of_ble_eq_true rfl) ⟨Nat.le_of_ble_eq_true rfl, Nat.le_of_ble_eq_true rfl⟩ dX9_pass_5
  refine g_Sv (as := [.int a1, .int 1, .int 500]) hC (t_X9_mustBeIn N _ _ _ _ _ _ c3) mS_X9_mustBeIn wm_X9_84 rfl rfl (Nat.le_of_ble_eq_true rfl) ⟨Nat.le_of_ble_eq_true rfl, Nat.le_of_ble_eq_true rfl⟩ ⟨Nat.zero_le _, Nat.zero_le _⟩ dX9_pass_5 ?_
  refine g_aload_n hC 0 rfl rfl dX9_pass_8 ?_
  refine g_getI hC fF_X9_65 lkC_0_8 dX9_pass_9 ?_
  refine g_iload_n hC 1 rfl rfl dX9_pass_12 ?_
  refine g_iadd hC dX9_pass_13 ?_
  refine g_ldc (v := 100000) hC wk_X9_83 dX9_pass_14 ?_
  refine g_icmp_gt (tgt := 23) hC (by decide) dX9_pass_16 (fun c5 => ?_) (fun c5 => ?_)
  · replace h := gq_t c5 h
    refine g_iconst (v := 0) hC (by decide) dX9_pass_23 ?_
    exact g_weak [0, 1] rfl (t_X9_pass_24 hl9 hZ htb hC hr  a1 0 M2 h)
  · replace h := gq_f c5 h
    refine g_iconst (v := 1) hC (by decide) dX9_pass_19 ?_
    refine g_goto (tgt := 24) hC (by decide) dX9_pass_20 ?_
    exact g_weak [0, 1] rfl (t_X9_pass_24 hl9 hZ htb hC hr  a1 1 M2 h)
def f_X9_lorry_42 (N : Nat) (x1 : Int32) (x2 : Int32) (x3 : Int32) (s0 : Int32) (M : gq_M) : Option (Nat × Int32 × gq_M) :=
  gq_x2 (f_X9_mustHold N s0 M) (fx_X9_mustHold N s0 M) fun v14 M15 => gq_b (f_X5_add N x1 x2 x3 M15) fun v18 M19 => some (0, v18, M19)
set_option maxHeartbeats 1000000 in
set_option maxRecDepth 20000 in
theorem t_X9_lorry_42 {N : Nat} {ex9 : Nat} {v9 : Int32} {M9 : gq_M} (hl9 : l.stackTraces = false) (hZ : gq_Z A s) (htb : ∀ x ∈ c.exceptionTable.toList, False) (hC : gq_C p s m args meth c D A cI cZ ad mtC RX9 cX9_lorry 4) (hr : meth.sig.returnType = (some .int))   : ∀ (x1 : Int32) (x2 : Int32) (x3 : Int32) (s0 : Int32) (M : gq_M), f_X9_lorry_42 N  x1 x2 x3 s0 M = some (ex9, v9, M9) → gq_W p l e (gq_rx 7 ex9) s m args below meth c D A cI cZ ad mtC 4 (vx_MQ below (gq_Qix D cI cZ ad mtC ex9 v9 M9 A) (gq_XC D cI cZ ad mtC ex9 M9 A) args s (gq_xc ex9) (gq_xs ex9) A) 42 [(0, .ref (ad 0)), (1, .int x1), (2, .int x2), (3, .int x3)] [.int s0] M 0 0 := by
  intro x1 x2 x3 s0 M h
  unfold f_X9_lorry_42 at h
  rcases gq_x2_i h with ⟨v14, M15, c16, h⟩ | ⟨k17, v14, M15, c16, hk17, h⟩
  rotate_left
  · exact g_SXo (as := [.int s0]) hC hZ htb (tx_X9_mustHold hl9 N _ _ _ _ _ c16) hk17 h ⟨rfl, rfl⟩ mS_X9_mustHold wm_X9_138 rfl rfl (Nat.le_of_ble_eq_true rfl) ⟨Nat.le_of_ble_eq_true rfl, Nat.le_of_ble_eq_true rfl⟩ dX9_lorry_42
  refine g_Sv (as := [.int s0]) hC (t_X9_mustHold N _ _ _ _ c16) mS_X9_mustHold wm_X9_138 rfl rfl (Nat.le_of_ble_eq_true rfl) ⟨Nat.le_of_ble_eq_true rfl, Nat.le_of_ble_eq_true rfl⟩ ⟨Nat.zero_le _, Nat.zero_le _⟩ dX9_lorry_42 ?_
  refine g_aload_n hC 0 rfl rfl dX9_lorry_45 ?_
  refine g_getR hC fF_X9_61 lkC_0_7 dX9_lorry_46 ?_
  refine g_iload_n hC 1 rfl rfl dX9_lorry_49 ?_
  refine g_iload_n hC 2 rfl rfl dX9_lorry_50 ?_
  refine g_iload_n hC 3 rfl rfl dX9_lorry_51 ?_
  obtain ⟨v18, M19, c20, h⟩ := gq_b_i h
  refine g_Vi (as := [.int x1, .int x2, .int x3]) hC (t_X5_add N _ _ _ _ _ _ c20) mV_X5_add  wm_X9_239 obC_100 rfl rfl (Nat.le_of_ble_eq_true rfl) ⟨Nat.le_of_ble_eq_true rfl, Nat.le_of_ble_eq_true rfl⟩ ⟨Nat.zero_le _, Nat.zero_le _⟩ dX9_lorry_52 ?_
  exact g_iretsX hC hr h dX9_lorry_55
def f_X9_lorry (N : Nat) (a1 : Int32) (a2 : Int32) (a3 : Int32) (M : gq_M) : Option (Nat × Int32 × gq_M) :=
  gq_x2 (f_X9_mustExist N a1 8 M) (fx_X9_mustExist N a1 8 M) fun v1 M2 => gq_x2 (f_X9_mustBeIn N a2 ((M2 0 8) + 1) 100000 M2) (fx_X9_mustBeIn N a2 ((M2 0 8) + 1) 100000 M2) fun v5 M6 => gq_x2 (f_X9_mustBeIn N a3 1 50 M6) (fx_X9_mustBeIn N a3 1 50 M6) fun v9 M10 => if 20 ≤ (M10 100 4) then (f_X9_lorry_42 N  a1 a2 a3 0 M10) else (f_X9_lorry_42 N  a1 a2 a3 1 M10)
set_option maxHeartbeats 1000000 in
set_option maxRecDepth 20000 in
theorem t_X9_lorry {l : Launch} (hl9 : l.stackTraces = false) {D : va_G} {cI cZ : ClassId} {ad : Nat → Nat} (N : Nat) (a1 : Int32) (a2 : Int32) (a3 : Int32) (M : gq_M) (ex9 : Nat) (v9 : Int32) (M9 : gq_M) (h : f_X9_lorry N a1 a2 a3 M = some (ex9, v9, M9)) : gq_Xi l D cI cZ ad mtC yX9_lorry cX9_lorry 4 (some .int) 7 [.ref (ad 0), .int a1, .int a2, .int a3] M ex9 v9 M9 := by
  refine gq_introXi (own := RX9) (v := v9) (by decide) rfl (Nat.le_of_ble_eq_true rfl) ?_
  intro p e s m below meth c hC hr hZ htb
  refine g_cast (L2 := [(0, .ref (ad 0)), (1, .int a1), (2, .int a2), (3, .int a3)]) ?_ rfl rfl rfl rfl
  unfold f_X9_lorry at h
  refine g_iload_n hC 1 rfl rfl dX9_lorry_0 ?_
  refine g_bipush (v := 8) hC (by decide) dX9_lorry_1 ?_
  rcases gq_x2_i h with ⟨v1, M2, c3, h⟩ | ⟨k4, v1, M2, c3, hk4, h⟩
  rotate_left
  · exact g_SXo (as := [.int a1, .int 8]) hC hZ htb (tx_X9_mustExist hl9 N _ _ _ _ _ _ c3) hk4 h ⟨rfl, rfl⟩ mS_X9_mustExist wm_X9_79 rfl rfl (Nat.le_of_ble_eq_true rfl) ⟨Nat.le_of_ble_eq_true rfl, Nat.le_of_ble_eq_true rfl⟩ dX9_lorry_3
  refine g_Sv (as := [.int a1, .int 8]) hC (t_X9_mustExist N _ _ _ _ _ c3) mS_X9_mustExist wm_X9_79 rfl rfl (Nat.le_of_ble_eq_true rfl) ⟨Nat.le_of_ble_eq_true rfl, Nat.le_of_ble_eq_true rfl⟩ ⟨Nat.zero_le _, Nat.zero_le _⟩ dX9_lorry_3 ?_
  refine g_iload_n hC 2 rfl rfl dX9_lorry_6 ?_
  refine g_aload_n hC 0 rfl rfl dX9_lorry_7 ?_
  refine g_getI hC fF_X9_65 lkC_0_8 dX9_lorry_8 ?_
  refine g_iconst (v := 1) hC (by decide) dX9_lorry_11 ?_
  refine g_iadd hC dX9_lorry_12 ?_
  refine g_ldc (v := 100000) hC wk_X9_83 dX9_lorry_13 ?_
  rcases gq_x2_i h with ⟨v5, M6, c7, h⟩ | ⟨k8, v5, M6, c7, hk8, h⟩
  rotate_left
  · exact g_SXo (as := [.int a2, .int ((M2 0 8) + 1), .int 100000]) hC hZ htb (tx_X9_mustBeIn hl9 N _ _ _ _ _ _ _ c7) hk8 h ⟨rfl, rfl⟩ mS_X9_mustBeIn wm_X9_84 rfl rfl (Nat.le_of_ble_eq_true rfl) ⟨Nat.le_of_ble_eq_true rfl, Nat.le_of_ble_eq_true rfl⟩ dX9_lorry_15
  refine g_Sv (as := [.int a2, .int ((M2 0 8) + 1), .int 100000]) hC (t_X9_mustBeIn N _ _ _ _ _ _ c7) mS_X9_mustBeIn wm_X9_84 rfl rfl (Nat.le_of_ble_eq_true rfl) ⟨Nat.le_of_ble_eq_true rfl, Nat.le_of_ble_eq_true rfl⟩ ⟨Nat.zero_le _, Nat.zero_le _⟩ dX9_lorry_15 ?_
  refine g_iload_n hC 3 rfl rfl dX9_lorry_18 ?_
  refine g_iconst (v := 1) hC (by decide) dX9_lorry_19 ?_
  refine g_bipush (v := 50) hC (by decide) dX9_lorry_20 ?_
  rcases gq_x2_i h with ⟨v9, M10, c11, h⟩ | ⟨k12, v9, M10, c11, hk12, h⟩
  rotate_left
  · exact g_SXo (as := [.int a3, .int 1, .int 50]) hC hZ htb (tx_X9_mustBeIn hl9 N _ _ _ _ _ _ _ c11) hk12 h ⟨rfl, rfl⟩ mS_X9_mustBeIn wm_X9_84 rfl rfl (Nat.le_of_ble_eq_true rfl) ⟨Nat.le_of_ble_eq_true rfl, Nat.le_of_ble_eq_true rfl⟩ dX9_lorry_22
  refine g_Sv (as := [.int a3, .int 1, .int 50]) hC (t_X9_mustBeIn N _ _ _ _ _ _ c11) mS_X9_mustBeIn wm_X9_84 rfl rfl (Nat.le_of_ble_eq_true rfl) ⟨Nat.le_of_ble_eq_true rfl, Nat.le_of_ble_eq_true rfl⟩ ⟨Nat.zero_le _, Nat.zero_le _⟩ dX9_lorry_22 ?_
  refine g_aload_n hC 0 rfl rfl dX9_lorry_25 ?_
  refine g_getR hC fF_X9_61 lkC_0_7 dX9_lorry_26 ?_
  refine g_getI hC fF_X9_238 lkC_100_4 dX9_lorry_29 ?_
  refine g_bipush (v := 20) hC (by decide) dX9_lorry_32 ?_
  refine g_icmp_ge (tgt := 41) hC (by decide) dX9_lorry_34 (fun c13 => ?_) (fun c13 => ?_)
  · replace h := gq_t c13 h
    refine g_iconst (v := 0) hC (by decide) dX9_lorry_41 ?_
    exact g_weak [0, 1, 2, 3] rfl (t_X9_lorry_42 hl9 hZ htb hC hr  a1 a2 a3 0 M10 h)
  · replace h := gq_f c13 h
    refine g_iconst (v := 1) hC (by decide) dX9_lorry_37 ?_
    refine g_goto (tgt := 42) hC (by decide) dX9_lorry_38 ?_
    exact g_weak [0, 1, 2, 3] rfl (t_X9_lorry_42 hl9 hZ htb hC hr  a1 a2 a3 1 M10 h)
def f_X9_pay (N : Nat) (a1 : Int32) (a2 : Int32) (M : gq_M) : Option (Nat × Int32 × gq_M) :=
  gq_x2 (f_X9_mustExist N a1 8 M) (fx_X9_mustExist N a1 8 M) fun v1 M2 => gq_x2 (f_X9_mustBeIn N a2 1 100000000 M2) (fx_X9_mustBeIn N a2 1 100000000 M2) fun v5 M6 => gq_b (f_X8_at 29 8 N a1 M6) fun v9 M10 => gq_l (if v9 < a2 then v9 else a2) fun v12 => gq_l (if 0 < v12 then v12 else 0) fun v13 => gq_b (f_X8_add 29 8 N a1 (-v13) M10) fun v14 M15 => some (0, v13, M15)
set_option maxHeartbeats 1000000 in
set_option maxRecDepth 20000 in
theorem t_X9_pay {l : Launch} (hl9 : l.stackTraces = false) {D : va_G} {cI cZ : ClassId} {ad : Nat → Nat} (N : Nat) (a1 : Int32) (a2 : Int32) (M : gq_M) (ex9 : Nat) (v9 : Int32) (M9 : gq_M) (h : f_X9_pay N a1 a2 M = some (ex9, v9, M9)) : gq_Xi l D cI cZ ad mtC yX9_pay cX9_pay 4 (some .int) 7 [.ref (ad 0), .int a1, .int a2] M ex9 v9 M9 := by
  refine gq_introXi (own := RX9) (v := v9) (by decide) rfl (Nat.le_of_ble_eq_true rfl) ?_
  intro p e s m below meth c hC hr hZ htb
  refine g_cast (L2 := [(0, .ref (ad 0)), (1, .int a1), (2, .int a2)]) ?_ rfl rfl rfl rfl
  unfold f_X9_pay at h
  refine g_iload_n hC 1 rfl rfl dX9_pay_0 ?_
  refine g_bipush (v := 8) hC (by decide) dX9_pay_1 ?_
  rcases gq_x2_i h with ⟨v1, M2, c3, h⟩ | ⟨k4, v1, M2, c3, hk4, h⟩
  rotate_left
  · exact g_SXo (as := [.int a1, .int 8]) hC hZ htb (tx_X9_mustExist hl9 N _ _ _ _ _ _ c3) hk4 h ⟨rfl, rfl⟩ mS_X9_mustExist wm_X9_79 rfl rfl (Nat.le_of_ble_eq_true rfl) ⟨Nat.le_of_ble_eq_true rfl, Nat.le_of_ble_eq_true rfl⟩ dX9_pay_3
  refine g_Sv (as := [.int a1, .int 8]) hC (t_X9_mustExist N _ _ _ _ _ c3) mS_X9_mustExist wm_X9_79 rfl rfl (Nat.le_of_ble_eq_true rfl) ⟨Nat.le_of_ble_eq_true rfl, Nat.le_of_ble_eq_true rfl⟩ ⟨Nat.zero_le _, Nat.zero_le _⟩ dX9_pay_3 ?_
  refine g_iload_n hC 2 rfl rfl dX9_pay_6 ?_
  refine g_iconst (v := 1) hC (by decide) dX9_pay_7 ?_
  refine g_ldc (v := 100000000) hC wk_X9_122 dX9_pay_8 ?_
  rcases gq_x2_i h with ⟨v5, M6, c7, h⟩ | ⟨k8, v5, M6, c7, hk8, h⟩
  rotate_left
  · exact g_SXo (as := [.int a2, .int 1, .int 100000000]) hC hZ htb (tx_X9_mustBeIn hl9 N _ _ _ _ _ _ _ c7) hk8 h ⟨rfl, rfl⟩ mS_X9_mustBeIn wm_X9_84 rfl rfl (Nat.le_of_ble_eq_true rfl) ⟨Nat.le_of_ble_eq_true rfl, Nat.le_of_ble_eq_true rfl⟩ dX9_pay_10
  refine g_Sv (as := [.int a2, .int 1, .int 100000000]) hC (t_X9_mustBeIn N _ _ _ _ _ _ c7) mS_X9_mustBeIn wm_X9_84 rfl rfl (Nat.le_of_ble_eq_true rfl) ⟨Nat.le_of_ble_eq_true rfl, Nat.le_of_ble_eq_true rfl⟩ ⟨Nat.zero_le _, Nat.zero_le _⟩ dX9_pay_10 ?_
  refine g_iconst (v := 0) hC (by decide) dX9_pay_13 ?_
  refine g_iload_n hC 2 rfl rfl dX9_pay_14 ?_
  refine g_aload_n hC 0 rfl rfl dX9_pay_15 ?_
  refine g_getR hC fF_X9_26 lkC_0_2 dX9_pay_16 ?_
  refine g_getR hC fF_X9_241 lkC_23_2 dX9_pay_19 ?_
  refine g_iload_n hC 1 rfl rfl dX9_pay_22 ?_
  obtain ⟨v9, M10, c11, h⟩ := gq_b_i h
  refine g_Vi (as := [.int a1]) hC (t_X8_at lkC_28_0 arC_29 N _ _ _ _ c11) mV_X8_at  wm_X9_200 obC_28 rfl rfl (Nat.le_of_ble_eq_true rfl) ⟨Nat.le_of_ble_eq_true rfl, Nat.le_of_ble_eq_true rfl⟩ ⟨Nat.zero_le _, Nat.zero_le _⟩ dX9_pay_23 ?_
  refine g_mmin hC wm_X9_244 wt_min wn_J9 wc_min ⟨Nat.le_of_ble_eq_true rfl, Nat.le_of_ble_eq_true rfl⟩ ⟨Nat.zero_le _, Nat.zero_le _⟩ dX9_pay_26 ?_
  refine g_topi (fun v12 hv12 => ?_)
  replace h := gq_l_i hv12 h
  refine g_mmax hC wm_X9_249 wt_max wn_J9 wc_max ⟨Nat.le_of_ble_eq_true rfl, Nat.le_of_ble_eq_true rfl⟩ ⟨Nat.zero_le _, Nat.zero_le _⟩ dX9_pay_29 ?_
  refine g_topi (fun v13 hv13 => ?_)
  replace h := gq_l_i hv13 h
  refine g_istore_n (L2 := [(3, .int v13), (0, .ref (ad 0)), (1, .int a1), (2, .int a2)]) hC rfl (by decide) rfl dX9_pay_32 ?_
  refine g_aload_n hC 1 rfl rfl dX9_pay_33 ?_
  refine g_getR hC fF_X9_26 lkC_0_2 dX9_pay_34 ?_
  refine g_getR hC fF_X9_241 lkC_23_2 dX9_pay_37 ?_
  refine g_iload_n hC 2 rfl rfl dX9_pay_40 ?_
  refine g_iload_n hC 0 rfl rfl dX9_pay_41 ?_
  refine g_ineg hC dX9_pay_42 ?_
  obtain ⟨v14, M15, c16, h⟩ := gq_b_i h
  refine g_Vv (as := [.int a1, .int (-v13)]) hC (t_X8_add lkC_28_0 arC_29 N _ _ _ _ _ c16) mV_X8_add  wm_X9_252 obC_28 rfl rfl (Nat.le_of_ble_eq_true rfl) ⟨Nat.le_of_ble_eq_true rfl, Nat.le_of_ble_eq_true rfl⟩ ⟨Nat.zero_le _, Nat.zero_le _⟩ dX9_pay_43 ?_
  refine g_iload_n hC 0 rfl rfl dX9_pay_46 ?_
  exact g_iretsX hC hr h dX9_pay_47
def f_X9_claim_81 (N : Nat) (x1 : Int32) (x2 : Int32) (s0 : Int32) (M : gq_M) : Option (Nat × Int32 × gq_M) :=
  gq_x2 (f_X9_mustHold N s0 M) (fx_X9_mustHold N s0 M) fun v25 M26 => gq_b (f_X1_centsLacking N x2 M26) fun v29 M30 => gq_b (f_X8_put 58 150 N x2 1 M30) fun v32 M33 => gq_b (f_X8_add 29 8 N x1 (-v29) M33) fun v35 M36 => gq_b (f_X8_at 36 150 N x2 M36) fun v38 M39 => gq_b (f_X8_add 13 8 N v38 (-v29) M39) fun v41 M42 => some (0, v29, M42)
set_option maxHeartbeats 1000000 in
set_option maxRecDepth 20000 in
theorem t_X9_claim_81 {N : Nat} {ex9 : Nat} {v9 : Int32} {M9 : gq_M} (hl9 : l.stackTraces = false) (hZ : gq_Z A s) (htb : ∀ x ∈ c.exceptionTable.toList, False) (hC : gq_C p s m args meth c D A cI cZ ad mtC RX9 cX9_claim 4) (hr : meth.sig.returnType = (some .int))   : ∀ (x1 : Int32) (x2 : Int32) (s0 : Int32) (M : gq_M), f_X9_claim_81 N  x1 x2 s0 M = some (ex9, v9, M9) → gq_W p l e (gq_rx 7 ex9) s m args below meth c D A cI cZ ad mtC 4 (vx_MQ below (gq_Qix D cI cZ ad mtC ex9 v9 M9 A) (gq_XC D cI cZ ad mtC ex9 M9 A) args s (gq_xc ex9) (gq_xs ex9) A) 81 [(0, .ref (ad 0)), (1, .int x1), (2, .int x2)] [.int s0] M 0 0 := by
  intro x1 x2 s0 M h
  unfold f_X9_claim_81 at h
  rcases gq_x2_i h with ⟨v25, M26, c27, h⟩ | ⟨k28, v25, M26, c27, hk28, h⟩
  rotate_left
  · exact g_SXo (as := [.int s0]) hC hZ htb (tx_X9_mustHold hl9 N _ _ _ _ _ c27) hk28 h ⟨rfl, rfl⟩ mS_X9_mustHold wm_X9_138 rfl rfl (Nat.le_of_ble_eq_true rfl) ⟨Nat.le_of_ble_eq_true rfl, Nat.le_of_ble_eq_true rfl⟩ dX9_claim_81
  refine g_Sv (as := [.int s0]) hC (t_X9_mustHold N _ _ _ _ c27) mS_X9_mustHold wm_X9_138 rfl rfl (Nat.le_of_ble_eq_true rfl) ⟨Nat.le_of_ble_eq_true rfl, Nat.le_of_ble_eq_true rfl⟩ ⟨Nat.zero_le _, Nat.zero_le _⟩ dX9_claim_81 ?_
  refine g_aload_n hC 0 rfl rfl dX9_claim_84 ?_
  refine g_getR hC fF_X9_33 lkC_0_3 dX9_claim_85 ?_
  refine g_iload_n hC 2 rfl rfl dX9_claim_88 ?_
  obtain ⟨v29, M30, c31, h⟩ := gq_b_i h
  refine g_Vi (as := [.int x2]) hC (t_X1_centsLacking N _ _ _ _ c31) mV_X1_centsLacking  wm_X9_263 obC_34 rfl rfl (Nat.le_of_ble_eq_true rfl) ⟨Nat.le_of_ble_eq_true rfl, Nat.le_of_ble_eq_true rfl⟩ ⟨Nat.zero_le _, Nat.zero_le _⟩ dX9_claim_89 ?_
  refine g_istore_n (L2 := [(3, .int v29), (0, .ref (ad 0)), (1, .int x1), (2, .int x2)]) hC rfl (by decide) rfl dX9_claim_92 ?_
  refine g_aload_n hC 1 rfl rfl dX9_claim_93 ?_
  refine g_getR hC fF_X9_33 lkC_0_3 dX9_claim_94 ?_
  refine g_getR hC fF_X9_257 lkC_34_11 dX9_claim_97 ?_
  refine g_iload_n hC 3 rfl rfl dX9_claim_100 ?_
  refine g_iconst (v := 1) hC (by decide) dX9_claim_101 ?_
  obtain ⟨v32, M33, c34, h⟩ := gq_b_i h
  refine g_Vv (as := [.int x2, .int 1]) hC (t_X8_put lkC_57_0 arC_58 N _ _ _ _ _ c34) mV_X8_put  wm_X9_104 obC_57 rfl rfl (Nat.le_of_ble_eq_true rfl) ⟨Nat.le_of_ble_eq_true rfl, Nat.le_of_ble_eq_true rfl⟩ ⟨Nat.zero_le _, Nat.zero_le _⟩ dX9_claim_102 ?_
  refine g_aload_n hC 1 rfl rfl dX9_claim_105 ?_
  refine g_getR hC fF_X9_26 lkC_0_2 dX9_claim_106 ?_
  refine g_getR hC fF_X9_241 lkC_23_2 dX9_claim_109 ?_
  refine g_iload_n hC 2 rfl rfl dX9_claim_112 ?_
  refine g_iload_n hC 0 rfl rfl dX9_claim_113 ?_
  refine g_ineg hC dX9_claim_114 ?_
  obtain ⟨v35, M36, c37, h⟩ := gq_b_i h
  refine g_Vv (as := [.int x1, .int (-v29)]) hC (t_X8_add lkC_28_0 arC_29 N _ _ _ _ _ c37) mV_X8_add  wm_X9_252 obC_28 rfl rfl (Nat.le_of_ble_eq_true rfl) ⟨Nat.le_of_ble_eq_true rfl, Nat.le_of_ble_eq_true rfl⟩ ⟨Nat.zero_le _, Nat.zero_le _⟩ dX9_claim_115 ?_
  refine g_aload_n hC 1 rfl rfl dX9_claim_118 ?_
  refine g_getR hC fF_X9_10 lkC_0_0 dX9_claim_119 ?_
  refine g_getR hC fF_X9_266 lkC_1_5 dX9_claim_122 ?_
  refine g_aload_n hC 1 rfl rfl dX9_claim_125 ?_
  refine g_getR hC fF_X9_33 lkC_0_3 dX9_claim_126 ?_
  refine g_getR hC fF_X9_269 lkC_34_0 dX9_claim_129 ?_
  refine g_iload_n hC 3 rfl rfl dX9_claim_132 ?_
  obtain ⟨v38, M39, c40, h⟩ := gq_b_i h
  refine g_Vi (as := [.int x2]) hC (t_X8_at lkC_35_0 arC_36 N _ _ _ _ c40) mV_X8_at  wm_X9_200 obC_35 rfl rfl (Nat.le_of_ble_eq_true rfl) ⟨Nat.le_of_ble_eq_true rfl, Nat.le_of_ble_eq_true rfl⟩ ⟨Nat.zero_le _, Nat.zero_le _⟩ dX9_claim_133 ?_
  refine g_iload_n hC 0 rfl rfl dX9_claim_136 ?_
  refine g_ineg hC dX9_claim_137 ?_
  obtain ⟨v41, M42, c43, h⟩ := gq_b_i h
  refine g_Vv (as := [.int v38, .int (-v29)]) hC (t_X8_add lkC_12_0 arC_13 N _ _ _ _ _ c43) mV_X8_add  wm_X9_252 obC_12 rfl rfl (Nat.le_of_ble_eq_true rfl) ⟨Nat.le_of_ble_eq_true rfl, Nat.le_of_ble_eq_true rfl⟩ ⟨Nat.zero_le _, Nat.zero_le _⟩ dX9_claim_138 ?_
  refine g_iload_n hC 0 rfl rfl dX9_claim_141 ?_
  exact g_iretsX hC hr h dX9_claim_142
def f_X9_claim_51 (N : Nat) (x1 : Int32) (x2 : Int32) (s0 : Int32) (M : gq_M) : Option (Nat × Int32 × gq_M) :=
  gq_x2 (f_X9_mustHold N s0 M) (fx_X9_mustHold N s0 M) fun v17 M18 => gq_b (f_X8_at 52 150 N x2 M18) fun v21 M22 => if 240 < ((M18 0 8) - v21) then (f_X9_claim_81 N  x1 x2 0 M22) else (f_X9_claim_81 N  x1 x2 1 M22)
set_option maxHeartbeats 1000000 in
set_option maxRecDepth 20000 in
theorem t_X9_claim_51 {N : Nat} {ex9 : Nat} {v9 : Int32} {M9 : gq_M} (hl9 : l.stackTraces = false) (hZ : gq_Z A s) (htb : ∀ x ∈ c.exceptionTable.toList, False) (hC : gq_C p s m args meth c D A cI cZ ad mtC RX9 cX9_claim 4) (hr : meth.sig.returnType = (some .int))   : ∀ (x1 : Int32) (x2 : Int32) (s0 : Int32) (M : gq_M), f_X9_claim_51 N  x1 x2 s0 M = some (ex9, v9, M9) → gq_W p l e (gq_rx 7 ex9) s m args below meth c D A cI cZ ad mtC 4 (vx_MQ below (gq_Qix D cI cZ ad mtC ex9 v9 M9 A) (gq_XC D cI cZ ad mtC ex9 M9 A) args s (gq_xc ex9) (gq_xs ex9) A) 51 [(0, .ref (ad 0)), (1, .int x1), (2, .int x2)] [.int s0] M 0 0 := by
  intro x1 x2 s0 M h
  unfold f_X9_claim_51 at h
  rcases gq_x2_i h with ⟨v17, M18, c19, h⟩ | ⟨k20, v17, M18, c19, hk20, h⟩
  rotate_left
  · exact g_SXo (as := [.int s0]) hC hZ htb (tx_X9_mustHold hl9 N _ _ _ _ _ c19) hk20 h ⟨rfl, rfl⟩ mS_X9_mustHold wm_X9_138 rfl rfl (Nat.le_of_ble_eq_true rfl) ⟨Nat.le_of_ble_eq_true rfl, Nat.le_of_ble_eq_true rfl⟩ dX9_claim_51
  refine g_Sv (as := [.int s0]) hC (t_X9_mustHold N _ _ _ _ c19) mS_X9_mustHold wm_X9_138 rfl rfl (Nat.le_of_ble_eq_true rfl) ⟨Nat.le_of_ble_eq_true rfl, Nat.le_of_ble_eq_true rfl⟩ ⟨Nat.zero_le _, Nat.zero_le _⟩ dX9_claim_51 ?_
  refine g_aload_n hC 0 rfl rfl dX9_claim_54 ?_
  refine g_getI hC fF_X9_65 lkC_0_8 dX9_claim_55 ?_
  refine g_aload_n hC 0 rfl rfl dX9_claim_58 ?_
  refine g_getR hC fF_X9_33 lkC_0_3 dX9_claim_59 ?_
  refine g_getR hC fF_X9_260 lkC_34_8 dX9_claim_62 ?_
  refine g_iload_n hC 2 rfl rfl dX9_claim_65 ?_
  obtain ⟨v21, M22, c23, h⟩ := gq_b_i h
  refine g_Vi (as := [.int x2]) hC (t_X8_at lkC_51_0 arC_52 N _ _ _ _ c23) mV_X8_at  wm_X9_200 obC_51 rfl rfl (Nat.le_of_ble_eq_true rfl) ⟨Nat.le_of_ble_eq_true rfl, Nat.le_of_ble_eq_true rfl⟩ ⟨Nat.zero_le _, Nat.zero_le _⟩ dX9_claim_66 ?_
  refine g_isub hC dX9_claim_69 ?_
  refine g_sipush (v := 240) hC (by decide) dX9_claim_70 ?_
  refine g_icmp_gt (tgt := 80) hC (by decide) dX9_claim_73 (fun c24 => ?_) (fun c24 => ?_)
  · replace h := gq_t c24 h
    refine g_iconst (v := 0) hC (by decide) dX9_claim_80 ?_
    exact g_weak [0, 1, 2] rfl (t_X9_claim_81 hl9 hZ htb hC hr  x1 x2 0 M22 h)
  · replace h := gq_f c24 h
    refine g_iconst (v := 1) hC (by decide) dX9_claim_76 ?_
    refine g_goto (tgt := 81) hC (by decide) dX9_claim_77 ?_
    exact g_weak [0, 1, 2] rfl (t_X9_claim_81 hl9 hZ htb hC hr  x1 x2 1 M22 h)
def f_X9_claim_50 (N : Nat) (x1 : Int32) (x2 : Int32) (M : gq_M) : Option (Nat × Int32 × gq_M) :=
  f_X9_claim_51 N  x1 x2 0 M
set_option maxHeartbeats 1000000 in
set_option maxRecDepth 20000 in
theorem t_X9_claim_50 {N : Nat} {ex9 : Nat} {v9 : Int32} {M9 : gq_M} (hl9 : l.stackTraces = false) (hZ : gq_Z A s) (htb : ∀ x ∈ c.exceptionTable.toList, False) (hC : gq_C p s m args meth c D A cI cZ ad mtC RX9 cX9_claim 4) (hr : meth.sig.returnType = (some .int))   : ∀ (x1 : Int32) (x2 : Int32) (M : gq_M), f_X9_claim_50 N  x1 x2 M = some (ex9, v9, M9) → gq_W p l e (gq_rx 7 ex9) s m args below meth c D A cI cZ ad mtC 4 (vx_MQ below (gq_Qix D cI cZ ad mtC ex9 v9 M9 A) (gq_XC D cI cZ ad mtC ex9 M9 A) args s (gq_xc ex9) (gq_xs ex9) A) 50 [(0, .ref (ad 0)), (1, .int x1), (2, .int x2)] [] M 0 0 := by
  intro x1 x2 M h
  unfold f_X9_claim_50 at h
  refine g_iconst (v := 0) hC (by decide) dX9_claim_50 ?_
  exact g_weak [0, 1, 2] rfl (t_X9_claim_51 hl9 hZ htb hC hr  x1 x2 0 M h)
def f_X9_claim (N : Nat) (a1 : Int32) (a2 : Int32) (M : gq_M) : Option (Nat × Int32 × gq_M) :=
  gq_x2 (f_X9_mustExist N a1 8 M) (fx_X9_mustExist N a1 8 M) fun v1 M2 => gq_x2 (f_X9_mustExist N a2 (M2 34 13) M2) (fx_X9_mustExist N a2 (M2 34 13) M2) fun v5 M6 => gq_b (f_X8_at 48 150 N a2 M6) fun v9 M10 => if v9 = a1 then (gq_b (f_X8_at 58 150 N a2 M10) fun v13 M14 => if v13 = 0 then (f_X9_claim_51 N  a1 a2 1 M14) else (f_X9_claim_50 N  a1 a2 M14)) else (f_X9_claim_50 N  a1 a2 M10)
set_option maxHeartbeats 1000000 in
set_option maxRecDepth 20000 in
theorem t_X9_claim {l : Launch} (hl9 : l.stackTraces = false) {D : va_G} {cI cZ : ClassId} {ad : Nat → Nat} (N : Nat) (a1 : Int32) (a2 : Int32) (M : gq_M) (ex9 : Nat) (v9 : Int32) (M9 : gq_M) (h : f_X9_claim N a1 a2 M = some (ex9, v9, M9)) : gq_Xi l D cI cZ ad mtC yX9_claim cX9_claim 4 (some .int) 7 [.ref (ad 0), .int a1, .int a2] M ex9 v9 M9 := by
  refine gq_introXi (own := RX9) (v := v9) (by decide) rfl (Nat.le_of_ble_eq_true rfl) ?_
  intro p e s m below meth c hC hr hZ htb
  refine g_cast (L2 := [(0, .ref (ad 0)), (1, .int a1), (2, .int a2)]) ?_ rfl rfl rfl rfl
  unfold f_X9_claim at h
  refine g_iload_n hC 1 rfl rfl dX9_claim_0 ?_
  refine g_bipush (v := 8) hC (by decide) dX9_claim_1 ?_
  rcases gq_x2_i h with ⟨v1, M2, c3, h⟩ | ⟨k4, v1, M2, c3, hk4, h⟩
  rotate_left
  · exact g_SXo (as := [.int a1, .int 8]) hC hZ htb (tx_X9_mustExist hl9 N _ _ _ _ _ _ c3) hk4 h ⟨rfl, rfl⟩ mS_X9_mustExist wm_X9_79 rfl rfl (Nat.le_of_ble_eq_true rfl) ⟨Nat.le_of_ble_eq_true rfl, Nat.le_of_ble_eq_true rfl⟩ dX9_claim_3
  refine g_Sv (as := [.int a1, .int 8]) hC (t_X9_mustExist N _ _ _ _ _ c3) mS_X9_mustExist wm_X9_79 rfl rfl (Nat.le_of_ble_eq_true rfl) ⟨Nat.le_of_ble_eq_true rfl, Nat.le_of_ble_eq_true rfl⟩ ⟨Nat.zero_le _, Nat.zero_le _⟩ dX9_claim_3 ?_
  refine g_iload_n hC 2 rfl rfl dX9_claim_6 ?_
  refine g_aload_n hC 0 rfl rfl dX9_claim_7 ?_
  refine g_getR hC fF_X9_33 lkC_0_3 dX9_claim_8 ?_
  refine g_getI hC fF_X9_135 lkC_34_13 dX9_claim_11 ?_
  rcases gq_x2_i h with ⟨v5, M6, c7, h⟩ | ⟨k8, v5, M6, c7, hk8, h⟩
  rotate_left
  · exact g_SXo (as := [.int a2, .int (M2 34 13)]) hC hZ htb (tx_X9_mustExist hl9 N _ _ _ _ _ _ c7) hk8 h ⟨rfl, rfl⟩ mS_X9_mustExist wm_X9_79 rfl rfl (Nat.le_of_ble_eq_true rfl) ⟨Nat.le_of_ble_eq_true rfl, Nat.le_of_ble_eq_true rfl⟩ dX9_claim_14
  refine g_Sv (as := [.int a2, .int (M2 34 13)]) hC (t_X9_mustExist N _ _ _ _ _ c7) mS_X9_mustExist wm_X9_79 rfl rfl (Nat.le_of_ble_eq_true rfl) ⟨Nat.le_of_ble_eq_true rfl, Nat.le_of_ble_eq_true rfl⟩ ⟨Nat.zero_le _, Nat.zero_le _⟩ dX9_claim_14 ?_
  refine g_aload_n hC 0 rfl rfl dX9_claim_17 ?_
  refine g_getR hC fF_X9_33 lkC_0_3 dX9_claim_18 ?_
  refine g_getR hC fF_X9_254 lkC_34_6 dX9_claim_21 ?_
  refine g_iload_n hC 2 rfl rfl dX9_claim_24 ?_
  obtain ⟨v9, M10, c11, h⟩ := gq_b_i h
  refine g_Vi (as := [.int a2]) hC (t_X8_at lkC_47_0 arC_48 N _ _ _ _ c11) mV_X8_at  wm_X9_200 obC_47 rfl rfl (Nat.le_of_ble_eq_true rfl) ⟨Nat.le_of_ble_eq_true rfl, Nat.le_of_ble_eq_true rfl⟩ ⟨Nat.zero_le _, Nat.zero_le _⟩ dX9_claim_25 ?_
  refine g_iload_n hC 1 rfl rfl dX9_claim_28 ?_
  refine g_icmp_ne (tgt := 50) hC (by decide) dX9_claim_29 (fun c12 => ?_) (fun c12 => ?_)
  · replace h := gq_f c12 h
    exact g_weak [0, 1, 2] rfl (t_X9_claim_50 hl9 hZ htb hC hr  a1 a2 M10 h)
  · replace h := gq_t c12 h
    refine g_aload_n hC 0 rfl rfl dX9_claim_32 ?_
    refine g_getR hC fF_X9_33 lkC_0_3 dX9_claim_33 ?_
    refine g_getR hC fF_X9_257 lkC_34_11 dX9_claim_36 ?_
    refine g_iload_n hC 2 rfl rfl dX9_claim_39 ?_
    obtain ⟨v13, M14, c15, h⟩ := gq_b_i h
    refine g_Vi (as := [.int a2]) hC (t_X8_at lkC_57_0 arC_58 N _ _ _ _ c15) mV_X8_at  wm_X9_200 obC_57 rfl rfl (Nat.le_of_ble_eq_true rfl) ⟨Nat.le_of_ble_eq_true rfl, Nat.le_of_ble_eq_true rfl⟩ ⟨Nat.zero_le _, Nat.zero_le _⟩ dX9_claim_40 ?_
    refine g_if_ne (tgt := 50) hC (by decide) dX9_claim_43 (fun c16 => ?_) (fun c16 => ?_)
    · replace h := gq_f c16 h
      exact g_weak [0, 1, 2] rfl (t_X9_claim_50 hl9 hZ htb hC hr  a1 a2 M14 h)
    · replace h := gq_t c16 h
      refine g_iconst (v := 1) hC (by decide) dX9_claim_46 ?_
      refine g_goto (tgt := 51) hC (by decide) dX9_claim_47 ?_
      exact g_weak [0, 1, 2] rfl (t_X9_claim_51 hl9 hZ htb hC hr  a1 a2 1 M14 h)
def f_X9_settle (N : Nat) (a1 : Int32) (a2 : Int32) (a3 : Int32) (M : gq_M) : Option (Nat × Int32 × gq_M) :=
  gq_x2 (f_X9_mustExist N a1 8 M) (fx_X9_mustExist N a1 8 M) fun v1 M2 => gq_x2 (f_X9_mustBeIn N a2 0 10000000 M2) (fx_X9_mustBeIn N a2 0 10000000 M2) fun v5 M6 => gq_x2 (f_X9_mustBeIn N a3 0 100 M6) (fx_X9_mustBeIn N a3 0 100 M6) fun v9 M10 => gq_b (f_X8_swap 13 8 N a1 0 M10) fun v13 M14 => gq_l (if 0 < v13 then v13 else 0) fun v16 => gq_l (((v13 - ((v16 * 3) / 100)) - a2) : Int32).toInt64 fun v17 => gq_l (if v17 < 0 then 0 else v17) fun v18 => gq_l (((v18 * (a3 : Int32).toInt64) / 100) : Int64).toInt32 fun v19 => some (0, v19, M14)
set_option maxHeartbeats 1000000 in
set_option maxRecDepth 20000 in
theorem t_X9_settle {l : Launch} (hl9 : l.stackTraces = false) {D : va_G} {cI cZ : ClassId} {ad : Nat → Nat} (N : Nat) (a1 : Int32) (a2 : Int32) (a3 : Int32) (M : gq_M) (ex9 : Nat) (v9 : Int32) (M9 : gq_M) (h : f_X9_settle N a1 a2 a3 M = some (ex9, v9, M9)) : gq_Xi l D cI cZ ad mtC yX9_settle cX9_settle 8 (some .int) 7 [.ref (ad 0), .int a1, .int a2, .int a3] M ex9 v9 M9 := by
  refine gq_introXi (own := RX9) (v := v9) (by decide) rfl (Nat.le_of_ble_eq_true rfl) ?_
  intro p e s m below meth c hC hr hZ htb
  refine g_cast (L2 := [(0, .ref (ad 0)), (1, .int a1), (2, .int a2), (3, .int a3)]) ?_ rfl rfl rfl rfl
  unfold f_X9_settle at h
  refine g_iload_n hC 1 rfl rfl dX9_settle_0 ?_
  refine g_bipush (v := 8) hC (by decide) dX9_settle_1 ?_
  rcases gq_x2_i h with ⟨v1, M2, c3, h⟩ | ⟨k4, v1, M2, c3, hk4, h⟩
  rotate_left
  · exact g_SXo (as := [.int a1, .int 8]) hC hZ htb (tx_X9_mustExist hl9 N _ _ _ _ _ _ c3) hk4 h ⟨rfl, rfl⟩ mS_X9_mustExist wm_X9_79 rfl rfl (Nat.le_of_ble_eq_true rfl) ⟨Nat.le_of_ble_eq_true rfl, Nat.le_of_ble_eq_true rfl⟩ dX9_settle_3
  refine g_Sv (as := [.int a1, .int 8]) hC (t_X9_mustExist N _ _ _ _ _ c3) mS_X9_mustExist wm_X9_79 rfl rfl (Nat.le_of_ble_eq_true rfl) ⟨Nat.le_of_ble_eq_true rfl, Nat.le_of_ble_eq_true rfl⟩ ⟨Nat.zero_le _, Nat.zero_le _⟩ dX9_settle_3 ?_
  refine g_iload_n hC 2 rfl rfl dX9_settle_6 ?_
  refine g_iconst (v := 0) hC (by decide) dX9_settle_7 ?_
  refine g_ldcw (v := 10000000) hC wk_X9_272 dX9_settle_8 ?_
  rcases gq_x2_i h with ⟨v5, M6, c7, h⟩ | ⟨k8, v5, M6, c7, hk8, h⟩
  rotate_left
  · exact g_SXo (as := [.int a2, .int 0, .int 10000000]) hC hZ htb (tx_X9_mustBeIn hl9 N _ _ _ _ _ _ _ c7) hk8 h ⟨rfl, rfl⟩ mS_X9_mustBeIn wm_X9_84 rfl rfl (Nat.le_of_ble_eq_true rfl) ⟨Nat.le_of_ble_eq_true rfl, Nat.le_of_ble_eq_true rfl⟩ dX9_settle_11
  refine g_Sv (as := [.int a2, .int 0, .int 10000000]) hC (t_X9_mustBeIn N _ _ _ _ _ _ c7) mS_X9_mustBeIn wm_X9_84 rfl rfl (Nat.le_of_ble_eq_true rfl) ⟨Nat.le_of_ble_eq_true rfl, Nat.le_of_ble_eq_true rfl⟩ ⟨Nat.zero_le _, Nat.zero_le _⟩ dX9_settle_11 ?_
  refine g_iload_n hC 3 rfl rfl dX9_settle_14 ?_
  refine g_iconst (v := 0) hC (by decide) dX9_settle_15 ?_
  refine g_bipush (v := 100) hC (by decide) dX9_settle_16 ?_
  rcases gq_x2_i h with ⟨v9, M10, c11, h⟩ | ⟨k12, v9, M10, c11, hk12, h⟩
  rotate_left
  · exact g_SXo (as := [.int a3, .int 0, .int 100]) hC hZ htb (tx_X9_mustBeIn hl9 N _ _ _ _ _ _ _ c11) hk12 h ⟨rfl, rfl⟩ mS_X9_mustBeIn wm_X9_84 rfl rfl (Nat.le_of_ble_eq_true rfl) ⟨Nat.le_of_ble_eq_true rfl, Nat.le_of_ble_eq_true rfl⟩ dX9_settle_18
  refine g_Sv (as := [.int a3, .int 0, .int 100]) hC (t_X9_mustBeIn N _ _ _ _ _ _ c11) mS_X9_mustBeIn wm_X9_84 rfl rfl (Nat.le_of_ble_eq_true rfl) ⟨Nat.le_of_ble_eq_true rfl, Nat.le_of_ble_eq_true rfl⟩ ⟨Nat.zero_le _, Nat.zero_le _⟩ dX9_settle_18 ?_
  refine g_aload_n hC 0 rfl rfl dX9_settle_21 ?_
  refine g_getR hC fF_X9_10 lkC_0_0 dX9_settle_22 ?_
  refine g_getR hC fF_X9_266 lkC_1_5 dX9_settle_25 ?_
  refine g_iload_n hC 1 rfl rfl dX9_settle_28 ?_
  refine g_iconst (v := 0) hC (by decide) dX9_settle_29 ?_
  obtain ⟨v13, M14, c15, h⟩ := gq_b_i h
  refine g_Vi (as := [.int a1, .int 0]) hC (t_X8_swap lkC_12_0 arC_13 N _ _ _ _ _ c15) mV_X8_swap  wm_X9_96 obC_12 rfl rfl (Nat.le_of_ble_eq_true rfl) ⟨Nat.le_of_ble_eq_true rfl, Nat.le_of_ble_eq_true rfl⟩ ⟨Nat.zero_le _, Nat.zero_le _⟩ dX9_settle_30 ?_
  refine g_istore (L2 := [(4, .int v13), (0, .ref (ad 0)), (1, .int a1), (2, .int a2), (3, .int a3)]) hC (by decide) rfl dX9_settle_33 ?_
  refine g_iconst (v := 0) hC (by decide) dX9_settle_35 ?_
  refine g_iload hC 0 rfl dX9_settle_36 ?_
  refine g_mmax hC wm_X9_249 wt_max wn_J9 wc_max ⟨Nat.le_of_ble_eq_true rfl, Nat.le_of_ble_eq_true rfl⟩ ⟨Nat.zero_le _, Nat.zero_le _⟩ dX9_settle_38 ?_
  refine g_topi (fun v16 hv16 => ?_)
  replace h := gq_l_i hv16 h
  refine g_iconst (v := 3) hC (by decide) dX9_settle_41 ?_
  refine g_imul hC dX9_settle_42 ?_
  refine g_bipush (v := 100) hC (by decide) dX9_settle_43 ?_
  refine g_idiv hC (by decide) dX9_settle_45 ?_
  refine g_istore (L2 := [(5, .int ((v16 * 3) / 100)), (4, .int v13), (0, .ref (ad 0)), (1, .int a1), (2, .int a2), (3, .int a3)]) hC (by decide) rfl dX9_settle_46 ?_
  refine g_iload hC 1 rfl dX9_settle_48 ?_
  refine g_iload hC 0 rfl dX9_settle_50 ?_
  refine g_isub hC dX9_settle_52 ?_
  refine g_iload_n hC 4 rfl rfl dX9_settle_53 ?_
  refine g_isub hC dX9_settle_54 ?_
  refine g_i2l hC dX9_settle_55 ?_
  refine g_topl (fun v17 hv17 => ?_)
  replace h := gq_l_i hv17 h
  refine g_lstore (L2 := [(6, .long v17), (5, .int ((v16 * 3) / 100)), (4, .int v13), (0, .ref (ad 0)), (1, .int a1), (2, .int a2), (3, .int a3)]) hC (by decide) rfl dX9_settle_56 ?_
  refine g_lconst (v := 0) hC (by decide) dX9_settle_58 ?_
  refine g_lload hC 0 rfl dX9_settle_59 ?_
  refine g_mmaxl hC wm_X9_273 wt_maxl wn_J9 wc_maxl ⟨Nat.le_of_ble_eq_true rfl, Nat.le_of_ble_eq_true rfl⟩ ⟨Nat.zero_le _, Nat.zero_le _⟩ dX9_settle_61 ?_
  refine g_topl (fun v18 hv18 => ?_)
  replace h := gq_l_i hv18 h
  refine g_iload_n hC 6 rfl rfl dX9_settle_64 ?_
  refine g_i2l hC dX9_settle_65 ?_
  refine g_lmul hC dX9_settle_66 ?_
  refine g_ldc2 (v := 100) hC wk_X9_276 dX9_settle_67 ?_
  refine g_ldiv hC (by decide) dX9_settle_70 ?_
  refine g_l2i hC dX9_settle_71 ?_
  refine g_topi (fun v19 hv19 => ?_)
  replace h := gq_l_i hv19 h
  exact g_iretsX hC hr h dX9_settle_72
def f_X9_told (N : Nat) (a1 : Int32) (a2 : Int32) (M : gq_M) : Option (Nat × Int32 × gq_M) :=
  gq_x2 (f_X9_mustExist N a1 (M 34 13) M) (fx_X9_mustExist N a1 (M 34 13) M) fun v1 M2 => gq_x2 (f_X9_mustBeIn N a2 0 4 M2) (fx_X9_mustBeIn N a2 0 4 M2) fun v5 M6 => if a2 = 0 then (gq_b (f_X8_at 44 150 N a1 M6) fun v10 M11 => some (0, v10, M11)) else if a2 = 1 then (gq_b (f_X8_at 38 150 N a1 M6) fun v14 M15 => gq_b (f_X1_freshOf N v14 M15) fun v17 M18 => some (0, v17, M18)) else if a2 = 2 then (gq_b (f_X8_at 48 150 N a1 M6) fun v21 M22 => some (0, v21, M22)) else if a2 = 3 then (gq_b (f_X8_at 50 150 N a1 M6) fun v25 M26 => some (0, v25, M26)) else (gq_b (f_X8_at 46 150 N a1 M6) fun v28 M29 => some (0, v28, M29))
set_option maxHeartbeats 1000000 in
set_option maxRecDepth 20000 in
theorem t_X9_told {l : Launch} (hl9 : l.stackTraces = false) {D : va_G} {cI cZ : ClassId} {ad : Nat → Nat} (N : Nat) (a1 : Int32) (a2 : Int32) (M : gq_M) (ex9 : Nat) (v9 : Int32) (M9 : gq_M) (h : f_X9_told N a1 a2 M = some (ex9, v9, M9)) : gq_Xi l D cI cZ ad mtC yX9_told cX9_told 3 (some .int) 7 [.ref (ad 0), .int a1, .int a2] M ex9 v9 M9 := by
  refine gq_introXi (own := RX9) (v := v9) (by decide) rfl (Nat.le_of_ble_eq_true rfl) ?_
  intro p e s m below meth c hC hr hZ htb
  refine g_cast (L2 := [(0, .ref (ad 0)), (1, .int a1), (2, .int a2)]) ?_ rfl rfl rfl rfl
  unfold f_X9_told at h
  refine g_iload_n hC 1 rfl rfl dX9_told_0 ?_
  refine g_aload_n hC 0 rfl rfl dX9_told_1 ?_
  refine g_getR hC fF_X9_33 lkC_0_3 dX9_told_2 ?_
  refine g_getI hC fF_X9_135 lkC_34_13 dX9_told_5 ?_
  rcases gq_x2_i h with ⟨v1, M2, c3, h⟩ | ⟨k4, v1, M2, c3, hk4, h⟩
  rotate_left
  · exact g_SXo (as := [.int a1, .int (M 34 13)]) hC hZ htb (tx_X9_mustExist hl9 N _ _ _ _ _ _ c3) hk4 h ⟨rfl, rfl⟩ mS_X9_mustExist wm_X9_79 rfl rfl (Nat.le_of_ble_eq_true rfl) ⟨Nat.le_of_ble_eq_true rfl, Nat.le_of_ble_eq_true rfl⟩ dX9_told_8
  refine g_Sv (as := [.int a1, .int (M 34 13)]) hC (t_X9_mustExist N _ _ _ _ _ c3) mS_X9_mustExist wm_X9_79 rfl rfl (Nat.le_of_ble_eq_true rfl) ⟨Nat.le_of_ble_eq_true rfl, Nat.le_of_ble_eq_true rfl⟩ ⟨Nat.zero_le _, Nat.zero_le _⟩ dX9_told_8 ?_
  refine g_iload_n hC 2 rfl rfl dX9_told_11 ?_
  refine g_iconst (v := 0) hC (by decide) dX9_told_12 ?_
  refine g_iconst (v := 4) hC (by decide) dX9_told_13 ?_
  rcases gq_x2_i h with ⟨v5, M6, c7, h⟩ | ⟨k8, v5, M6, c7, hk8, h⟩
  rotate_left
  · exact g_SXo (as := [.int a2, .int 0, .int 4]) hC hZ htb (tx_X9_mustBeIn hl9 N _ _ _ _ _ _ _ c7) hk8 h ⟨rfl, rfl⟩ mS_X9_mustBeIn wm_X9_84 rfl rfl (Nat.le_of_ble_eq_true rfl) ⟨Nat.le_of_ble_eq_true rfl, Nat.le_of_ble_eq_true rfl⟩ dX9_told_14
  refine g_Sv (as := [.int a2, .int 0, .int 4]) hC (t_X9_mustBeIn N _ _ _ _ _ _ c7) mS_X9_mustBeIn wm_X9_84 rfl rfl (Nat.le_of_ble_eq_true rfl) ⟨Nat.le_of_ble_eq_true rfl, Nat.le_of_ble_eq_true rfl⟩ ⟨Nat.zero_le _, Nat.zero_le _⟩ dX9_told_14 ?_
  refine g_iload_n hC 2 rfl rfl dX9_told_17 ?_
  rcases gq_or h with ⟨c9, h⟩ | ⟨c9, h⟩
  · refine g_tsIn (tgt := 48) hC (by rw [c9]; decide) (by rw [c9]; decide) (by rw [c9]; rfl) (by decide) dX9_told_18 ?_
    refine g_aload_n hC 0 rfl rfl dX9_told_48 ?_
    refine g_getR hC fF_X9_33 lkC_0_3 dX9_told_49 ?_
    refine g_getR hC fF_X9_278 lkC_34_4 dX9_told_52 ?_
    refine g_iload_n hC 1 rfl rfl dX9_told_55 ?_
    obtain ⟨v10, M11, c12, h⟩ := gq_b_i h
    refine g_Vi (as := [.int a1]) hC (t_X8_at lkC_43_0 arC_44 N _ _ _ _ c12) mV_X8_at  wm_X9_200 obC_43 rfl rfl (Nat.le_of_ble_eq_true rfl) ⟨Nat.le_of_ble_eq_true rfl, Nat.le_of_ble_eq_true rfl⟩ ⟨Nat.zero_le _, Nat.zero_le _⟩ dX9_told_56 ?_
    exact g_iretsX hC hr h dX9_told_59
  rcases gq_or h with ⟨c13, h⟩ | ⟨c13, h⟩
  · refine g_tsIn (tgt := 60) hC (by rw [c13]; decide) (by rw [c13]; decide) (by rw [c13]; rfl) (by decide) dX9_told_18 ?_
    refine g_aload_n hC 0 rfl rfl dX9_told_60 ?_
    refine g_getR hC fF_X9_33 lkC_0_3 dX9_told_61 ?_
    refine g_getR hC fF_X9_279 lkC_34_1 dX9_told_64 ?_
    refine g_iload_n hC 1 rfl rfl dX9_told_67 ?_
    obtain ⟨v14, M15, c16, h⟩ := gq_b_i h
    refine g_Vi (as := [.int a1]) hC (t_X8_at lkC_37_0 arC_38 N _ _ _ _ c16) mV_X8_at  wm_X9_200 obC_37 rfl rfl (Nat.le_of_ble_eq_true rfl) ⟨Nat.le_of_ble_eq_true rfl, Nat.le_of_ble_eq_true rfl⟩ ⟨Nat.zero_le _, Nat.zero_le _⟩ dX9_told_68 ?_
    obtain ⟨v17, M18, c19, h⟩ := gq_b_i h
    refine g_Si (as := [.int v14]) hC (t_X1_freshOf N _ _ _ _ c19) mS_X1_freshOf wm_X9_282 rfl rfl (Nat.le_of_ble_eq_true rfl) ⟨Nat.le_of_ble_eq_true rfl, Nat.le_of_ble_eq_true rfl⟩ ⟨Nat.zero_le _, Nat.zero_le _⟩ dX9_told_71 ?_
    exact g_iretsX hC hr h dX9_told_74
  rcases gq_or h with ⟨c20, h⟩ | ⟨c20, h⟩
  · refine g_tsIn (tgt := 75) hC (by rw [c20]; decide) (by rw [c20]; decide) (by rw [c20]; rfl) (by decide) dX9_told_18 ?_
    refine g_aload_n hC 0 rfl rfl dX9_told_75 ?_
    refine g_getR hC fF_X9_33 lkC_0_3 dX9_told_76 ?_
    refine g_getR hC fF_X9_254 lkC_34_6 dX9_told_79 ?_
    refine g_iload_n hC 1 rfl rfl dX9_told_82 ?_
    obtain ⟨v21, M22, c23, h⟩ := gq_b_i h
    refine g_Vi (as := [.int a1]) hC (t_X8_at lkC_47_0 arC_48 N _ _ _ _ c23) mV_X8_at  wm_X9_200 obC_47 rfl rfl (Nat.le_of_ble_eq_true rfl) ⟨Nat.le_of_ble_eq_true rfl, Nat.le_of_ble_eq_true rfl⟩ ⟨Nat.zero_le _, Nat.zero_le _⟩ dX9_told_83 ?_
    exact g_iretsX hC hr h dX9_told_86
  rcases gq_or h with ⟨c24, h⟩ | ⟨c24, h⟩
  · refine g_tsIn (tgt := 87) hC (by rw [c24]; decide) (by rw [c24]; decide) (by rw [c24]; rfl) (by decide) dX9_told_18 ?_
    refine g_aload_n hC 0 rfl rfl dX9_told_87 ?_
    refine g_getR hC fF_X9_33 lkC_0_3 dX9_told_88 ?_
    refine g_getR hC fF_X9_285 lkC_34_7 dX9_told_91 ?_
    refine g_iload_n hC 1 rfl rfl dX9_told_94 ?_
    obtain ⟨v25, M26, c27, h⟩ := gq_b_i h
    refine g_Vi (as := [.int a1]) hC (t_X8_at lkC_49_0 arC_50 N _ _ _ _ c27) mV_X8_at  wm_X9_200 obC_49 rfl rfl (Nat.le_of_ble_eq_true rfl) ⟨Nat.le_of_ble_eq_true rfl, Nat.le_of_ble_eq_true rfl⟩ ⟨Nat.zero_le _, Nat.zero_le _⟩ dX9_told_95 ?_
    exact g_iretsX hC hr h dX9_told_98
  refine g_tsOut (tgt := 99) hC (by have z0 := lv_neT c9 (a := 0) (by decide); have z1 := lv_neT c13 (a := 1) (by decide); have z2 := lv_neT c20 (a := 2) (by decide); have z3 := lv_neT c24 (a := 3) (by decide); omega) (by decide) dX9_told_18 ?_
  refine g_aload_n hC 0 rfl rfl dX9_told_99 ?_
  refine g_getR hC fF_X9_33 lkC_0_3 dX9_told_100 ?_
  refine g_getR hC fF_X9_191 lkC_34_5 dX9_told_103 ?_
  refine g_iload_n hC 1 rfl rfl dX9_told_106 ?_
  obtain ⟨v28, M29, c30, h⟩ := gq_b_i h
  refine g_Vi (as := [.int a1]) hC (t_X8_at lkC_45_0 arC_46 N _ _ _ _ c30) mV_X8_at  wm_X9_200 obC_45 rfl rfl (Nat.le_of_ble_eq_true rfl) ⟨Nat.le_of_ble_eq_true rfl, Nat.le_of_ble_eq_true rfl⟩ ⟨Nat.zero_le _, Nat.zero_le _⟩ dX9_told_107 ?_
  exact g_iretsX hC hr h dX9_told_110
def f_X9_lot (N : Nat) (a1 : Int32) (a2 : Int32) (M : gq_M) : Option (Nat × Int32 × gq_M) :=
  gq_x2 (f_X9_mustExist N a1 (M 61 7) M) (fx_X9_mustExist N a1 (M 61 7) M) fun v1 M2 => gq_x2 (f_X9_mustBeIn N a2 0 5 M2) (fx_X9_mustBeIn N a2 0 5 M2) fun v5 M6 => if a2 = 0 then (gq_b (f_X8_at 63 150 N a1 M6) fun v10 M11 => some (0, v10, M11)) else if a2 = 1 then (gq_b (f_X8_at 65 150 N a1 M6) fun v14 M15 => gq_b (f_X1_kindOf N v14 M15) fun v17 M18 => some (0, v17, M18)) else if a2 = 2 then (gq_b (f_X8_at 65 150 N a1 M6) fun v21 M22 => gq_b (f_X1_sizeOf N v21 M22) fun v24 M25 => some (0, v24, M25)) else if a2 = 3 then (gq_b (f_X8_at 65 150 N a1 M6) fun v28 M29 => gq_b (f_X1_freshOf N v28 M29) fun v31 M32 => some (0, v31, M32)) else if a2 = 4 then (gq_b (f_X8_at 67 150 N a1 M6) fun v35 M36 => some (0, v35, M36)) else (gq_b (f_X6_left N a1 M6) fun v38 M39 => some (0, v38, M39))
set_option maxHeartbeats 1000000 in
set_option maxRecDepth 20000 in
theorem t_X9_lot {l : Launch} (hl9 : l.stackTraces = false) {D : va_G} {cI cZ : ClassId} {ad : Nat → Nat} (N : Nat) (a1 : Int32) (a2 : Int32) (M : gq_M) (ex9 : Nat) (v9 : Int32) (M9 : gq_M) (h : f_X9_lot N a1 a2 M = some (ex9, v9, M9)) : gq_Xi l D cI cZ ad mtC yX9_lot cX9_lot 3 (some .int) 7 [.ref (ad 0), .int a1, .int a2] M ex9 v9 M9 := by
  refine gq_introXi (own := RX9) (v := v9) (by decide) rfl (Nat.le_of_ble_eq_true rfl) ?_
  intro p e s m below meth c hC hr hZ htb
  refine g_cast (L2 := [(0, .ref (ad 0)), (1, .int a1), (2, .int a2)]) ?_ rfl rfl rfl rfl
  unfold f_X9_lot at h
  refine g_iload_n hC 1 rfl rfl dX9_lot_0 ?_
  refine g_aload_n hC 0 rfl rfl dX9_lot_1 ?_
  refine g_getR hC fF_X9_40 lkC_0_4 dX9_lot_2 ?_
  refine g_getI hC fF_X9_184 lkC_61_7 dX9_lot_5 ?_
  rcases gq_x2_i h with ⟨v1, M2, c3, h⟩ | ⟨k4, v1, M2, c3, hk4, h⟩
  rotate_left
  · exact g_SXo (as := [.int a1, .int (M 61 7)]) hC hZ htb (tx_X9_mustExist hl9 N _ _ _ _ _ _ c3) hk4 h ⟨rfl, rfl⟩ mS_X9_mustExist wm_X9_79 rfl rfl (Nat.le_of_ble_eq_true rfl) ⟨Nat.le_of_ble_eq_true rfl, Nat.le_of_ble_eq_true rfl⟩ dX9_lot_8
  refine g_Sv (as := [.int a1, .int (M 61 7)]) hC (t_X9_mustExist N _ _ _ _ _ c3) mS_X9_mustExist wm_X9_79 rfl rfl (Nat.le_of_ble_eq_true rfl) ⟨Nat.le_of_ble_eq_true rfl, Nat.le_of_ble_eq_true rfl⟩ ⟨Nat.zero_le _, Nat.zero_le _⟩ dX9_lot_8 ?_
  refine g_iload_n hC 2 rfl rfl dX9_lot_11 ?_
  refine g_iconst (v := 0) hC (by decide) dX9_lot_12 ?_
  refine g_iconst (v := 5) hC (by decide) dX9_lot_13 ?_
  rcases gq_x2_i h with ⟨v5, M6, c7, h⟩ | ⟨k8, v5, M6, c7, hk8, h⟩
  rotate_left
  · exact g_SXo (as := [.int a2, .int 0, .int 5]) hC hZ htb (tx_X9_mustBeIn hl9 N _ _ _ _ _ _ _ c7) hk8 h ⟨rfl, rfl⟩ mS_X9_mustBeIn wm_X9_84 rfl rfl (Nat.le_of_ble_eq_true rfl) ⟨Nat.le_of_ble_eq_true rfl, Nat.le_of_ble_eq_true rfl⟩ dX9_lot_14
  refine g_Sv (as := [.int a2, .int 0, .int 5]) hC (t_X9_mustBeIn N _ _ _ _ _ _ c7) mS_X9_mustBeIn wm_X9_84 rfl rfl (Nat.le_of_ble_eq_true rfl) ⟨Nat.le_of_ble_eq_true rfl, Nat.le_of_ble_eq_true rfl⟩ ⟨Nat.zero_le _, Nat.zero_le _⟩ dX9_lot_14 ?_
  refine g_iload_n hC 2 rfl rfl dX9_lot_17 ?_
  rcases gq_or h with ⟨c9, h⟩ | ⟨c9, h⟩
  · refine g_tsIn (tgt := 52) hC (by rw [c9]; decide) (by rw [c9]; decide) (by rw [c9]; rfl) (by decide) dX9_lot_18 ?_
    refine g_aload_n hC 0 rfl rfl dX9_lot_52 ?_
    refine g_getR hC fF_X9_40 lkC_0_4 dX9_lot_53 ?_
    refine g_getR hC fF_X9_286 lkC_61_0 dX9_lot_56 ?_
    refine g_iload_n hC 1 rfl rfl dX9_lot_59 ?_
    obtain ⟨v10, M11, c12, h⟩ := gq_b_i h
    refine g_Vi (as := [.int a1]) hC (t_X8_at lkC_62_0 arC_63 N _ _ _ _ c12) mV_X8_at  wm_X9_200 obC_62 rfl rfl (Nat.le_of_ble_eq_true rfl) ⟨Nat.le_of_ble_eq_true rfl, Nat.le_of_ble_eq_true rfl⟩ ⟨Nat.zero_le _, Nat.zero_le _⟩ dX9_lot_60 ?_
    exact g_iretsX hC hr h dX9_lot_63
  rcases gq_or h with ⟨c13, h⟩ | ⟨c13, h⟩
  · refine g_tsIn (tgt := 64) hC (by rw [c13]; decide) (by rw [c13]; decide) (by rw [c13]; rfl) (by decide) dX9_lot_18 ?_
    refine g_aload_n hC 0 rfl rfl dX9_lot_64 ?_
    refine g_getR hC fF_X9_40 lkC_0_4 dX9_lot_65 ?_
    refine g_getR hC fF_X9_287 lkC_61_1 dX9_lot_68 ?_
    refine g_iload_n hC 1 rfl rfl dX9_lot_71 ?_
    obtain ⟨v14, M15, c16, h⟩ := gq_b_i h
    refine g_Vi (as := [.int a1]) hC (t_X8_at lkC_64_0 arC_65 N _ _ _ _ c16) mV_X8_at  wm_X9_200 obC_64 rfl rfl (Nat.le_of_ble_eq_true rfl) ⟨Nat.le_of_ble_eq_true rfl, Nat.le_of_ble_eq_true rfl⟩ ⟨Nat.zero_le _, Nat.zero_le _⟩ dX9_lot_72 ?_
    obtain ⟨v17, M18, c19, h⟩ := gq_b_i h
    refine g_Si (as := [.int v14]) hC (t_X1_kindOf N _ _ _ _ c19) mS_X1_kindOf wm_X9_288 rfl rfl (Nat.le_of_ble_eq_true rfl) ⟨Nat.le_of_ble_eq_true rfl, Nat.le_of_ble_eq_true rfl⟩ ⟨Nat.zero_le _, Nat.zero_le _⟩ dX9_lot_75 ?_
    exact g_iretsX hC hr h dX9_lot_78
  rcases gq_or h with ⟨c20, h⟩ | ⟨c20, h⟩
  · refine g_tsIn (tgt := 79) hC (by rw [c20]; decide) (by rw [c20]; decide) (by rw [c20]; rfl) (by decide) dX9_lot_18 ?_
    refine g_aload_n hC 0 rfl rfl dX9_lot_79 ?_
    refine g_getR hC fF_X9_40 lkC_0_4 dX9_lot_80 ?_
    refine g_getR hC fF_X9_287 lkC_61_1 dX9_lot_83 ?_
    refine g_iload_n hC 1 rfl rfl dX9_lot_86 ?_
    obtain ⟨v21, M22, c23, h⟩ := gq_b_i h
    refine g_Vi (as := [.int a1]) hC (t_X8_at lkC_64_0 arC_65 N _ _ _ _ c23) mV_X8_at  wm_X9_200 obC_64 rfl rfl (Nat.le_of_ble_eq_true rfl) ⟨Nat.le_of_ble_eq_true rfl, Nat.le_of_ble_eq_true rfl⟩ ⟨Nat.zero_le _, Nat.zero_le _⟩ dX9_lot_87 ?_
    obtain ⟨v24, M25, c26, h⟩ := gq_b_i h
    refine g_Si (as := [.int v21]) hC (t_X1_sizeOf N _ _ _ _ c26) mS_X1_sizeOf wm_X9_291 rfl rfl (Nat.le_of_ble_eq_true rfl) ⟨Nat.le_of_ble_eq_true rfl, Nat.le_of_ble_eq_true rfl⟩ ⟨Nat.zero_le _, Nat.zero_le _⟩ dX9_lot_90 ?_
    exact g_iretsX hC hr h dX9_lot_93
  rcases gq_or h with ⟨c27, h⟩ | ⟨c27, h⟩
  · refine g_tsIn (tgt := 94) hC (by rw [c27]; decide) (by rw [c27]; decide) (by rw [c27]; rfl) (by decide) dX9_lot_18 ?_
    refine g_aload_n hC 0 rfl rfl dX9_lot_94 ?_
    refine g_getR hC fF_X9_40 lkC_0_4 dX9_lot_95 ?_
    refine g_getR hC fF_X9_287 lkC_61_1 dX9_lot_98 ?_
    refine g_iload_n hC 1 rfl rfl dX9_lot_101 ?_
    obtain ⟨v28, M29, c30, h⟩ := gq_b_i h
    refine g_Vi (as := [.int a1]) hC (t_X8_at lkC_64_0 arC_65 N _ _ _ _ c30) mV_X8_at  wm_X9_200 obC_64 rfl rfl (Nat.le_of_ble_eq_true rfl) ⟨Nat.le_of_ble_eq_true rfl, Nat.le_of_ble_eq_true rfl⟩ ⟨Nat.zero_le _, Nat.zero_le _⟩ dX9_lot_102 ?_
    obtain ⟨v31, M32, c33, h⟩ := gq_b_i h
    refine g_Si (as := [.int v28]) hC (t_X1_freshOf N _ _ _ _ c33) mS_X1_freshOf wm_X9_282 rfl rfl (Nat.le_of_ble_eq_true rfl) ⟨Nat.le_of_ble_eq_true rfl, Nat.le_of_ble_eq_true rfl⟩ ⟨Nat.zero_le _, Nat.zero_le _⟩ dX9_lot_105 ?_
    exact g_iretsX hC hr h dX9_lot_108
  rcases gq_or h with ⟨c34, h⟩ | ⟨c34, h⟩
  · refine g_tsIn (tgt := 109) hC (by rw [c34]; decide) (by rw [c34]; decide) (by rw [c34]; rfl) (by decide) dX9_lot_18 ?_
    refine g_aload_n hC 0 rfl rfl dX9_lot_109 ?_
    refine g_getR hC fF_X9_40 lkC_0_4 dX9_lot_110 ?_
    refine g_getR hC fF_X9_294 lkC_61_2 dX9_lot_113 ?_
    refine g_iload_n hC 1 rfl rfl dX9_lot_116 ?_
    obtain ⟨v35, M36, c37, h⟩ := gq_b_i h
    refine g_Vi (as := [.int a1]) hC (t_X8_at lkC_66_0 arC_67 N _ _ _ _ c37) mV_X8_at  wm_X9_200 obC_66 rfl rfl (Nat.le_of_ble_eq_true rfl) ⟨Nat.le_of_ble_eq_true rfl, Nat.le_of_ble_eq_true rfl⟩ ⟨Nat.zero_le _, Nat.zero_le _⟩ dX9_lot_117 ?_
    exact g_iretsX hC hr h dX9_lot_120
  refine g_tsOut (tgt := 121) hC (by have z0 := lv_neT c9 (a := 0) (by decide); have z1 := lv_neT c13 (a := 1) (by decide); have z2 := lv_neT c20 (a := 2) (by decide); have z3 := lv_neT c27 (a := 3) (by decide); have z4 := lv_neT c34 (a := 4) (by decide); omega) (by decide) dX9_lot_18 ?_
  refine g_aload_n hC 0 rfl rfl dX9_lot_121 ?_
  refine g_getR hC fF_X9_40 lkC_0_4 dX9_lot_122 ?_
  refine g_iload_n hC 1 rfl rfl dX9_lot_125 ?_
  obtain ⟨v38, M39, c40, h⟩ := gq_b_i h
  refine g_Vi (as := [.int a1]) hC (t_X6_left N _ _ _ _ c40) mV_X6_left  wm_X9_217 obC_61 rfl rfl (Nat.le_of_ble_eq_true rfl) ⟨Nat.le_of_ble_eq_true rfl, Nat.le_of_ble_eq_true rfl⟩ ⟨Nat.zero_le _, Nat.zero_le _⟩ dX9_lot_126 ?_
  exact g_iretsX hC hr h dX9_lot_129
def f_X9_hall (N : Nat) (a1 : Int32) (a2 : Int32) (M : gq_M) : Option (Nat × Int32 × gq_M) :=
  gq_x2 (f_X9_mustExist N a1 3 M) (fx_X9_mustExist N a1 3 M) fun v1 M2 => gq_x2 (f_X9_mustBeIn N a2 0 4 M2) (fx_X9_mustBeIn N a2 0 4 M2) fun v5 M6 => if a2 = 0 then (gq_b (f_X8_at 78 3 N a1 M6) fun v10 M11 => some (0, v10, M11)) else if a2 = 1 then (gq_b (f_X8_at 80 3 N a1 M6) fun v14 M15 => some (0, v14, M15)) else if a2 = 2 then (gq_b (f_X8_at 82 3 N a1 M6) fun v18 M19 => some (0, v18, M19)) else if a2 = 3 then (gq_b (f_X8_at 84 3 N a1 M6) fun v22 M23 => some (0, v22, M23)) else (gq_b (f_X8_at 86 3 N a1 M6) fun v25 M26 => some (0, v25, M26))
set_option maxHeartbeats 1000000 in
set_option maxRecDepth 20000 in
theorem t_X9_hall {l : Launch} (hl9 : l.stackTraces = false) {D : va_G} {cI cZ : ClassId} {ad : Nat → Nat} (N : Nat) (a1 : Int32) (a2 : Int32) (M : gq_M) (ex9 : Nat) (v9 : Int32) (M9 : gq_M) (h : f_X9_hall N a1 a2 M = some (ex9, v9, M9)) : gq_Xi l D cI cZ ad mtC yX9_hall cX9_hall 3 (some .int) 7 [.ref (ad 0), .int a1, .int a2] M ex9 v9 M9 := by
  refine gq_introXi (own := RX9) (v := v9) (by decide) rfl (Nat.le_of_ble_eq_true rfl) ?_
  intro p e s m below meth c hC hr hZ htb
  refine g_cast (L2 := [(0, .ref (ad 0)), (1, .int a1), (2, .int a2)]) ?_ rfl rfl rfl rfl
  unfold f_X9_hall at h
  refine g_iload_n hC 1 rfl rfl dX9_hall_0 ?_
  refine g_iconst (v := 3) hC (by decide) dX9_hall_1 ?_
  rcases gq_x2_i h with ⟨v1, M2, c3, h⟩ | ⟨k4, v1, M2, c3, hk4, h⟩
  rotate_left
  · exact g_SXo (as := [.int a1, .int 3]) hC hZ htb (tx_X9_mustExist hl9 N _ _ _ _ _ _ c3) hk4 h ⟨rfl, rfl⟩ mS_X9_mustExist wm_X9_79 rfl rfl (Nat.le_of_ble_eq_true rfl) ⟨Nat.le_of_ble_eq_true rfl, Nat.le_of_ble_eq_true rfl⟩ dX9_hall_2
  refine g_Sv (as := [.int a1, .int 3]) hC (t_X9_mustExist N _ _ _ _ _ c3) mS_X9_mustExist wm_X9_79 rfl rfl (Nat.le_of_ble_eq_true rfl) ⟨Nat.le_of_ble_eq_true rfl, Nat.le_of_ble_eq_true rfl⟩ ⟨Nat.zero_le _, Nat.zero_le _⟩ dX9_hall_2 ?_
  refine g_iload_n hC 2 rfl rfl dX9_hall_5 ?_
  refine g_iconst (v := 0) hC (by decide) dX9_hall_6 ?_
  refine g_iconst (v := 4) hC (by decide) dX9_hall_7 ?_
  rcases gq_x2_i h with ⟨v5, M6, c7, h⟩ | ⟨k8, v5, M6, c7, hk8, h⟩
  rotate_left
  · exact g_SXo (as := [.int a2, .int 0, .int 4]) hC hZ htb (tx_X9_mustBeIn hl9 N _ _ _ _ _ _ _ c7) hk8 h ⟨rfl, rfl⟩ mS_X9_mustBeIn wm_X9_84 rfl rfl (Nat.le_of_ble_eq_true rfl) ⟨Nat.le_of_ble_eq_true rfl, Nat.le_of_ble_eq_true rfl⟩ dX9_hall_8
  refine g_Sv (as := [.int a2, .int 0, .int 4]) hC (t_X9_mustBeIn N _ _ _ _ _ _ c7) mS_X9_mustBeIn wm_X9_84 rfl rfl (Nat.le_of_ble_eq_true rfl) ⟨Nat.le_of_ble_eq_true rfl, Nat.le_of_ble_eq_true rfl⟩ ⟨Nat.zero_le _, Nat.zero_le _⟩ dX9_hall_8 ?_
  refine g_iload_n hC 2 rfl rfl dX9_hall_11 ?_
  rcases gq_or h with ⟨c9, h⟩ | ⟨c9, h⟩
  · refine g_tsIn (tgt := 44) hC (by rw [c9]; decide) (by rw [c9]; decide) (by rw [c9]; rfl) (by decide) dX9_hall_12 ?_
    refine g_aload_n hC 0 rfl rfl dX9_hall_44 ?_
    refine g_getR hC fF_X9_47 lkC_0_5 dX9_hall_45 ?_
    refine g_getR hC fF_X9_197 lkC_76_0 dX9_hall_48 ?_
    refine g_iload_n hC 1 rfl rfl dX9_hall_51 ?_
    obtain ⟨v10, M11, c12, h⟩ := gq_b_i h
    refine g_Vi (as := [.int a1]) hC (t_X8_at lkC_77_0 arC_78 N _ _ _ _ c12) mV_X8_at  wm_X9_200 obC_77 rfl rfl (Nat.le_of_ble_eq_true rfl) ⟨Nat.le_of_ble_eq_true rfl, Nat.le_of_ble_eq_true rfl⟩ ⟨Nat.zero_le _, Nat.zero_le _⟩ dX9_hall_52 ?_
    exact g_iretsX hC hr h dX9_hall_55
  rcases gq_or h with ⟨c13, h⟩ | ⟨c13, h⟩
  · refine g_tsIn (tgt := 56) hC (by rw [c13]; decide) (by rw [c13]; decide) (by rw [c13]; rfl) (by decide) dX9_hall_12 ?_
    refine g_aload_n hC 0 rfl rfl dX9_hall_56 ?_
    refine g_getR hC fF_X9_47 lkC_0_5 dX9_hall_57 ?_
    refine g_getR hC fF_X9_216 lkC_76_1 dX9_hall_60 ?_
    refine g_iload_n hC 1 rfl rfl dX9_hall_63 ?_
    obtain ⟨v14, M15, c16, h⟩ := gq_b_i h
    refine g_Vi (as := [.int a1]) hC (t_X8_at lkC_79_0 arC_80 N _ _ _ _ c16) mV_X8_at  wm_X9_200 obC_79 rfl rfl (Nat.le_of_ble_eq_true rfl) ⟨Nat.le_of_ble_eq_true rfl, Nat.le_of_ble_eq_true rfl⟩ ⟨Nat.zero_le _, Nat.zero_le _⟩ dX9_hall_64 ?_
    exact g_iretsX hC hr h dX9_hall_67
  rcases gq_or h with ⟨c17, h⟩ | ⟨c17, h⟩
  · refine g_tsIn (tgt := 68) hC (by rw [c17]; decide) (by rw [c17]; decide) (by rw [c17]; rfl) (by decide) dX9_hall_12 ?_
    refine g_aload_n hC 0 rfl rfl dX9_hall_68 ?_
    refine g_getR hC fF_X9_47 lkC_0_5 dX9_hall_69 ?_
    refine g_getR hC fF_X9_206 lkC_76_2 dX9_hall_72 ?_
    refine g_iload_n hC 1 rfl rfl dX9_hall_75 ?_
    obtain ⟨v18, M19, c20, h⟩ := gq_b_i h
    refine g_Vi (as := [.int a1]) hC (t_X8_at lkC_81_0 arC_82 N _ _ _ _ c20) mV_X8_at  wm_X9_200 obC_81 rfl rfl (Nat.le_of_ble_eq_true rfl) ⟨Nat.le_of_ble_eq_true rfl, Nat.le_of_ble_eq_true rfl⟩ ⟨Nat.zero_le _, Nat.zero_le _⟩ dX9_hall_76 ?_
    exact g_iretsX hC hr h dX9_hall_79
  rcases gq_or h with ⟨c21, h⟩ | ⟨c21, h⟩
  · refine g_tsIn (tgt := 80) hC (by rw [c21]; decide) (by rw [c21]; decide) (by rw [c21]; rfl) (by decide) dX9_hall_12 ?_
    refine g_aload_n hC 0 rfl rfl dX9_hall_80 ?_
    refine g_getR hC fF_X9_47 lkC_0_5 dX9_hall_81 ?_
    refine g_getR hC fF_X9_213 lkC_76_3 dX9_hall_84 ?_
    refine g_iload_n hC 1 rfl rfl dX9_hall_87 ?_
    obtain ⟨v22, M23, c24, h⟩ := gq_b_i h
    refine g_Vi (as := [.int a1]) hC (t_X8_at lkC_83_0 arC_84 N _ _ _ _ c24) mV_X8_at  wm_X9_200 obC_83 rfl rfl (Nat.le_of_ble_eq_true rfl) ⟨Nat.le_of_ble_eq_true rfl, Nat.le_of_ble_eq_true rfl⟩ ⟨Nat.zero_le _, Nat.zero_le _⟩ dX9_hall_88 ?_
    exact g_iretsX hC hr h dX9_hall_91
  refine g_tsOut (tgt := 92) hC (by have z0 := lv_neT c9 (a := 0) (by decide); have z1 := lv_neT c13 (a := 1) (by decide); have z2 := lv_neT c17 (a := 2) (by decide); have z3 := lv_neT c21 (a := 3) (by decide); omega) (by decide) dX9_hall_12 ?_
  refine g_aload_n hC 0 rfl rfl dX9_hall_92 ?_
  refine g_getR hC fF_X9_47 lkC_0_5 dX9_hall_93 ?_
  refine g_getR hC fF_X9_167 lkC_76_4 dX9_hall_96 ?_
  refine g_iload_n hC 1 rfl rfl dX9_hall_99 ?_
  obtain ⟨v25, M26, c27, h⟩ := gq_b_i h
  refine g_Vi (as := [.int a1]) hC (t_X8_at lkC_85_0 arC_86 N _ _ _ _ c27) mV_X8_at  wm_X9_200 obC_85 rfl rfl (Nat.le_of_ble_eq_true rfl) ⟨Nat.le_of_ble_eq_true rfl, Nat.le_of_ble_eq_true rfl⟩ ⟨Nat.zero_le _, Nat.zero_le _⟩ dX9_hall_100 ?_
  exact g_iretsX hC hr h dX9_hall_103
def f_X9_account (N : Nat) (a1 : Int32) (a2 : Int32) (M : gq_M) : Option (Nat × Int32 × gq_M) :=
  gq_x2 (f_X9_mustExist N a1 8 M) (fx_X9_mustExist N a1 8 M) fun v1 M2 => gq_x2 (f_X9_mustBeIn N a2 0 2 M2) (fx_X9_mustBeIn N a2 0 2 M2) fun v5 M6 => if a2 = 0 then (gq_b (f_X8_at 25 8 N a1 M6) fun v10 M11 => some (0, v10, M11)) else if a2 = 1 then (gq_b (f_X8_at 29 8 N a1 M6) fun v14 M15 => some (0, v14, M15)) else (gq_b (f_X8_at 31 8 N a1 M6) fun v17 M18 => some (0, v17, M18))
set_option maxHeartbeats 1000000 in
set_option maxRecDepth 20000 in
theorem t_X9_account {l : Launch} (hl9 : l.stackTraces = false) {D : va_G} {cI cZ : ClassId} {ad : Nat → Nat} (N : Nat) (a1 : Int32) (a2 : Int32) (M : gq_M) (ex9 : Nat) (v9 : Int32) (M9 : gq_M) (h : f_X9_account N a1 a2 M = some (ex9, v9, M9)) : gq_Xi l D cI cZ ad mtC yX9_account cX9_account 3 (some .int) 7 [.ref (ad 0), .int a1, .int a2] M ex9 v9 M9 := by
  refine gq_introXi (own := RX9) (v := v9) (by decide) rfl (Nat.le_of_ble_eq_true rfl) ?_
  intro p e s m below meth c hC hr hZ htb
  refine g_cast (L2 := [(0, .ref (ad 0)), (1, .int a1), (2, .int a2)]) ?_ rfl rfl rfl rfl
  unfold f_X9_account at h
  refine g_iload_n hC 1 rfl rfl dX9_account_0 ?_
  refine g_bipush (v := 8) hC (by decide) dX9_account_1 ?_
  rcases gq_x2_i h with ⟨v1, M2, c3, h⟩ | ⟨k4, v1, M2, c3, hk4, h⟩
  rotate_left
  · exact g_SXo (as := [.int a1, .int 8]) hC hZ htb (tx_X9_mustExist hl9 N _ _ _ _ _ _ c3) hk4 h ⟨rfl, rfl⟩ mS_X9_mustExist wm_X9_79 rfl rfl (Nat.le_of_ble_eq_true rfl) ⟨Nat.le_of_ble_eq_true rfl, Nat.le_of_ble_eq_true rfl⟩ dX9_account_3
  refine g_Sv (as := [.int a1, .int 8]) hC (t_X9_mustExist N _ _ _ _ _ c3) mS_X9_mustExist wm_X9_79 rfl rfl (Nat.le_of_ble_eq_true rfl) ⟨Nat.le_of_ble_eq_true rfl, Nat.le_of_ble_eq_true rfl⟩ ⟨Nat.zero_le _, Nat.zero_le _⟩ dX9_account_3 ?_
  refine g_iload_n hC 2 rfl rfl dX9_account_6 ?_
  refine g_iconst (v := 0) hC (by decide) dX9_account_7 ?_
  refine g_iconst (v := 2) hC (by decide) dX9_account_8 ?_
  rcases gq_x2_i h with ⟨v5, M6, c7, h⟩ | ⟨k8, v5, M6, c7, hk8, h⟩
  rotate_left
  · exact g_SXo (as := [.int a2, .int 0, .int 2]) hC hZ htb (tx_X9_mustBeIn hl9 N _ _ _ _ _ _ _ c7) hk8 h ⟨rfl, rfl⟩ mS_X9_mustBeIn wm_X9_84 rfl rfl (Nat.le_of_ble_eq_true rfl) ⟨Nat.le_of_ble_eq_true rfl, Nat.le_of_ble_eq_true rfl⟩ dX9_account_9
  refine g_Sv (as := [.int a2, .int 0, .int 2]) hC (t_X9_mustBeIn N _ _ _ _ _ _ c7) mS_X9_mustBeIn wm_X9_84 rfl rfl (Nat.le_of_ble_eq_true rfl) ⟨Nat.le_of_ble_eq_true rfl, Nat.le_of_ble_eq_true rfl⟩ ⟨Nat.zero_le _, Nat.zero_le _⟩ dX9_account_9 ?_
  refine g_iload_n hC 2 rfl rfl dX9_account_12 ?_
  rcases gq_or h with ⟨c9, h⟩ | ⟨c9, h⟩
  · refine g_ls (off := 27) (tgt := 40) hC (by decide) (by rw [c9] <;> rfl) (by decide) dX9_account_13 ?_
    refine g_aload_n hC 0 rfl rfl dX9_account_40 ?_
    refine g_getR hC fF_X9_26 lkC_0_2 dX9_account_41 ?_
    refine g_getR hC fF_X9_126 lkC_23_0 dX9_account_44 ?_
    refine g_iload_n hC 1 rfl rfl dX9_account_47 ?_
    obtain ⟨v10, M11, c12, h⟩ := gq_b_i h
    refine g_Vi (as := [.int a1]) hC (t_X8_at lkC_24_0 arC_25 N _ _ _ _ c12) mV_X8_at  wm_X9_200 obC_24 rfl rfl (Nat.le_of_ble_eq_true rfl) ⟨Nat.le_of_ble_eq_true rfl, Nat.le_of_ble_eq_true rfl⟩ ⟨Nat.zero_le _, Nat.zero_le _⟩ dX9_account_48 ?_
    exact g_iretsX hC hr h dX9_account_51
  rcases gq_or h with ⟨c13, h⟩ | ⟨c13, h⟩
  · refine g_ls (off := 39) (tgt := 52) hC (by decide) (by rw [c13] <;> rfl) (by decide) dX9_account_13 ?_
    refine g_aload_n hC 0 rfl rfl dX9_account_52 ?_
    refine g_getR hC fF_X9_26 lkC_0_2 dX9_account_53 ?_
    refine g_getR hC fF_X9_241 lkC_23_2 dX9_account_56 ?_
    refine g_iload_n hC 1 rfl rfl dX9_account_59 ?_
    obtain ⟨v14, M15, c16, h⟩ := gq_b_i h
    refine g_Vi (as := [.int a1]) hC (t_X8_at lkC_28_0 arC_29 N _ _ _ _ c16) mV_X8_at  wm_X9_200 obC_28 rfl rfl (Nat.le_of_ble_eq_true rfl) ⟨Nat.le_of_ble_eq_true rfl, Nat.le_of_ble_eq_true rfl⟩ ⟨Nat.zero_le _, Nat.zero_le _⟩ dX9_account_60 ?_
    exact g_iretsX hC hr h dX9_account_63
  refine g_ls (off := 51) (tgt := 64) hC (by decide) (by show Op.lookupswitch.offset _ _ _ = _; rw [lv_osw c9 (by decide), lv_osw c13 (by decide)] <;> rfl) (by decide) dX9_account_13 ?_
  refine g_aload_n hC 0 rfl rfl dX9_account_64 ?_
  refine g_getR hC fF_X9_26 lkC_0_2 dX9_account_65 ?_
  refine g_getR hC fF_X9_295 lkC_23_3 dX9_account_68 ?_
  refine g_iload_n hC 1 rfl rfl dX9_account_71 ?_
  obtain ⟨v17, M18, c19, h⟩ := gq_b_i h
  refine g_Vi (as := [.int a1]) hC (t_X8_at lkC_30_0 arC_31 N _ _ _ _ c19) mV_X8_at  wm_X9_200 obC_30 rfl rfl (Nat.le_of_ble_eq_true rfl) ⟨Nat.le_of_ble_eq_true rfl, Nat.le_of_ble_eq_true rfl⟩ ⟨Nat.zero_le _, Nat.zero_le _⟩ dX9_account_72 ?_
  exact g_iretsX hC hr h dX9_account_75
def f_X9_ship (N : Nat) (a1 : Int32) (a2 : Int32) (M : gq_M) : Option (Nat × Int32 × gq_M) :=
  gq_x2 (f_X9_mustExist N a1 8 M) (fx_X9_mustExist N a1 8 M) fun v1 M2 => gq_x2 (f_X9_mustBeIn N a2 0 2 M2) (fx_X9_mustBeIn N a2 0 2 M2) fun v5 M6 => if a2 = 0 then (gq_b (f_X8_at 13 8 N a1 M6) fun v10 M11 => some (0, v10, M11)) else if a2 = 1 then (gq_b (f_X8_at 9 8 N a1 M6) fun v14 M15 => some (0, v14, M15)) else (gq_b (f_X8_at 7 8 N a1 M6) fun v17 M18 => some (0, v17, M18))
set_option maxHeartbeats 1000000 in
set_option maxRecDepth 20000 in
theorem t_X9_ship {l : Launch} (hl9 : l.stackTraces = false) {D : va_G} {cI cZ : ClassId} {ad : Nat → Nat} (N : Nat) (a1 : Int32) (a2 : Int32) (M : gq_M) (ex9 : Nat) (v9 : Int32) (M9 : gq_M) (h : f_X9_ship N a1 a2 M = some (ex9, v9, M9)) : gq_Xi l D cI cZ ad mtC yX9_ship cX9_ship 3 (some .int) 7 [.ref (ad 0), .int a1, .int a2] M ex9 v9 M9 := by
  refine gq_introXi (own := RX9) (v := v9) (by decide) rfl (Nat.le_of_ble_eq_true rfl) ?_
  intro p e s m below meth c hC hr hZ htb
  refine g_cast (L2 := [(0, .ref (ad 0)), (1, .int a1), (2, .int a2)]) ?_ rfl rfl rfl rfl
  unfold f_X9_ship at h
  refine g_iload_n hC 1 rfl rfl dX9_ship_0 ?_
  refine g_bipush (v := 8) hC (by decide) dX9_ship_1 ?_
  rcases gq_x2_i h with ⟨v1, M2, c3, h⟩ | ⟨k4, v1, M2, c3, hk4, h⟩
  rotate_left
  · exact g_SXo (as := [.int a1, .int 8]) hC hZ htb (tx_X9_mustExist hl9 N _ _ _ _ _ _ c3) hk4 h ⟨rfl, rfl⟩ mS_X9_mustExist wm_X9_79 rfl rfl (Nat.le_of_ble_eq_true rfl) ⟨Nat.le_of_ble_eq_true rfl, Nat.le_of_ble_eq_true rfl⟩ dX9_ship_3
  refine g_Sv (as := [.int a1, .int 8]) hC (t_X9_mustExist N _ _ _ _ _ c3) mS_X9_mustExist wm_X9_79 rfl rfl (Nat.le_of_ble_eq_true rfl) ⟨Nat.le_of_ble_eq_true rfl, Nat.le_of_ble_eq_true rfl⟩ ⟨Nat.zero_le _, Nat.zero_le _⟩ dX9_ship_3 ?_
  refine g_iload_n hC 2 rfl rfl dX9_ship_6 ?_
  refine g_iconst (v := 0) hC (by decide) dX9_ship_7 ?_
  refine g_iconst (v := 2) hC (by decide) dX9_ship_8 ?_
  rcases gq_x2_i h with ⟨v5, M6, c7, h⟩ | ⟨k8, v5, M6, c7, hk8, h⟩
  rotate_left
  · exact g_SXo (as := [.int a2, .int 0, .int 2]) hC hZ htb (tx_X9_mustBeIn hl9 N _ _ _ _ _ _ _ c7) hk8 h ⟨rfl, rfl⟩ mS_X9_mustBeIn wm_X9_84 rfl rfl (Nat.le_of_ble_eq_true rfl) ⟨Nat.le_of_ble_eq_true rfl, Nat.le_of_ble_eq_true rfl⟩ dX9_ship_9
  refine g_Sv (as := [.int a2, .int 0, .int 2]) hC (t_X9_mustBeIn N _ _ _ _ _ _ c7) mS_X9_mustBeIn wm_X9_84 rfl rfl (Nat.le_of_ble_eq_true rfl) ⟨Nat.le_of_ble_eq_true rfl, Nat.le_of_ble_eq_true rfl⟩ ⟨Nat.zero_le _, Nat.zero_le _⟩ dX9_ship_9 ?_
  refine g_iload_n hC 2 rfl rfl dX9_ship_12 ?_
  rcases gq_or h with ⟨c9, h⟩ | ⟨c9, h⟩
  · refine g_ls (off := 27) (tgt := 40) hC (by decide) (by rw [c9] <;> rfl) (by decide) dX9_ship_13 ?_
    refine g_aload_n hC 0 rfl rfl dX9_ship_40 ?_
    refine g_getR hC fF_X9_10 lkC_0_0 dX9_ship_41 ?_
    refine g_getR hC fF_X9_266 lkC_1_5 dX9_ship_44 ?_
    refine g_iload_n hC 1 rfl rfl dX9_ship_47 ?_
    obtain ⟨v10, M11, c12, h⟩ := gq_b_i h
    refine g_Vi (as := [.int a1]) hC (t_X8_at lkC_12_0 arC_13 N _ _ _ _ c12) mV_X8_at  wm_X9_200 obC_12 rfl rfl (Nat.le_of_ble_eq_true rfl) ⟨Nat.le_of_ble_eq_true rfl, Nat.le_of_ble_eq_true rfl⟩ ⟨Nat.zero_le _, Nat.zero_le _⟩ dX9_ship_48 ?_
    exact g_iretsX hC hr h dX9_ship_51
  rcases gq_or h with ⟨c13, h⟩ | ⟨c13, h⟩
  · refine g_ls (off := 39) (tgt := 52) hC (by decide) (by rw [c13] <;> rfl) (by decide) dX9_ship_13 ?_
    refine g_aload_n hC 0 rfl rfl dX9_ship_52 ?_
    refine g_getR hC fF_X9_10 lkC_0_0 dX9_ship_53 ?_
    refine g_getR hC fF_X9_107 lkC_1_3 dX9_ship_56 ?_
    refine g_iload_n hC 1 rfl rfl dX9_ship_59 ?_
    obtain ⟨v14, M15, c16, h⟩ := gq_b_i h
    refine g_Vi (as := [.int a1]) hC (t_X8_at lkC_8_0 arC_9 N _ _ _ _ c16) mV_X8_at  wm_X9_200 obC_8 rfl rfl (Nat.le_of_ble_eq_true rfl) ⟨Nat.le_of_ble_eq_true rfl, Nat.le_of_ble_eq_true rfl⟩ ⟨Nat.zero_le _, Nat.zero_le _⟩ dX9_ship_60 ?_
    exact g_iretsX hC hr h dX9_ship_63
  refine g_ls (off := 51) (tgt := 64) hC (by decide) (by show Op.lookupswitch.offset _ _ _ = _; rw [lv_osw c9 (by decide), lv_osw c13 (by decide)] <;> rfl) (by decide) dX9_ship_13 ?_
  refine g_aload_n hC 0 rfl rfl dX9_ship_64 ?_
  refine g_getR hC fF_X9_10 lkC_0_0 dX9_ship_65 ?_
  refine g_getR hC fF_X9_298 lkC_1_2 dX9_ship_68 ?_
  refine g_iload_n hC 1 rfl rfl dX9_ship_71 ?_
  obtain ⟨v17, M18, c19, h⟩ := gq_b_i h
  refine g_Vi (as := [.int a1]) hC (t_X8_at lkC_6_0 arC_7 N _ _ _ _ c19) mV_X8_at  wm_X9_200 obC_6 rfl rfl (Nat.le_of_ble_eq_true rfl) ⟨Nat.le_of_ble_eq_true rfl, Nat.le_of_ble_eq_true rfl⟩ ⟨Nat.zero_le _, Nat.zero_le _⟩ dX9_ship_72 ?_
  exact g_iretsX hC hr h dX9_ship_75
def f_X9_kilos (N : Nat) (a1 : Int32) (M : gq_M) : Option (Nat × Int32 × gq_M) :=
  gq_x2 (f_X9_mustBeIn N a1 0 5 M) (fx_X9_mustBeIn N a1 0 5 M) fun v1 M2 => gq_b (f_X8_at 60 6 N a1 M2) fun v5 M6 => some (0, v5, M6)
set_option maxHeartbeats 1000000 in
set_option maxRecDepth 20000 in
theorem t_X9_kilos {l : Launch} (hl9 : l.stackTraces = false) {D : va_G} {cI cZ : ClassId} {ad : Nat → Nat} (N : Nat) (a1 : Int32) (M : gq_M) (ex9 : Nat) (v9 : Int32) (M9 : gq_M) (h : f_X9_kilos N a1 M = some (ex9, v9, M9)) : gq_Xi l D cI cZ ad mtC yX9_kilos cX9_kilos 2 (some .int) 7 [.ref (ad 0), .int a1] M ex9 v9 M9 := by
  refine gq_introXi (own := RX9) (v := v9) (by decide) rfl (Nat.le_of_ble_eq_true rfl) ?_
  intro p e s m below meth c hC hr hZ htb
  refine g_cast (L2 := [(0, .ref (ad 0)), (1, .int a1)]) ?_ rfl rfl rfl rfl
  unfold f_X9_kilos at h
  refine g_iload_n hC 1 rfl rfl dX9_kilos_0 ?_
  refine g_iconst (v := 0) hC (by decide) dX9_kilos_1 ?_
  refine g_iconst (v := 5) hC (by decide) dX9_kilos_2 ?_
  rcases gq_x2_i h with ⟨v1, M2, c3, h⟩ | ⟨k4, v1, M2, c3, hk4, h⟩
  rotate_left
  · exact g_SXo (as := [.int a1, .int 0, .int 5]) hC hZ htb (tx_X9_mustBeIn hl9 N _ _ _ _ _ _ _ c3) hk4 h ⟨rfl, rfl⟩ mS_X9_mustBeIn wm_X9_84 rfl rfl (Nat.le_of_ble_eq_true rfl) ⟨Nat.le_of_ble_eq_true rfl, Nat.le_of_ble_eq_true rfl⟩ dX9_kilos_3
  refine g_Sv (as := [.int a1, .int 0, .int 5]) hC (t_X9_mustBeIn N _ _ _ _ _ _ c3) mS_X9_mustBeIn wm_X9_84 rfl rfl (Nat.le_of_ble_eq_true rfl) ⟨Nat.le_of_ble_eq_true rfl, Nat.le_of_ble_eq_true rfl⟩ ⟨Nat.zero_le _, Nat.zero_le _⟩ dX9_kilos_3 ?_
  refine g_aload_n hC 0 rfl rfl dX9_kilos_6 ?_
  refine g_getR hC fF_X9_33 lkC_0_3 dX9_kilos_7 ?_
  refine g_getR hC fF_X9_301 lkC_34_12 dX9_kilos_10 ?_
  refine g_iload_n hC 1 rfl rfl dX9_kilos_13 ?_
  obtain ⟨v5, M6, c7, h⟩ := gq_b_i h
  refine g_Vi (as := [.int a1]) hC (t_X8_at lkC_59_0 arC_60 N _ _ _ _ c7) mV_X8_at  wm_X9_200 obC_59 rfl rfl (Nat.le_of_ble_eq_true rfl) ⟨Nat.le_of_ble_eq_true rfl, Nat.le_of_ble_eq_true rfl⟩ ⟨Nat.zero_le _, Nat.zero_le _⟩ dX9_kilos_14 ?_
  exact g_iretsX hC hr h dX9_kilos_17
def f_X9_kilosAnew_57 (N : Nat) (kh10 : Int32 → Int32 → Int32 → gq_M → Option (Nat × Int32 × gq_M)) (x1 : Int32) (x2 : Int32) (x3 : Int32) (M : gq_M) : Option (Nat × Int32 × gq_M) :=
  kh10 x1 x2 (x3 + 1) M
set_option maxHeartbeats 1000000 in
set_option maxRecDepth 20000 in
theorem t_X9_kilosAnew_57 {N : Nat} {kh10 : Int32 → Int32 → Int32 → gq_M → Option (Nat × Int32 × gq_M)} {ex9 : Nat} {v9 : Int32} {M9 : gq_M} (hl9 : l.stackTraces = false) (hZ : gq_Z A s) (htb : ∀ x ∈ c.exceptionTable.toList, False) (hC : gq_C p s m args meth c D A cI cZ ad mtC RX9 cX9_kilosAnew 4) (hr : meth.sig.returnType = (some .int)) (hk10 : ∀ (x1 : Int32) (x2 : Int32) (x3 : Int32) (M : gq_M), kh10 x1 x2 x3 M = some (ex9, v9, M9) → gq_W p l e (gq_rx 7 ex9) s m args below meth c D A cI cZ ad mtC 4 (vx_MQ below (gq_Qix D cI cZ ad mtC ex9 v9 M9 A) (gq_XC D cI cZ ad mtC ex9 M9 A) args s (gq_xc ex9) (gq_xs ex9) A) 10 [(0, .ref (ad 0)), (1, .int x1), (2, .int x2), (3, .int x3)] [] M 0 0)  : ∀ (x1 : Int32) (x2 : Int32) (x3 : Int32) (M : gq_M), f_X9_kilosAnew_57 N kh10 x1 x2 x3 M = some (ex9, v9, M9) → gq_W p l e (gq_rx 7 ex9) s m args below meth c D A cI cZ ad mtC 4 (vx_MQ below (gq_Qix D cI cZ ad mtC ex9 v9 M9 A) (gq_XC D cI cZ ad mtC ex9 M9 A) args s (gq_xc ex9) (gq_xs ex9) A) 57 [(0, .ref (ad 0)), (1, .int x1), (2, .int x2), (3, .int x3)] [] M 0 0 := by
  intro x1 x2 x3 M h
  unfold f_X9_kilosAnew_57 at h
  refine g_iinc (v := (x3 + 1)) (L2 := [(3, .int (x3 + 1)), (0, .ref (ad 0)), (1, .int x1), (2, .int x2)]) hC 3 rfl (by first | rfl | decide) (by decide) rfl dX9_kilosAnew_57 ?_
  refine g_goto (tgt := 10) hC (by decide) dX9_kilosAnew_60 ?_
  exact g_weak [1, 2, 3, 0] rfl (hk10 x1 x2 (x3 + 1) M h)
def f_X9_kilosAnew_43 (N : Nat) (kh10 : Int32 → Int32 → Int32 → gq_M → Option (Nat × Int32 × gq_M)) (x1 : Int32) (x2 : Int32) (x3 : Int32) (M : gq_M) : Option (Nat × Int32 × gq_M) :=
  gq_b (f_X8_at 40 150 N x3 M) fun v14 M15 => f_X9_kilosAnew_57 N kh10 x1 (x2 + v14) x3 M15
set_option maxHeartbeats 1000000 in
set_option maxRecDepth 20000 in
theorem t_X9_kilosAnew_43 {N : Nat} {kh10 : Int32 → Int32 → Int32 → gq_M → Option (Nat × Int32 × gq_M)} {ex9 : Nat} {v9 : Int32} {M9 : gq_M} (hl9 : l.stackTraces = false) (hZ : gq_Z A s) (htb : ∀ x ∈ c.exceptionTable.toList, False) (hC : gq_C p s m args meth c D A cI cZ ad mtC RX9 cX9_kilosAnew 4) (hr : meth.sig.returnType = (some .int)) (hk10 : ∀ (x1 : Int32) (x2 : Int32) (x3 : Int32) (M : gq_M), kh10 x1 x2 x3 M = some (ex9, v9, M9) → gq_W p l e (gq_rx 7 ex9) s m args below meth c D A cI cZ ad mtC 4 (vx_MQ below (gq_Qix D cI cZ ad mtC ex9 v9 M9 A) (gq_XC D cI cZ ad mtC ex9 M9 A) args s (gq_xc ex9) (gq_xs ex9) A) 10 [(0, .ref (ad 0)), (1, .int x1), (2, .int x2), (3, .int x3)] [] M 0 0)  : ∀ (x1 : Int32) (x2 : Int32) (x3 : Int32) (M : gq_M), f_X9_kilosAnew_43 N kh10 x1 x2 x3 M = some (ex9, v9, M9) → gq_W p l e (gq_rx 7 ex9) s m args below meth c D A cI cZ ad mtC 4 (vx_MQ below (gq_Qix D cI cZ ad mtC ex9 v9 M9 A) (gq_XC D cI cZ ad mtC ex9 M9 A) args s (gq_xc ex9) (gq_xs ex9) A) 43 [(0, .ref (ad 0)), (1, .int x1), (2, .int x2), (3, .int x3)] [] M 0 0 := by
  intro x1 x2 x3 M h
  unfold f_X9_kilosAnew_43 at h
  refine g_iload_n hC 2 rfl rfl dX9_kilosAnew_43 ?_
  refine g_aload_n hC 0 rfl rfl dX9_kilosAnew_44 ?_
  refine g_getR hC fF_X9_33 lkC_0_3 dX9_kilosAnew_45 ?_
  refine g_getR hC fF_X9_307 lkC_34_2 dX9_kilosAnew_48 ?_
  refine g_iload_n hC 3 rfl rfl dX9_kilosAnew_51 ?_
  obtain ⟨v14, M15, c16, h⟩ := gq_b_i h
  refine g_Vi (as := [.int x3]) hC (t_X8_at lkC_39_0 arC_40 N _ _ _ _ c16) mV_X8_at  wm_X9_200 obC_39 rfl rfl (Nat.le_of_ble_eq_true rfl) ⟨Nat.le_of_ble_eq_true rfl, Nat.le_of_ble_eq_true rfl⟩ ⟨Nat.zero_le _, Nat.zero_le _⟩ dX9_kilosAnew_52 ?_
  refine g_iadd hC dX9_kilosAnew_55 ?_
  refine g_istore_n (L2 := [(2, .int (x2 + v14)), (0, .ref (ad 0)), (1, .int x1), (3, .int x3)]) hC rfl (by decide) rfl dX9_kilosAnew_56 ?_
  exact g_weak [1, 2, 0, 3] rfl (t_X9_kilosAnew_57 hl9 hZ htb hC hr hk10 x1 (x2 + v14) x3 M15 h)
def f_X9_kilosAnew_10_b (N : Nat) (kh10 : Int32 → Int32 → Int32 → gq_M → Option (Nat × Int32 × gq_M)) (x1 : Int32) (x2 : Int32) (x3 : Int32) (M : gq_M) : Option (Nat × Int32 × gq_M) :=
  if (M 34 13) ≤ x3 then (some (0, x2, M)) else (if x1 = 0 then (f_X9_kilosAnew_43 N kh10 x1 x2 x3 M) else (gq_b (f_X8_at 44 150 N x3 M) fun v7 M8 => gq_b (f_X1_sumOf N v7 M8) fun v10 M11 => if v10 = x1 then (f_X9_kilosAnew_43 N kh10 x1 x2 x3 M11) else (f_X9_kilosAnew_57 N kh10 x1 x2 x3 M11)))
def f_X9_kilosAnew_10 (N : Nat) : Nat → Int32 → Int32 → Int32 → gq_M → Option (Nat × Int32 × gq_M)
  | 0 => fun _ _ _ _ => none
  | n9 + 1 => f_X9_kilosAnew_10_b N  (f_X9_kilosAnew_10 N  n9)
set_option maxHeartbeats 1000000 in
set_option maxRecDepth 20000 in
theorem t_X9_kilosAnew_10_b {N : Nat} {kh10 : Int32 → Int32 → Int32 → gq_M → Option (Nat × Int32 × gq_M)} {ex9 : Nat} {v9 : Int32} {M9 : gq_M} (hl9 : l.stackTraces = false) (hZ : gq_Z A s) (htb : ∀ x ∈ c.exceptionTable.toList, False) (hC : gq_C p s m args meth c D A cI cZ ad mtC RX9 cX9_kilosAnew 4) (hr : meth.sig.returnType = (some .int))  (hk10 : ∀ (x1 : Int32) (x2 : Int32) (x3 : Int32) (M : gq_M), kh10 x1 x2 x3 M = some (ex9, v9, M9) → gq_W p l e (gq_rx 7 ex9) s m args below meth c D A cI cZ ad mtC 4 (vx_MQ below (gq_Qix D cI cZ ad mtC ex9 v9 M9 A) (gq_XC D cI cZ ad mtC ex9 M9 A) args s (gq_xc ex9) (gq_xs ex9) A) 10 [(0, .ref (ad 0)), (1, .int x1), (2, .int x2), (3, .int x3)] [] M 0 0) : ∀ (x1 : Int32) (x2 : Int32) (x3 : Int32) (M : gq_M), f_X9_kilosAnew_10_b N  kh10 x1 x2 x3 M = some (ex9, v9, M9) → gq_W p l e (gq_rx 7 ex9) s m args below meth c D A cI cZ ad mtC 4 (vx_MQ below (gq_Qix D cI cZ ad mtC ex9 v9 M9 A) (gq_XC D cI cZ ad mtC ex9 M9 A) args s (gq_xc ex9) (gq_xs ex9) A) 10 [(0, .ref (ad 0)), (1, .int x1), (2, .int x2), (3, .int x3)] [] M 0 0 := by
  intro x1 x2 x3 M h
  unfold f_X9_kilosAnew_10_b at h
  refine g_iload_n hC 3 rfl rfl dX9_kilosAnew_10 ?_
  refine g_aload_n hC 0 rfl rfl dX9_kilosAnew_11 ?_
  refine g_getR hC fF_X9_33 lkC_0_3 dX9_kilosAnew_12 ?_
  refine g_getI hC fF_X9_135 lkC_34_13 dX9_kilosAnew_15 ?_
  refine g_icmp_ge (tgt := 63) hC (by decide) dX9_kilosAnew_18 (fun c5 => ?_) (fun c5 => ?_)
  · replace h := gq_t c5 h
    refine g_iload_n hC 2 rfl rfl dX9_kilosAnew_63 ?_
    exact g_iretsX hC hr h dX9_kilosAnew_64
  · replace h := gq_f c5 h
    refine g_iload_n hC 1 rfl rfl dX9_kilosAnew_21 ?_
    refine g_if_eq (tgt := 43) hC (by decide) dX9_kilosAnew_22 (fun c6 => ?_) (fun c6 => ?_)
    · replace h := gq_t c6 h
      exact g_weak [0, 1, 2, 3] rfl (t_X9_kilosAnew_43 hl9 hZ htb hC hr hk10 x1 x2 x3 M h)
    · replace h := gq_f c6 h
      refine g_aload_n hC 0 rfl rfl dX9_kilosAnew_25 ?_
      refine g_getR hC fF_X9_33 lkC_0_3 dX9_kilosAnew_26 ?_
      refine g_getR hC fF_X9_278 lkC_34_4 dX9_kilosAnew_29 ?_
      refine g_iload_n hC 3 rfl rfl dX9_kilosAnew_32 ?_
      obtain ⟨v7, M8, c9, h⟩ := gq_b_i h
      refine g_Vi (as := [.int x3]) hC (t_X8_at lkC_43_0 arC_44 N _ _ _ _ c9) mV_X8_at  wm_X9_200 obC_43 rfl rfl (Nat.le_of_ble_eq_true rfl) ⟨Nat.le_of_ble_eq_true rfl, Nat.le_of_ble_eq_true rfl⟩ ⟨Nat.zero_le _, Nat.zero_le _⟩ dX9_kilosAnew_33 ?_
      obtain ⟨v10, M11, c12, h⟩ := gq_b_i h
      refine g_Si (as := [.int v7]) hC (t_X1_sumOf N _ _ _ _ c12) mS_X1_sumOf wm_X9_304 rfl rfl (Nat.le_of_ble_eq_true rfl) ⟨Nat.le_of_ble_eq_true rfl, Nat.le_of_ble_eq_true rfl⟩ ⟨Nat.zero_le _, Nat.zero_le _⟩ dX9_kilosAnew_36 ?_
      refine g_iload_n hC 1 rfl rfl dX9_kilosAnew_39 ?_
      refine g_icmp_ne (tgt := 57) hC (by decide) dX9_kilosAnew_40 (fun c13 => ?_) (fun c13 => ?_)
      · replace h := gq_f c13 h
        exact g_weak [0, 1, 2, 3] rfl (t_X9_kilosAnew_57 hl9 hZ htb hC hr hk10 x1 x2 x3 M11 h)
      · replace h := gq_t c13 h
        exact g_weak [0, 1, 2, 3] rfl (t_X9_kilosAnew_43 hl9 hZ htb hC hr hk10 x1 x2 x3 M11 h)
theorem t_X9_kilosAnew_10 {N : Nat} {ex9 : Nat} {v9 : Int32} {M9 : gq_M} (hl9 : l.stackTraces = false) (hZ : gq_Z A s) (htb : ∀ x ∈ c.exceptionTable.toList, False) (hC : gq_C p s m args meth c D A cI cZ ad mtC RX9 cX9_kilosAnew 4) (hr : meth.sig.returnType = (some .int))  : ∀ (n9 : Nat) (x1 : Int32) (x2 : Int32) (x3 : Int32) (M : gq_M), f_X9_kilosAnew_10 N  n9 x1 x2 x3 M = some (ex9, v9, M9) → gq_W p l e (gq_rx 7 ex9) s m args below meth c D A cI cZ ad mtC 4 (vx_MQ below (gq_Qix D cI cZ ad mtC ex9 v9 M9 A) (gq_XC D cI cZ ad mtC ex9 M9 A) args s (gq_xc ex9) (gq_xs ex9) A) 10 [(0, .ref (ad 0)), (1, .int x1), (2, .int x2), (3, .int x3)] [] M 0 0 := by
  intro n9
  induction n9 with
  | zero => intro x1 x2 x3 M h; cases h
  | succ n9 ih => intro x1 x2 x3 M h; exact t_X9_kilosAnew_10_b hl9 hZ htb hC hr  ih x1 x2 x3 M h
def f_X9_kilosAnew (N : Nat) (a1 : Int32) (M : gq_M) : Option (Nat × Int32 × gq_M) :=
  gq_x2 (f_X9_mustBeIn N a1 0 5 M) (fx_X9_mustBeIn N a1 0 5 M) fun v1 M2 => f_X9_kilosAnew_10 N  N a1 0 0 M2
set_option maxHeartbeats 1000000 in
set_option maxRecDepth 20000 in
theorem t_X9_kilosAnew {l : Launch} (hl9 : l.stackTraces = false) {D : va_G} {cI cZ : ClassId} {ad : Nat → Nat} (N : Nat) (a1 : Int32) (M : gq_M) (ex9 : Nat) (v9 : Int32) (M9 : gq_M) (h : f_X9_kilosAnew N a1 M = some (ex9, v9, M9)) : gq_Xi l D cI cZ ad mtC yX9_kilosAnew cX9_kilosAnew 4 (some .int) 7 [.ref (ad 0), .int a1] M ex9 v9 M9 := by
  refine gq_introXi (own := RX9) (v := v9) (by decide) rfl (Nat.le_of_ble_eq_true rfl) ?_
  intro p e s m below meth c hC hr hZ htb
  refine g_cast (L2 := [(0, .ref (ad 0)), (1, .int a1)]) ?_ rfl rfl rfl rfl
  unfold f_X9_kilosAnew at h
  refine g_iload_n hC 1 rfl rfl dX9_kilosAnew_0 ?_
  refine g_iconst (v := 0) hC (by decide) dX9_kilosAnew_1 ?_
  refine g_iconst (v := 5) hC (by decide) dX9_kilosAnew_2 ?_
  rcases gq_x2_i h with ⟨v1, M2, c3, h⟩ | ⟨k4, v1, M2, c3, hk4, h⟩
  rotate_left
  · exact g_SXo (as := [.int a1, .int 0, .int 5]) hC hZ htb (tx_X9_mustBeIn hl9 N _ _ _ _ _ _ _ c3) hk4 h ⟨rfl, rfl⟩ mS_X9_mustBeIn wm_X9_84 rfl rfl (Nat.le_of_ble_eq_true rfl) ⟨Nat.le_of_ble_eq_true rfl, Nat.le_of_ble_eq_true rfl⟩ dX9_kilosAnew_3
  refine g_Sv (as := [.int a1, .int 0, .int 5]) hC (t_X9_mustBeIn N _ _ _ _ _ _ c3) mS_X9_mustBeIn wm_X9_84 rfl rfl (Nat.le_of_ble_eq_true rfl) ⟨Nat.le_of_ble_eq_true rfl, Nat.le_of_ble_eq_true rfl⟩ ⟨Nat.zero_le _, Nat.zero_le _⟩ dX9_kilosAnew_3 ?_
  refine g_iconst (v := 0) hC (by decide) dX9_kilosAnew_6 ?_
  refine g_istore_n (L2 := [(2, .int 0), (0, .ref (ad 0)), (1, .int a1)]) hC rfl (by decide) rfl dX9_kilosAnew_7 ?_
  refine g_iconst (v := 0) hC (by decide) dX9_kilosAnew_8 ?_
  refine g_istore_n (L2 := [(3, .int 0), (2, .int 0), (0, .ref (ad 0)), (1, .int a1)]) hC rfl (by decide) rfl dX9_kilosAnew_9 ?_
  exact g_weak [2, 3, 1, 0] rfl (t_X9_kilosAnew_10 hl9 hZ htb hC hr  N a1 0 0 M2 h)
def f_X9_average_133 (N : Nat) (s0 : Int32) (M : gq_M) : Option (Nat × Int32 × gq_M) :=
  some (0, s0, M)
set_option maxHeartbeats 1000000 in
set_option maxRecDepth 20000 in
theorem t_X9_average_133 {N : Nat} {ex9 : Nat} {v9 : Int32} {M9 : gq_M} (hl9 : l.stackTraces = false) (hZ : gq_Z A s) (htb : ∀ x ∈ c.exceptionTable.toList, False) (hC : gq_C p s m args meth c D A cI cZ ad mtC RX9 cX9_average 6) (hr : meth.sig.returnType = (some .int))   : ∀ (s0 : Int32) (M : gq_M), f_X9_average_133 N  s0 M = some (ex9, v9, M9) → gq_W p l e (gq_rx 7 ex9) s m args below meth c D A cI cZ ad mtC 6 (vx_MQ below (gq_Qix D cI cZ ad mtC ex9 v9 M9 A) (gq_XC D cI cZ ad mtC ex9 M9 A) args s (gq_xc ex9) (gq_xs ex9) A) 133 [] [.int s0] M 0 0 := by
  intro s0 M h
  unfold f_X9_average_133 at h
  exact g_iretsX hC hr h dX9_average_133
def f_X9_average_114 (N : Nat) (kh22 : Int32 → Int32 → Int32 → Int32 → Int32 → gq_M → Option (Nat × Int32 × gq_M)) (x1 : Int32) (x2 : Int32) (x3 : Int32) (x4 : Int32) (x5 : Int32) (M : gq_M) : Option (Nat × Int32 × gq_M) :=
  kh22 x1 x2 x3 x4 (x5 + 1) M
set_option maxHeartbeats 1000000 in
set_option maxRecDepth 20000 in
theorem t_X9_average_114 {N : Nat} {kh22 : Int32 → Int32 → Int32 → Int32 → Int32 → gq_M → Option (Nat × Int32 × gq_M)} {ex9 : Nat} {v9 : Int32} {M9 : gq_M} (hl9 : l.stackTraces = false) (hZ : gq_Z A s) (htb : ∀ x ∈ c.exceptionTable.toList, False) (hC : gq_C p s m args meth c D A cI cZ ad mtC RX9 cX9_average 6) (hr : meth.sig.returnType = (some .int)) (hk22 : ∀ (x1 : Int32) (x2 : Int32) (x3 : Int32) (x4 : Int32) (x5 : Int32) (M : gq_M), kh22 x1 x2 x3 x4 x5 M = some (ex9, v9, M9) → gq_W p l e (gq_rx 7 ex9) s m args below meth c D A cI cZ ad mtC 6 (vx_MQ below (gq_Qix D cI cZ ad mtC ex9 v9 M9 A) (gq_XC D cI cZ ad mtC ex9 M9 A) args s (gq_xc ex9) (gq_xs ex9) A) 22 [(0, .ref (ad 0)), (1, .int x1), (2, .int x2), (3, .int x3), (4, .int x4), (5, .int x5)] [] M 0 0)  : ∀ (x1 : Int32) (x2 : Int32) (x3 : Int32) (x4 : Int32) (x5 : Int32) (M : gq_M), f_X9_average_114 N kh22 x1 x2 x3 x4 x5 M = some (ex9, v9, M9) → gq_W p l e (gq_rx 7 ex9) s m args below meth c D A cI cZ ad mtC 6 (vx_MQ below (gq_Qix D cI cZ ad mtC ex9 v9 M9 A) (gq_XC D cI cZ ad mtC ex9 M9 A) args s (gq_xc ex9) (gq_xs ex9) A) 114 [(0, .ref (ad 0)), (1, .int x1), (2, .int x2), (3, .int x3), (4, .int x4), (5, .int x5)] [] M 0 0 := by
  intro x1 x2 x3 x4 x5 M h
  unfold f_X9_average_114 at h
  refine g_iinc (v := (x5 + 1)) (L2 := [(5, .int (x5 + 1)), (0, .ref (ad 0)), (1, .int x1), (2, .int x2), (3, .int x3), (4, .int x4)]) hC 5 rfl (by first | rfl | decide) (by decide) rfl dX9_average_114 ?_
  refine g_goto (tgt := 22) hC (by decide) dX9_average_117 ?_
  exact g_weak [1, 2, 3, 4, 5, 0] rfl (hk22 x1 x2 x3 x4 (x5 + 1) M h)
def f_X9_average_22_b (N : Nat) (kh22 : Int32 → Int32 → Int32 → Int32 → Int32 → gq_M → Option (Nat × Int32 × gq_M)) (x1 : Int32) (x2 : Int32) (x3 : Int32) (x4 : Int32) (x5 : Int32) (M : gq_M) : Option (Nat × Int32 × gq_M) :=
  if (M 34 13) ≤ x5 then (if x4 ≤ 0 then (f_X9_average_133 N  (-1) M) else (gq_g (gq_nz x4) (f_X9_average_133 N  (x3 / x4) M))) else (gq_b (f_X8_at 54 150 N x5 M) fun v12 M13 => if v12 = x2 then (gq_b (f_X8_at 38 150 N x5 M13) fun v16 M17 => gq_b (f_X1_kindOf N v16 M17) fun v19 M20 => if v19 = x1 then (gq_b (f_X8_at 40 150 N x5 M20) fun v23 M24 => gq_b (f_X8_at 50 150 N x5 M24) fun v26 M27 => gq_b (f_X8_at 40 150 N x5 M27) fun v29 M30 => f_X9_average_114 N kh22 x1 x2 (x3 + (v23 * v26)) (x4 + v29) x5 M30) else (f_X9_average_114 N kh22 x1 x2 x3 x4 x5 M20)) else (f_X9_average_114 N kh22 x1 x2 x3 x4 x5 M13))
def f_X9_average_22 (N : Nat) : Nat → Int32 → Int32 → Int32 → Int32 → Int32 → gq_M → Option (Nat × Int32 × gq_M)
  | 0 => fun _ _ _ _ _ _ => none
  | n9 + 1 => f_X9_average_22_b N  (f_X9_average_22 N  n9)
set_option maxHeartbeats 1000000 in
set_option maxRecDepth 20000 in
theorem t_X9_average_22_b {N : Nat} {kh22 : Int32 → Int32 → Int32 → Int32 → Int32 → gq_M → Option (Nat × Int32 × gq_M)} {ex9 : Nat} {v9 : Int32} {M9 : gq_M} (hl9 : l.stackTraces = false) (hZ : gq_Z A s) (htb : ∀ x ∈ c.exceptionTable.toList, False) (hC : gq_C p s m args meth c D A cI cZ ad mtC RX9 cX9_average 6) (hr : meth.sig.returnType = (some .int))  (hk22 : ∀ (x1 : Int32) (x2 : Int32) (x3 : Int32) (x4 : Int32) (x5 : Int32) (M : gq_M), kh22 x1 x2 x3 x4 x5 M = some (ex9, v9, M9) → gq_W p l e (gq_rx 7 ex9) s m args below meth c D A cI cZ ad mtC 6 (vx_MQ below (gq_Qix D cI cZ ad mtC ex9 v9 M9 A) (gq_XC D cI cZ ad mtC ex9 M9 A) args s (gq_xc ex9) (gq_xs ex9) A) 22 [(0, .ref (ad 0)), (1, .int x1), (2, .int x2), (3, .int x3), (4, .int x4), (5, .int x5)] [] M 0 0) : ∀ (x1 : Int32) (x2 : Int32) (x3 : Int32) (x4 : Int32) (x5 : Int32) (M : gq_M), f_X9_average_22_b N  kh22 x1 x2 x3 x4 x5 M = some (ex9, v9, M9) → gq_W p l e (gq_rx 7 ex9) s m args below meth c D A cI cZ ad mtC 6 (vx_MQ below (gq_Qix D cI cZ ad mtC ex9 v9 M9 A) (gq_XC D cI cZ ad mtC ex9 M9 A) args s (gq_xc ex9) (gq_xs ex9) A) 22 [(0, .ref (ad 0)), (1, .int x1), (2, .int x2), (3, .int x3), (4, .int x4), (5, .int x5)] [] M 0 0 := by
  intro x1 x2 x3 x4 x5 M h
  unfold f_X9_average_22_b at h
  refine g_iload hC 5 rfl dX9_average_22 ?_
  refine g_aload_n hC 0 rfl rfl dX9_average_24 ?_
  refine g_getR hC fF_X9_33 lkC_0_3 dX9_average_25 ?_
  refine g_getI hC fF_X9_135 lkC_34_13 dX9_average_28 ?_
  refine g_icmp_ge (tgt := 120) hC (by decide) dX9_average_31 (fun c9 => ?_) (fun c9 => ?_)
  · replace h := gq_t c9 h
    refine g_iload hC 4 rfl dX9_average_120 ?_
    refine g_if_le (tgt := 132) hC (by decide) dX9_average_122 (fun c10 => ?_) (fun c10 => ?_)
    · replace h := gq_t c10 h
      refine g_iconst (v := (-1)) hC (by decide) dX9_average_132 ?_
      exact g_weak [] rfl (t_X9_average_133 hl9 hZ htb hC hr  (-1) M h)
    · replace h := gq_f c10 h
      refine g_iload_n hC 3 rfl rfl dX9_average_125 ?_
      refine g_iload hC 4 rfl dX9_average_126 ?_
      obtain ⟨g11, h⟩ := gq_g_i h
      refine g_idiv hC (gq_nz_i g11) dX9_average_128 ?_
      refine g_goto (tgt := 133) hC (by decide) dX9_average_129 ?_
      exact g_weak [] rfl (t_X9_average_133 hl9 hZ htb hC hr  (x3 / x4) M h)
  · replace h := gq_f c9 h
    refine g_aload_n hC 0 rfl rfl dX9_average_34 ?_
    refine g_getR hC fF_X9_33 lkC_0_3 dX9_average_35 ?_
    refine g_getR hC fF_X9_310 lkC_34_9 dX9_average_38 ?_
    refine g_iload hC 5 rfl dX9_average_41 ?_
    obtain ⟨v12, M13, c14, h⟩ := gq_b_i h
    refine g_Vi (as := [.int x5]) hC (t_X8_at lkC_53_0 arC_54 N _ _ _ _ c14) mV_X8_at  wm_X9_200 obC_53 rfl rfl (Nat.le_of_ble_eq_true rfl) ⟨Nat.le_of_ble_eq_true rfl, Nat.le_of_ble_eq_true rfl⟩ ⟨Nat.zero_le _, Nat.zero_le _⟩ dX9_average_43 ?_
    refine g_iload_n hC 2 rfl rfl dX9_average_46 ?_
    refine g_icmp_ne (tgt := 114) hC (by decide) dX9_average_47 (fun c15 => ?_) (fun c15 => ?_)
    · replace h := gq_f c15 h
      exact g_weak [0, 1, 2, 3, 4, 5] rfl (t_X9_average_114 hl9 hZ htb hC hr hk22 x1 x2 x3 x4 x5 M13 h)
    · replace h := gq_t c15 h
      refine g_aload_n hC 0 rfl rfl dX9_average_50 ?_
      refine g_getR hC fF_X9_33 lkC_0_3 dX9_average_51 ?_
      refine g_getR hC fF_X9_279 lkC_34_1 dX9_average_54 ?_
      refine g_iload hC 5 rfl dX9_average_57 ?_
      obtain ⟨v16, M17, c18, h⟩ := gq_b_i h
      refine g_Vi (as := [.int x5]) hC (t_X8_at lkC_37_0 arC_38 N _ _ _ _ c18) mV_X8_at  wm_X9_200 obC_37 rfl rfl (Nat.le_of_ble_eq_true rfl) ⟨Nat.le_of_ble_eq_true rfl, Nat.le_of_ble_eq_true rfl⟩ ⟨Nat.zero_le _, Nat.zero_le _⟩ dX9_average_59 ?_
      obtain ⟨v19, M20, c21, h⟩ := gq_b_i h
      refine g_Si (as := [.int v16]) hC (t_X1_kindOf N _ _ _ _ c21) mS_X1_kindOf wm_X9_288 rfl rfl (Nat.le_of_ble_eq_true rfl) ⟨Nat.le_of_ble_eq_true rfl, Nat.le_of_ble_eq_true rfl⟩ ⟨Nat.zero_le _, Nat.zero_le _⟩ dX9_average_62 ?_
      refine g_iload_n hC 1 rfl rfl dX9_average_65 ?_
      refine g_icmp_ne (tgt := 114) hC (by decide) dX9_average_66 (fun c22 => ?_) (fun c22 => ?_)
      · replace h := gq_f c22 h
        exact g_weak [0, 1, 2, 3, 4, 5] rfl (t_X9_average_114 hl9 hZ htb hC hr hk22 x1 x2 x3 x4 x5 M20 h)
      · replace h := gq_t c22 h
        refine g_iload_n hC 3 rfl rfl dX9_average_69 ?_
        refine g_aload_n hC 0 rfl rfl dX9_average_70 ?_
        refine g_getR hC fF_X9_33 lkC_0_3 dX9_average_71 ?_
        refine g_getR hC fF_X9_307 lkC_34_2 dX9_average_74 ?_
        refine g_iload hC 5 rfl dX9_average_77 ?_
        obtain ⟨v23, M24, c25, h⟩ := gq_b_i h
        refine g_Vi (as := [.int x5]) hC (t_X8_at lkC_39_0 arC_40 N _ _ _ _ c25) mV_X8_at  wm_X9_200 obC_39 rfl rfl (Nat.le_of_ble_eq_true rfl) ⟨Nat.le_of_ble_eq_true rfl, Nat.le_of_ble_eq_true rfl⟩ ⟨Nat.zero_le _, Nat.zero_le _⟩ dX9_average_79 ?_
        refine g_aload_n hC 0 rfl rfl dX9_average_82 ?_
        refine g_getR hC fF_X9_33 lkC_0_3 dX9_average_83 ?_
        refine g_getR hC fF_X9_285 lkC_34_7 dX9_average_86 ?_
        refine g_iload hC 5 rfl dX9_average_89 ?_
        obtain ⟨v26, M27, c28, h⟩ := gq_b_i h
        refine g_Vi (as := [.int x5]) hC (t_X8_at lkC_49_0 arC_50 N _ _ _ _ c28) mV_X8_at  wm_X9_200 obC_49 rfl rfl (Nat.le_of_ble_eq_true rfl) ⟨Nat.le_of_ble_eq_true rfl, Nat.le_of_ble_eq_true rfl⟩ ⟨Nat.zero_le _, Nat.zero_le _⟩ dX9_average_91 ?_
        refine g_imul hC dX9_average_94 ?_
        refine g_iadd hC dX9_average_95 ?_
        refine g_istore_n (L2 := [(3, .int (x3 + (v23 * v26))), (0, .ref (ad 0)), (1, .int x1), (2, .int x2), (4, .int x4), (5, .int x5)]) hC rfl (by decide) rfl dX9_average_96 ?_
        refine g_iload hC 4 rfl dX9_average_97 ?_
        refine g_aload_n hC 1 rfl rfl dX9_average_99 ?_
        refine g_getR hC fF_X9_33 lkC_0_3 dX9_average_100 ?_
        refine g_getR hC fF_X9_307 lkC_34_2 dX9_average_103 ?_
        refine g_iload hC 5 rfl dX9_average_106 ?_
        obtain ⟨v29, M30, c31, h⟩ := gq_b_i h
        refine g_Vi (as := [.int x5]) hC (t_X8_at lkC_39_0 arC_40 N _ _ _ _ c31) mV_X8_at  wm_X9_200 obC_39 rfl rfl (Nat.le_of_ble_eq_true rfl) ⟨Nat.le_of_ble_eq_true rfl, Nat.le_of_ble_eq_true rfl⟩ ⟨Nat.zero_le _, Nat.zero_le _⟩ dX9_average_108 ?_
        refine g_iadd hC dX9_average_111 ?_
        refine g_istore (L2 := [(4, .int (x4 + v29)), (3, .int (x3 + (v23 * v26))), (0, .ref (ad 0)), (1, .int x1), (2, .int x2), (5, .int x5)]) hC (by decide) rfl dX9_average_112 ?_
        exact g_weak [2, 3, 4, 1, 0, 5] rfl (t_X9_average_114 hl9 hZ htb hC hr hk22 x1 x2 (x3 + (v23 * v26)) (x4 + v29) x5 M30 h)
theorem t_X9_average_22 {N : Nat} {ex9 : Nat} {v9 : Int32} {M9 : gq_M} (hl9 : l.stackTraces = false) (hZ : gq_Z A s) (htb : ∀ x ∈ c.exceptionTable.toList, False) (hC : gq_C p s m args meth c D A cI cZ ad mtC RX9 cX9_average 6) (hr : meth.sig.returnType = (some .int))  : ∀ (n9 : Nat) (x1 : Int32) (x2 : Int32) (x3 : Int32) (x4 : Int32) (x5 : Int32) (M : gq_M), f_X9_average_22 N  n9 x1 x2 x3 x4 x5 M = some (ex9, v9, M9) → gq_W p l e (gq_rx 7 ex9) s m args below meth c D A cI cZ ad mtC 6 (vx_MQ below (gq_Qix D cI cZ ad mtC ex9 v9 M9 A) (gq_XC D cI cZ ad mtC ex9 M9 A) args s (gq_xc ex9) (gq_xs ex9) A) 22 [(0, .ref (ad 0)), (1, .int x1), (2, .int x2), (3, .int x3), (4, .int x4), (5, .int x5)] [] M 0 0 := by
  intro n9
  induction n9 with
  | zero => intro x1 x2 x3 x4 x5 M h; cases h
  | succ n9 ih => intro x1 x2 x3 x4 x5 M h; exact t_X9_average_22_b hl9 hZ htb hC hr  ih x1 x2 x3 x4 x5 M h
def f_X9_average (N : Nat) (a1 : Int32) (a2 : Int32) (M : gq_M) : Option (Nat × Int32 × gq_M) :=
  gq_x2 (f_X9_mustExist N a1 4 M) (fx_X9_mustExist N a1 4 M) fun v1 M2 => gq_x2 (f_X9_mustBeIn N a2 0 (M2 0 9) M2) (fx_X9_mustBeIn N a2 0 (M2 0 9) M2) fun v5 M6 => f_X9_average_22 N  N a1 a2 0 0 0 M6
set_option maxHeartbeats 1000000 in
set_option maxRecDepth 20000 in
theorem t_X9_average {l : Launch} (hl9 : l.stackTraces = false) {D : va_G} {cI cZ : ClassId} {ad : Nat → Nat} (N : Nat) (a1 : Int32) (a2 : Int32) (M : gq_M) (ex9 : Nat) (v9 : Int32) (M9 : gq_M) (h : f_X9_average N a1 a2 M = some (ex9, v9, M9)) : gq_Xi l D cI cZ ad mtC yX9_average cX9_average 6 (some .int) 7 [.ref (ad 0), .int a1, .int a2] M ex9 v9 M9 := by
  refine gq_introXi (own := RX9) (v := v9) (by decide) rfl (Nat.le_of_ble_eq_true rfl) ?_
  intro p e s m below meth c hC hr hZ htb
  refine g_cast (L2 := [(0, .ref (ad 0)), (1, .int a1), (2, .int a2)]) ?_ rfl rfl rfl rfl
  unfold f_X9_average at h
  refine g_iload_n hC 1 rfl rfl dX9_average_0 ?_
  refine g_iconst (v := 4) hC (by decide) dX9_average_1 ?_
  rcases gq_x2_i h with ⟨v1, M2, c3, h⟩ | ⟨k4, v1, M2, c3, hk4, h⟩
  rotate_left
  · exact g_SXo (as := [.int a1, .int 4]) hC hZ htb (tx_X9_mustExist hl9 N _ _ _ _ _ _ c3) hk4 h ⟨rfl, rfl⟩ mS_X9_mustExist wm_X9_79 rfl rfl (Nat.le_of_ble_eq_true rfl) ⟨Nat.le_of_ble_eq_true rfl, Nat.le_of_ble_eq_true rfl⟩ dX9_average_2
  refine g_Sv (as := [.int a1, .int 4]) hC (t_X9_mustExist N _ _ _ _ _ c3) mS_X9_mustExist wm_X9_79 rfl rfl (Nat.le_of_ble_eq_true rfl) ⟨Nat.le_of_ble_eq_true rfl, Nat.le_of_ble_eq_true rfl⟩ ⟨Nat.zero_le _, Nat.zero_le _⟩ dX9_average_2 ?_
  refine g_iload_n hC 2 rfl rfl dX9_average_5 ?_
  refine g_iconst (v := 0) hC (by decide) dX9_average_6 ?_
  refine g_aload_n hC 0 rfl rfl dX9_average_7 ?_
  refine g_getI hC fF_X9_69 lkC_0_9 dX9_average_8 ?_
  rcases gq_x2_i h with ⟨v5, M6, c7, h⟩ | ⟨k8, v5, M6, c7, hk8, h⟩
  rotate_left
  · exact g_SXo (as := [.int a2, .int 0, .int (M2 0 9)]) hC hZ htb (tx_X9_mustBeIn hl9 N _ _ _ _ _ _ _ c7) hk8 h ⟨rfl, rfl⟩ mS_X9_mustBeIn wm_X9_84 rfl rfl (Nat.le_of_ble_eq_true rfl) ⟨Nat.le_of_ble_eq_true rfl, Nat.le_of_ble_eq_true rfl⟩ dX9_average_11
  refine g_Sv (as := [.int a2, .int 0, .int (M2 0 9)]) hC (t_X9_mustBeIn N _ _ _ _ _ _ c7) mS_X9_mustBeIn wm_X9_84 rfl rfl (Nat.le_of_ble_eq_true rfl) ⟨Nat.le_of_ble_eq_true rfl, Nat.le_of_ble_eq_true rfl⟩ ⟨Nat.zero_le _, Nat.zero_le _⟩ dX9_average_11 ?_
  refine g_iconst (v := 0) hC (by decide) dX9_average_14 ?_
  refine g_istore_n (L2 := [(3, .int 0), (0, .ref (ad 0)), (1, .int a1), (2, .int a2)]) hC rfl (by decide) rfl dX9_average_15 ?_
  refine g_iconst (v := 0) hC (by decide) dX9_average_16 ?_
  refine g_istore (L2 := [(4, .int 0), (3, .int 0), (0, .ref (ad 0)), (1, .int a1), (2, .int a2)]) hC (by decide) rfl dX9_average_17 ?_
  refine g_iconst (v := 0) hC (by decide) dX9_average_19 ?_
  refine g_istore (L2 := [(5, .int 0), (4, .int 0), (3, .int 0), (0, .ref (ad 0)), (1, .int a1), (2, .int a2)]) hC (by decide) rfl dX9_average_20 ?_
  exact g_weak [3, 4, 5, 2, 1, 0] rfl (t_X9_average_22 hl9 hZ htb hC hr  N a1 a2 0 0 0 M6 h)
def f_X9_loaded (N : Nat) (a1 : Int32) (M : gq_M) : Option (Nat × Int32 × gq_M) :=
  gq_x2 (f_X9_mustExist N a1 (M 100 4) M) (fx_X9_mustExist N a1 (M 100 4) M) fun v1 M2 => gq_b (f_X8_at 108 20 N a1 M2) fun v5 M6 => some (0, v5, M6)
set_option maxHeartbeats 1000000 in
set_option maxRecDepth 20000 in
theorem t_X9_loaded {l : Launch} (hl9 : l.stackTraces = false) {D : va_G} {cI cZ : ClassId} {ad : Nat → Nat} (N : Nat) (a1 : Int32) (M : gq_M) (ex9 : Nat) (v9 : Int32) (M9 : gq_M) (h : f_X9_loaded N a1 M = some (ex9, v9, M9)) : gq_Xi l D cI cZ ad mtC yX9_loaded cX9_loaded 2 (some .int) 7 [.ref (ad 0), .int a1] M ex9 v9 M9 := by
  refine gq_introXi (own := RX9) (v := v9) (by decide) rfl (Nat.le_of_ble_eq_true rfl) ?_
  intro p e s m below meth c hC hr hZ htb
  refine g_cast (L2 := [(0, .ref (ad 0)), (1, .int a1)]) ?_ rfl rfl rfl rfl
  unfold f_X9_loaded at h
  refine g_iload_n hC 1 rfl rfl dX9_loaded_0 ?_
  refine g_aload_n hC 0 rfl rfl dX9_loaded_1 ?_
  refine g_getR hC fF_X9_61 lkC_0_7 dX9_loaded_2 ?_
  refine g_getI hC fF_X9_238 lkC_100_4 dX9_loaded_5 ?_
  rcases gq_x2_i h with ⟨v1, M2, c3, h⟩ | ⟨k4, v1, M2, c3, hk4, h⟩
  rotate_left
  · exact g_SXo (as := [.int a1, .int (M 100 4)]) hC hZ htb (tx_X9_mustExist hl9 N _ _ _ _ _ _ c3) hk4 h ⟨rfl, rfl⟩ mS_X9_mustExist wm_X9_79 rfl rfl (Nat.le_of_ble_eq_true rfl) ⟨Nat.le_of_ble_eq_true rfl, Nat.le_of_ble_eq_true rfl⟩ dX9_loaded_8
  refine g_Sv (as := [.int a1, .int (M 100 4)]) hC (t_X9_mustExist N _ _ _ _ _ c3) mS_X9_mustExist wm_X9_79 rfl rfl (Nat.le_of_ble_eq_true rfl) ⟨Nat.le_of_ble_eq_true rfl, Nat.le_of_ble_eq_true rfl⟩ ⟨Nat.zero_le _, Nat.zero_le _⟩ dX9_loaded_8 ?_
  refine g_aload_n hC 0 rfl rfl dX9_loaded_11 ?_
  refine g_getR hC fF_X9_61 lkC_0_7 dX9_loaded_12 ?_
  refine g_getR hC fF_X9_313 lkC_100_3 dX9_loaded_15 ?_
  refine g_iload_n hC 1 rfl rfl dX9_loaded_18 ?_
  obtain ⟨v5, M6, c7, h⟩ := gq_b_i h
  refine g_Vi (as := [.int a1]) hC (t_X8_at lkC_107_0 arC_108 N _ _ _ _ c7) mV_X8_at  wm_X9_200 obC_107 rfl rfl (Nat.le_of_ble_eq_true rfl) ⟨Nat.le_of_ble_eq_true rfl, Nat.le_of_ble_eq_true rfl⟩ ⟨Nat.zero_le _, Nat.zero_le _⟩ dX9_loaded_19 ?_
  exact g_iretsX hC hr h dX9_loaded_22
end
