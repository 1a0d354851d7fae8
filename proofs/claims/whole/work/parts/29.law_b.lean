/-! the law: its helpers, its cases -/
def fh_L_quota (N : Nat) (a1 : Int32) (a2 : Int32) (a3 : Int32) (C : gq_M) (ov : Int64) : Option (Int32 × Int64 × gq_M) := gq_y (f_X9_quota N a1 a2 a3 C) fun e v C1 => if e = 0 then (some (0, (v : Int32).toInt64, C1)) else if e = 1 then (some (1, ov, C1)) else if e = 2 then (some (2, ov, C1)) else none
set_option maxHeartbeats 1000000 in
set_option maxRecDepth 20000 in
theorem h_L_quota {l : Launch} (hl9 : l.stackTraces = false) {D : va_G} {cI cZ cL : ClassId} {ad : Nat → Nat} (N : Nat) (oa : Nat) (a1 : Int32) (a2 : Int32) (a3 : Int32) (C : gq_M) (ov ov9 : Int64) (k9 : Int32) (C9 : gq_M) (h : fh_L_quota N a1 a2 a3 C ov = some (k9, ov9, C9)) : gl_Ct l D cI cZ cL yL_quota cL_quota 6 [(0, 12, 15, 13), (0, 12, 19, 15)] 8 [.ref (ad 0), .int a1, .int a2, .int a3, .ref oa] (gl_out cL oa ov :: gq_ws cI cZ ad C 0 mtC) k9 (gl_out cL oa ov9 :: gq_ws cI cZ ad C9 0 mtC) := by
  refine gl_intro (own := RL) (by decide) rfl (Nat.le_of_ble_eq_true rfl) ?_
  intro p e s m below meth c hC hr hKL hZ hN htab
  refine gc_cast (L2 := [(0, .ref (ad 0)), (1, .int a1), (2, .int a2), (3, .int a3), (4, .ref oa)]) (ws2 := ([gl_out cL oa ov] ++ gq_ws cI cZ ad C 0 mtC)) ?_ rfl rfl rfl rfl rfl rfl
  refine gl_aload hC 4 rfl dL_quota_0 ?_
  refine gc_iconst (v := 0) hC (by decide) dL_quota_2 ?_
  refine gc_aload_n hC 0 rfl rfl dL_quota_3 ?_
  refine gc_iload_n hC 1 rfl rfl dL_quota_4 ?_
  refine gc_iload_n hC 2 rfl rfl dL_quota_5 ?_
  refine gc_iload_n hC 3 rfl rfl dL_quota_6 ?_
  unfold fh_L_quota at h
  obtain ⟨e9, v, C1, c1, h⟩ := gq_y_i h
  refine gl_Xi (q := 0) (as := [.int a1, .int a2, .int a3]) hC hZ (t_X9_quota hl9 N _ _ _ _ _ _ _ c1) mV_X9_quota wm_L_7 obC_0 rfl rfl (Nat.le_of_ble_eq_true rfl) ⟨by decide, by decide⟩ ⟨by decide, by decide⟩ dL_quota_7 (fun hx => ?_) (fun hx => ?_)
  · replace h := gq_t hx h
    refine gl_i2l hC dL_quota_10 ?_
    refine gl_last hC hKL dL_quota_11 ?_
    refine gl_goto (tgt := 23) hC (by decide) dL_quota_12 ?_
    refine gc_iconst (v := 0) hC (by decide) dL_quota_23 ?_
    cases h
    exact gl_iret hC hKL hr dL_quota_24 (by decide) (by decide)
  · replace h := gq_f hx h
    rcases gq_or h with ⟨c0, h⟩ | ⟨c0, h⟩
    · subst c0
      refine gl_catch (hh := [(0, 12, 15, 13), (0, 12, 19, 15)]) hC hZ htab [] ⟨0, 12, 15, 13⟩ [⟨0, 12, 19, 15⟩] rfl ((fun _ h => absurd h List.not_mem_nil)) (by decide) (by decide) wx_13 (fun q9 => ?_)
      refine gl_astore (L2 := [(5, .ref q9), (0, .ref (ad 0)), (1, .int a1), (2, .int a2), (3, .int a3), (4, .ref oa)]) hC (by decide) rfl dL_quota_15 ?_
      refine gc_iconst (v := 1) hC (by decide) dL_quota_17 ?_
      cases h
      exact gl_iret hC hKL hr dL_quota_18 (by decide) (by decide)
    rcases gq_or h with ⟨c1, h⟩ | ⟨c1, h⟩
    · subst c1
      refine gl_catch (hh := [(0, 12, 15, 13), (0, 12, 19, 15)]) hC hZ htab [⟨0, 12, 15, 13⟩] ⟨0, 12, 19, 15⟩ [] rfl (List.forall_mem_cons.mpr ⟨⟨by decide, 1, wx_13, hN 2 1 (by decide) (by decide) (by decide) (by decide) (by decide)⟩, (fun _ h => absurd h List.not_mem_nil)⟩) (by decide) (by decide) wx_15 (fun q9 => ?_)
      refine gl_astore (L2 := [(5, .ref q9), (0, .ref (ad 0)), (1, .int a1), (2, .int a2), (3, .int a3), (4, .ref oa)]) hC (by decide) rfl dL_quota_19 ?_
      refine gc_iconst (v := 2) hC (by decide) dL_quota_21 ?_
      cases h
      exact gl_iret hC hKL hr dL_quota_22 (by decide) (by decide)
    cases h
def fh_L_aid (N : Nat) (a1 : Int32) (a2 : Int32) (a3 : Int32) (C : gq_M) (ov : Int64) : Option (Int32 × Int64 × gq_M) := gq_y (f_X9_aid N a1 a2 a3 C) fun e v C1 => if e = 0 then (some (0, (v : Int32).toInt64, C1)) else if e = 1 then (some (1, ov, C1)) else if e = 2 then (some (2, ov, C1)) else none
set_option maxHeartbeats 1000000 in
set_option maxRecDepth 20000 in
theorem h_L_aid {l : Launch} (hl9 : l.stackTraces = false) {D : va_G} {cI cZ cL : ClassId} {ad : Nat → Nat} (N : Nat) (oa : Nat) (a1 : Int32) (a2 : Int32) (a3 : Int32) (C : gq_M) (ov ov9 : Int64) (k9 : Int32) (C9 : gq_M) (h : fh_L_aid N a1 a2 a3 C ov = some (k9, ov9, C9)) : gl_Ct l D cI cZ cL yL_aid cL_aid 6 [(0, 12, 15, 13), (0, 12, 19, 15)] 8 [.ref (ad 0), .int a1, .int a2, .int a3, .ref oa] (gl_out cL oa ov :: gq_ws cI cZ ad C 0 mtC) k9 (gl_out cL oa ov9 :: gq_ws cI cZ ad C9 0 mtC) := by
  refine gl_intro (own := RL) (by decide) rfl (Nat.le_of_ble_eq_true rfl) ?_
  intro p e s m below meth c hC hr hKL hZ hN htab
  refine gc_cast (L2 := [(0, .ref (ad 0)), (1, .int a1), (2, .int a2), (3, .int a3), (4, .ref oa)]) (ws2 := ([gl_out cL oa ov] ++ gq_ws cI cZ ad C 0 mtC)) ?_ rfl rfl rfl rfl rfl rfl
  refine gl_aload hC 4 rfl dL_aid_0 ?_
  refine gc_iconst (v := 0) hC (by decide) dL_aid_2 ?_
  refine gc_aload_n hC 0 rfl rfl dL_aid_3 ?_
  refine gc_iload_n hC 1 rfl rfl dL_aid_4 ?_
  refine gc_iload_n hC 2 rfl rfl dL_aid_5 ?_
  refine gc_iload_n hC 3 rfl rfl dL_aid_6 ?_
  unfold fh_L_aid at h
  obtain ⟨e9, v, C1, c1, h⟩ := gq_y_i h
  refine gl_Xi (q := 0) (as := [.int a1, .int a2, .int a3]) hC hZ (t_X9_aid hl9 N _ _ _ _ _ _ _ c1) mV_X9_aid wm_L_17 obC_0 rfl rfl (Nat.le_of_ble_eq_true rfl) ⟨by decide, by decide⟩ ⟨by decide, by decide⟩ dL_aid_7 (fun hx => ?_) (fun hx => ?_)
  · replace h := gq_t hx h
    refine gl_i2l hC dL_aid_10 ?_
    refine gl_last hC hKL dL_aid_11 ?_
    refine gl_goto (tgt := 23) hC (by decide) dL_aid_12 ?_
    refine gc_iconst (v := 0) hC (by decide) dL_aid_23 ?_
    cases h
    exact gl_iret hC hKL hr dL_aid_24 (by decide) (by decide)
  · replace h := gq_f hx h
    rcases gq_or h with ⟨c0, h⟩ | ⟨c0, h⟩
    · subst c0
      refine gl_catch (hh := [(0, 12, 15, 13), (0, 12, 19, 15)]) hC hZ htab [] ⟨0, 12, 15, 13⟩ [⟨0, 12, 19, 15⟩] rfl ((fun _ h => absurd h List.not_mem_nil)) (by decide) (by decide) wx_13 (fun q9 => ?_)
      refine gl_astore (L2 := [(5, .ref q9), (0, .ref (ad 0)), (1, .int a1), (2, .int a2), (3, .int a3), (4, .ref oa)]) hC (by decide) rfl dL_aid_15 ?_
      refine gc_iconst (v := 1) hC (by decide) dL_aid_17 ?_
      cases h
      exact gl_iret hC hKL hr dL_aid_18 (by decide) (by decide)
    rcases gq_or h with ⟨c1, h⟩ | ⟨c1, h⟩
    · subst c1
      refine gl_catch (hh := [(0, 12, 15, 13), (0, 12, 19, 15)]) hC hZ htab [⟨0, 12, 15, 13⟩] ⟨0, 12, 19, 15⟩ [] rfl (List.forall_mem_cons.mpr ⟨⟨by decide, 1, wx_13, hN 2 1 (by decide) (by decide) (by decide) (by decide) (by decide)⟩, (fun _ h => absurd h List.not_mem_nil)⟩) (by decide) (by decide) wx_15 (fun q9 => ?_)
      refine gl_astore (L2 := [(5, .ref q9), (0, .ref (ad 0)), (1, .int a1), (2, .int a2), (3, .int a3), (4, .ref oa)]) hC (by decide) rfl dL_aid_19 ?_
      refine gc_iconst (v := 2) hC (by decide) dL_aid_21 ?_
      cases h
      exact gl_iret hC hKL hr dL_aid_22 (by decide) (by decide)
    cases h
def fh_L_kind (N : Nat) (a1 : Int32) (a2 : Int32) (a3 : Int32) (a4 : Int32) (C : gq_M) : Option (Int32 × gq_M) := gq_y (f_X9_kind N a1 a2 a3 a4 C) fun e v C1 => if e = 0 then (some (0, C1)) else if e = 1 then (some (1, C1)) else if e = 2 then (some (2, C1)) else none
set_option maxHeartbeats 1000000 in
set_option maxRecDepth 20000 in
theorem h_L_kind {l : Launch} (hl9 : l.stackTraces = false) {D : va_G} {cI cZ cL : ClassId} {ad : Nat → Nat} (N : Nat) (a1 : Int32) (a2 : Int32) (a3 : Int32) (a4 : Int32) (C : gq_M) (k9 : Int32) (C9 : gq_M) (h : fh_L_kind N a1 a2 a3 a4 C = some (k9, C9)) : gl_Ct l D cI cZ cL yL_kind cL_kind 6 [(0, 9, 12, 13), (0, 9, 16, 15)] 8 [.ref (ad 0), .int a1, .int a2, .int a3, .int a4] (gq_ws cI cZ ad C 0 mtC) k9 (gq_ws cI cZ ad C9 0 mtC) := by
  refine gl_intro (own := RL) (by decide) rfl (Nat.le_of_ble_eq_true rfl) ?_
  intro p e s m below meth c hC hr hKL hZ hN htab
  refine gc_cast (L2 := [(0, .ref (ad 0)), (1, .int a1), (2, .int a2), (3, .int a3), (4, .int a4)]) (ws2 := ([] ++ gq_ws cI cZ ad C 0 mtC)) ?_ rfl rfl rfl rfl rfl rfl
  refine gc_aload_n hC 0 rfl rfl dL_kind_0 ?_
  refine gc_iload_n hC 1 rfl rfl dL_kind_1 ?_
  refine gc_iload_n hC 2 rfl rfl dL_kind_2 ?_
  refine gc_iload_n hC 3 rfl rfl dL_kind_3 ?_
  refine gl_iload hC 4 rfl dL_kind_4 ?_
  unfold fh_L_kind at h
  obtain ⟨e9, v, C1, c1, h⟩ := gq_y_i h
  refine gl_Xv (q := 0) (as := [.int a1, .int a2, .int a3, .int a4]) hC hZ (t_X9_kind hl9 N _ _ _ _ _ _ _ _ c1) mV_X9_kind wm_L_21 obC_0 rfl rfl (Nat.le_of_ble_eq_true rfl) ⟨by decide, by decide⟩ ⟨by decide, by decide⟩ dL_kind_6 (fun hx => ?_) (fun hx => ?_)
  · replace h := gq_t hx h
    refine gl_goto (tgt := 20) hC (by decide) dL_kind_9 ?_
    refine gc_iconst (v := 0) hC (by decide) dL_kind_20 ?_
    cases h
    exact gl_iret hC hKL hr dL_kind_21 (by decide) (by decide)
  · replace h := gq_f hx h
    rcases gq_or h with ⟨c0, h⟩ | ⟨c0, h⟩
    · subst c0
      refine gl_catch (hh := [(0, 9, 12, 13), (0, 9, 16, 15)]) hC hZ htab [] ⟨0, 9, 12, 13⟩ [⟨0, 9, 16, 15⟩] rfl ((fun _ h => absurd h List.not_mem_nil)) (by decide) (by decide) wx_13 (fun q9 => ?_)
      refine gl_astore (L2 := [(5, .ref q9), (0, .ref (ad 0)), (1, .int a1), (2, .int a2), (3, .int a3), (4, .int a4)]) hC (by decide) rfl dL_kind_12 ?_
      refine gc_iconst (v := 1) hC (by decide) dL_kind_14 ?_
      cases h
      exact gl_iret hC hKL hr dL_kind_15 (by decide) (by decide)
    rcases gq_or h with ⟨c1, h⟩ | ⟨c1, h⟩
    · subst c1
      refine gl_catch (hh := [(0, 9, 12, 13), (0, 9, 16, 15)]) hC hZ htab [⟨0, 9, 12, 13⟩] ⟨0, 9, 16, 15⟩ [] rfl (List.forall_mem_cons.mpr ⟨⟨by decide, 1, wx_13, hN 2 1 (by decide) (by decide) (by decide) (by decide) (by decide)⟩, (fun _ h => absurd h List.not_mem_nil)⟩) (by decide) (by decide) wx_15 (fun q9 => ?_)
      refine gl_astore (L2 := [(5, .ref q9), (0, .ref (ad 0)), (1, .int a1), (2, .int a2), (3, .int a3), (4, .int a4)]) hC (by decide) rfl dL_kind_16 ?_
      refine gc_iconst (v := 2) hC (by decide) dL_kind_18 ?_
      cases h
      exact gl_iret hC hKL hr dL_kind_19 (by decide) (by decide)
    cases h
def fh_L_step (N : Nat) (a1 : Int32) (a2 : Int32) (C : gq_M) (ov : Int64) : Option (Int32 × Int64 × gq_M) := gq_y (f_X9_step N a1 a2 C) fun e v C1 => if e = 0 then (some (0, (v : Int32).toInt64, C1)) else if e = 1 then (some (1, ov, C1)) else if e = 2 then (some (2, ov, C1)) else none
set_option maxHeartbeats 1000000 in
set_option maxRecDepth 20000 in
theorem h_L_step {l : Launch} (hl9 : l.stackTraces = false) {D : va_G} {cI cZ cL : ClassId} {ad : Nat → Nat} (N : Nat) (oa : Nat) (a1 : Int32) (a2 : Int32) (C : gq_M) (ov ov9 : Int64) (k9 : Int32) (C9 : gq_M) (h : fh_L_step N a1 a2 C ov = some (k9, ov9, C9)) : gl_Ct l D cI cZ cL yL_step cL_step 5 [(0, 10, 13, 13), (0, 10, 17, 15)] 8 [.ref (ad 0), .int a1, .int a2, .ref oa] (gl_out cL oa ov :: gq_ws cI cZ ad C 0 mtC) k9 (gl_out cL oa ov9 :: gq_ws cI cZ ad C9 0 mtC) := by
  refine gl_intro (own := RL) (by decide) rfl (Nat.le_of_ble_eq_true rfl) ?_
  intro p e s m below meth c hC hr hKL hZ hN htab
  refine gc_cast (L2 := [(0, .ref (ad 0)), (1, .int a1), (2, .int a2), (3, .ref oa)]) (ws2 := ([gl_out cL oa ov] ++ gq_ws cI cZ ad C 0 mtC)) ?_ rfl rfl rfl rfl rfl rfl
  refine gc_aload_n hC 3 rfl rfl dL_step_0 ?_
  refine gc_iconst (v := 0) hC (by decide) dL_step_1 ?_
  refine gc_aload_n hC 0 rfl rfl dL_step_2 ?_
  refine gc_iload_n hC 1 rfl rfl dL_step_3 ?_
  refine gc_iload_n hC 2 rfl rfl dL_step_4 ?_
  unfold fh_L_step at h
  obtain ⟨e9, v, C1, c1, h⟩ := gq_y_i h
  refine gl_Xi (q := 0) (as := [.int a1, .int a2]) hC hZ (t_X9_step hl9 N _ _ _ _ _ _ c1) mV_X9_step wm_L_25 obC_0 rfl rfl (Nat.le_of_ble_eq_true rfl) ⟨by decide, by decide⟩ ⟨by decide, by decide⟩ dL_step_5 (fun hx => ?_) (fun hx => ?_)
  · replace h := gq_t hx h
    refine gl_i2l hC dL_step_8 ?_
    refine gl_last hC hKL dL_step_9 ?_
    refine gl_goto (tgt := 21) hC (by decide) dL_step_10 ?_
    refine gc_iconst (v := 0) hC (by decide) dL_step_21 ?_
    cases h
    exact gl_iret hC hKL hr dL_step_22 (by decide) (by decide)
  · replace h := gq_f hx h
    rcases gq_or h with ⟨c0, h⟩ | ⟨c0, h⟩
    · subst c0
      refine gl_catch (hh := [(0, 10, 13, 13), (0, 10, 17, 15)]) hC hZ htab [] ⟨0, 10, 13, 13⟩ [⟨0, 10, 17, 15⟩] rfl ((fun _ h => absurd h List.not_mem_nil)) (by decide) (by decide) wx_13 (fun q9 => ?_)
      refine gl_astore (L2 := [(4, .ref q9), (0, .ref (ad 0)), (1, .int a1), (2, .int a2), (3, .ref oa)]) hC (by decide) rfl dL_step_13 ?_
      refine gc_iconst (v := 1) hC (by decide) dL_step_15 ?_
      cases h
      exact gl_iret hC hKL hr dL_step_16 (by decide) (by decide)
    rcases gq_or h with ⟨c1, h⟩ | ⟨c1, h⟩
    · subst c1
      refine gl_catch (hh := [(0, 10, 13, 13), (0, 10, 17, 15)]) hC hZ htab [⟨0, 10, 13, 13⟩] ⟨0, 10, 17, 15⟩ [] rfl (List.forall_mem_cons.mpr ⟨⟨by decide, 1, wx_13, hN 2 1 (by decide) (by decide) (by decide) (by decide) (by decide)⟩, (fun _ h => absurd h List.not_mem_nil)⟩) (by decide) (by decide) wx_15 (fun q9 => ?_)
      refine gl_astore (L2 := [(4, .ref q9), (0, .ref (ad 0)), (1, .int a1), (2, .int a2), (3, .ref oa)]) hC (by decide) rfl dL_step_17 ?_
      refine gc_iconst (v := 2) hC (by decide) dL_step_19 ?_
      cases h
      exact gl_iret hC hKL hr dL_step_20 (by decide) (by decide)
    cases h
def fh_L_buyer (N : Nat) (a1 : Int32) (a2 : Int32) (a3 : Int32) (C : gq_M) (ov : Int64) : Option (Int32 × Int64 × gq_M) := gq_y (f_X9_buyer N a1 a2 a3 C) fun e v C1 => if e = 0 then (some (0, (v : Int32).toInt64, C1)) else if e = 1 then (some (1, ov, C1)) else if e = 2 then (some (2, ov, C1)) else none
set_option maxHeartbeats 1000000 in
set_option maxRecDepth 20000 in
theorem h_L_buyer {l : Launch} (hl9 : l.stackTraces = false) {D : va_G} {cI cZ cL : ClassId} {ad : Nat → Nat} (N : Nat) (oa : Nat) (a1 : Int32) (a2 : Int32) (a3 : Int32) (C : gq_M) (ov ov9 : Int64) (k9 : Int32) (C9 : gq_M) (h : fh_L_buyer N a1 a2 a3 C ov = some (k9, ov9, C9)) : gl_Ct l D cI cZ cL yL_buyer cL_buyer 6 [(0, 12, 15, 13), (0, 12, 19, 15)] 8 [.ref (ad 0), .int a1, .int a2, .int a3, .ref oa] (gl_out cL oa ov :: gq_ws cI cZ ad C 0 mtC) k9 (gl_out cL oa ov9 :: gq_ws cI cZ ad C9 0 mtC) := by
  refine gl_intro (own := RL) (by decide) rfl (Nat.le_of_ble_eq_true rfl) ?_
  intro p e s m below meth c hC hr hKL hZ hN htab
  refine gc_cast (L2 := [(0, .ref (ad 0)), (1, .int a1), (2, .int a2), (3, .int a3), (4, .ref oa)]) (ws2 := ([gl_out cL oa ov] ++ gq_ws cI cZ ad C 0 mtC)) ?_ rfl rfl rfl rfl rfl rfl
  refine gl_aload hC 4 rfl dL_buyer_0 ?_
  refine gc_iconst (v := 0) hC (by decide) dL_buyer_2 ?_
  refine gc_aload_n hC 0 rfl rfl dL_buyer_3 ?_
  refine gc_iload_n hC 1 rfl rfl dL_buyer_4 ?_
  refine gc_iload_n hC 2 rfl rfl dL_buyer_5 ?_
  refine gc_iload_n hC 3 rfl rfl dL_buyer_6 ?_
  unfold fh_L_buyer at h
  obtain ⟨e9, v, C1, c1, h⟩ := gq_y_i h
  refine gl_Xi (q := 0) (as := [.int a1, .int a2, .int a3]) hC hZ (t_X9_buyer hl9 N _ _ _ _ _ _ _ c1) mV_X9_buyer wm_L_29 obC_0 rfl rfl (Nat.le_of_ble_eq_true rfl) ⟨by decide, by decide⟩ ⟨by decide, by decide⟩ dL_buyer_7 (fun hx => ?_) (fun hx => ?_)
  · replace h := gq_t hx h
    refine gl_i2l hC dL_buyer_10 ?_
    refine gl_last hC hKL dL_buyer_11 ?_
    refine gl_goto (tgt := 23) hC (by decide) dL_buyer_12 ?_
    refine gc_iconst (v := 0) hC (by decide) dL_buyer_23 ?_
    cases h
    exact gl_iret hC hKL hr dL_buyer_24 (by decide) (by decide)
  · replace h := gq_f hx h
    rcases gq_or h with ⟨c0, h⟩ | ⟨c0, h⟩
    · subst c0
      refine gl_catch (hh := [(0, 12, 15, 13), (0, 12, 19, 15)]) hC hZ htab [] ⟨0, 12, 15, 13⟩ [⟨0, 12, 19, 15⟩] rfl ((fun _ h => absurd h List.not_mem_nil)) (by decide) (by decide) wx_13 (fun q9 => ?_)
      refine gl_astore (L2 := [(5, .ref q9), (0, .ref (ad 0)), (1, .int a1), (2, .int a2), (3, .int a3), (4, .ref oa)]) hC (by decide) rfl dL_buyer_15 ?_
      refine gc_iconst (v := 1) hC (by decide) dL_buyer_17 ?_
      cases h
      exact gl_iret hC hKL hr dL_buyer_18 (by decide) (by decide)
    rcases gq_or h with ⟨c1, h⟩ | ⟨c1, h⟩
    · subst c1
      refine gl_catch (hh := [(0, 12, 15, 13), (0, 12, 19, 15)]) hC hZ htab [⟨0, 12, 15, 13⟩] ⟨0, 12, 19, 15⟩ [] rfl (List.forall_mem_cons.mpr ⟨⟨by decide, 1, wx_13, hN 2 1 (by decide) (by decide) (by decide) (by decide) (by decide)⟩, (fun _ h => absurd h List.not_mem_nil)⟩) (by decide) (by decide) wx_15 (fun q9 => ?_)
      refine gl_astore (L2 := [(5, .ref q9), (0, .ref (ad 0)), (1, .int a1), (2, .int a2), (3, .int a3), (4, .ref oa)]) hC (by decide) rfl dL_buyer_19 ?_
      refine gc_iconst (v := 2) hC (by decide) dL_buyer_21 ?_
      cases h
      exact gl_iret hC hKL hr dL_buyer_22 (by decide) (by decide)
    cases h
def fh_L_power (N : Nat) (a1 : Int32) (a2 : Int32) (C : gq_M) (ov : Int64) : Option (Int32 × Int64 × gq_M) := gq_y (f_X9_power N a1 a2 C) fun e v C1 => if e = 0 then (if v = 0 then (some (0, 0, C1)) else (some (0, 1, C1))) else if e = 1 then (some (1, ov, C1)) else none
set_option maxHeartbeats 1000000 in
set_option maxRecDepth 20000 in
theorem h_L_power {l : Launch} (hl9 : l.stackTraces = false) {D : va_G} {cI cZ cL : ClassId} {ad : Nat → Nat} (N : Nat) (oa : Nat) (a1 : Int32) (a2 : Int32) (C : gq_M) (ov ov9 : Int64) (k9 : Int32) (C9 : gq_M) (h : fh_L_power N a1 a2 C ov = some (k9, ov9, C9)) : gl_Ct l D cI cZ cL yL_power cL_power 5 [(0, 17, 20, 13)] 8 [.ref (ad 0), .int a1, .int a2, .ref oa] (gl_out cL oa ov :: gq_ws cI cZ ad C 0 mtC) k9 (gl_out cL oa ov9 :: gq_ws cI cZ ad C9 0 mtC) := by
  refine gl_intro (own := RL) (by decide) rfl (Nat.le_of_ble_eq_true rfl) ?_
  intro p e s m below meth c hC hr hKL hZ hN htab
  refine gc_cast (L2 := [(0, .ref (ad 0)), (1, .int a1), (2, .int a2), (3, .ref oa)]) (ws2 := ([gl_out cL oa ov] ++ gq_ws cI cZ ad C 0 mtC)) ?_ rfl rfl rfl rfl rfl rfl
  refine gc_aload_n hC 3 rfl rfl dL_power_0 ?_
  refine gc_iconst (v := 0) hC (by decide) dL_power_1 ?_
  refine gc_aload_n hC 0 rfl rfl dL_power_2 ?_
  refine gc_iload_n hC 1 rfl rfl dL_power_3 ?_
  refine gc_iload_n hC 2 rfl rfl dL_power_4 ?_
  unfold fh_L_power at h
  obtain ⟨e9, v, C1, c1, h⟩ := gq_y_i h
  refine gl_Xi (q := 0) (as := [.int a1, .int a2]) hC hZ (t_X9_power hl9 N _ _ _ _ _ _ c1) mV_X9_power wm_L_32 obC_0 rfl rfl (Nat.le_of_ble_eq_true rfl) ⟨by decide, by decide⟩ ⟨by decide, by decide⟩ dL_power_5 (fun hx => ?_) (fun hx => ?_)
  · replace h := gq_t hx h
    refine gl_if_eq (tgt := 15) hC (by decide) dL_power_8 (fun c7 => ?_) (fun c7 => ?_)
    · replace h := gq_t c7 h
      refine gl_lconst (v := 0) hC (by decide) dL_power_15 ?_
      refine gl_last hC hKL dL_power_16 ?_
      refine gl_goto (tgt := 24) hC (by decide) dL_power_17 ?_
      refine gc_iconst (v := 0) hC (by decide) dL_power_24 ?_
      cases h
      exact gl_iret hC hKL hr dL_power_25 (by decide) (by decide)
    · replace h := gq_f c7 h
      refine gl_lconst (v := 1) hC (by decide) dL_power_11 ?_
      refine gl_goto (tgt := 16) hC (by decide) dL_power_12 ?_
      refine gl_last hC hKL dL_power_16 ?_
      refine gl_goto (tgt := 24) hC (by decide) dL_power_17 ?_
      refine gc_iconst (v := 0) hC (by decide) dL_power_24 ?_
      cases h
      exact gl_iret hC hKL hr dL_power_25 (by decide) (by decide)
  · replace h := gq_f hx h
    rcases gq_or h with ⟨c0, h⟩ | ⟨c0, h⟩
    · subst c0
      refine gl_catch (hh := [(0, 17, 20, 13)]) hC hZ htab [] ⟨0, 17, 20, 13⟩ [] rfl ((fun _ h => absurd h List.not_mem_nil)) (by decide) (by decide) wx_13 (fun q9 => ?_)
      refine gl_astore (L2 := [(4, .ref q9), (0, .ref (ad 0)), (1, .int a1), (2, .int a2), (3, .ref oa)]) hC (by decide) rfl dL_power_20 ?_
      refine gc_iconst (v := 1) hC (by decide) dL_power_22 ?_
      cases h
      exact gl_iret hC hKL hr dL_power_23 (by decide) (by decide)
    cases h
def fh_L_line (N : Nat) (a1 : Int32) (a2 : Int32) (C : gq_M) (ov : Int64) : Option (Int32 × Int64 × gq_M) := gq_y (f_X9_line N a1 a2 C) fun e v C1 => if e = 0 then (if v = 0 then (some (0, 0, C1)) else (some (0, 1, C1))) else if e = 1 then (some (1, ov, C1)) else none
set_option maxHeartbeats 1000000 in
set_option maxRecDepth 20000 in
theorem h_L_line {l : Launch} (hl9 : l.stackTraces = false) {D : va_G} {cI cZ cL : ClassId} {ad : Nat → Nat} (N : Nat) (oa : Nat) (a1 : Int32) (a2 : Int32) (C : gq_M) (ov ov9 : Int64) (k9 : Int32) (C9 : gq_M) (h : fh_L_line N a1 a2 C ov = some (k9, ov9, C9)) : gl_Ct l D cI cZ cL yL_line cL_line 5 [(0, 17, 20, 13)] 8 [.ref (ad 0), .int a1, .int a2, .ref oa] (gl_out cL oa ov :: gq_ws cI cZ ad C 0 mtC) k9 (gl_out cL oa ov9 :: gq_ws cI cZ ad C9 0 mtC) := by
  refine gl_intro (own := RL) (by decide) rfl (Nat.le_of_ble_eq_true rfl) ?_
  intro p e s m below meth c hC hr hKL hZ hN htab
  refine gc_cast (L2 := [(0, .ref (ad 0)), (1, .int a1), (2, .int a2), (3, .ref oa)]) (ws2 := ([gl_out cL oa ov] ++ gq_ws cI cZ ad C 0 mtC)) ?_ rfl rfl rfl rfl rfl rfl
  refine gc_aload_n hC 3 rfl rfl dL_line_0 ?_
  refine gc_iconst (v := 0) hC (by decide) dL_line_1 ?_
  refine gc_aload_n hC 0 rfl rfl dL_line_2 ?_
  refine gc_iload_n hC 1 rfl rfl dL_line_3 ?_
  refine gc_iload_n hC 2 rfl rfl dL_line_4 ?_
  unfold fh_L_line at h
  obtain ⟨e9, v, C1, c1, h⟩ := gq_y_i h
  refine gl_Xi (q := 0) (as := [.int a1, .int a2]) hC hZ (t_X9_line hl9 N _ _ _ _ _ _ c1) mV_X9_line wm_L_36 obC_0 rfl rfl (Nat.le_of_ble_eq_true rfl) ⟨by decide, by decide⟩ ⟨by decide, by decide⟩ dL_line_5 (fun hx => ?_) (fun hx => ?_)
  · replace h := gq_t hx h
    refine gl_if_eq (tgt := 15) hC (by decide) dL_line_8 (fun c7 => ?_) (fun c7 => ?_)
    · replace h := gq_t c7 h
      refine gl_lconst (v := 0) hC (by decide) dL_line_15 ?_
      refine gl_last hC hKL dL_line_16 ?_
      refine gl_goto (tgt := 24) hC (by decide) dL_line_17 ?_
      refine gc_iconst (v := 0) hC (by decide) dL_line_24 ?_
      cases h
      exact gl_iret hC hKL hr dL_line_25 (by decide) (by decide)
    · replace h := gq_f c7 h
      refine gl_lconst (v := 1) hC (by decide) dL_line_11 ?_
      refine gl_goto (tgt := 16) hC (by decide) dL_line_12 ?_
      refine gl_last hC hKL dL_line_16 ?_
      refine gl_goto (tgt := 24) hC (by decide) dL_line_17 ?_
      refine gc_iconst (v := 0) hC (by decide) dL_line_24 ?_
      cases h
      exact gl_iret hC hKL hr dL_line_25 (by decide) (by decide)
  · replace h := gq_f hx h
    rcases gq_or h with ⟨c0, h⟩ | ⟨c0, h⟩
    · subst c0
      refine gl_catch (hh := [(0, 17, 20, 13)]) hC hZ htab [] ⟨0, 17, 20, 13⟩ [] rfl ((fun _ h => absurd h List.not_mem_nil)) (by decide) (by decide) wx_13 (fun q9 => ?_)
      refine gl_astore (L2 := [(4, .ref q9), (0, .ref (ad 0)), (1, .int a1), (2, .int a2), (3, .ref oa)]) hC (by decide) rfl dL_line_20 ?_
      refine gc_iconst (v := 1) hC (by decide) dL_line_22 ?_
      cases h
      exact gl_iret hC hKL hr dL_line_23 (by decide) (by decide)
    cases h
def fh_L_land (N : Nat) (a1 : Int32) (a2 : Int32) (a3 : Int32) (a4 : Int32) (a5 : Int32) (a6 : Int32) (C : gq_M) (ov : Int64) : Option (Int32 × Int64 × gq_M) := gq_y (f_X9_land N a1 a2 a3 a4 a5 a6 C) fun e v C1 => if e = 0 then (some (0, (v : Int32).toInt64, C1)) else if e = 1 then (some (1, ov, C1)) else if e = 2 then (some (2, ov, C1)) else if e = 3 then (some (3, ov, C1)) else none
set_option maxHeartbeats 1000000 in
set_option maxRecDepth 20000 in
theorem h_L_land {l : Launch} (hl9 : l.stackTraces = false) {D : va_G} {cI cZ cL : ClassId} {ad : Nat → Nat} (N : Nat) (oa : Nat) (a1 : Int32) (a2 : Int32) (a3 : Int32) (a4 : Int32) (a5 : Int32) (a6 : Int32) (C : gq_M) (ov ov9 : Int64) (k9 : Int32) (C9 : gq_M) (h : fh_L_land N a1 a2 a3 a4 a5 a6 C ov = some (k9, ov9, C9)) : gl_Ct l D cI cZ cL yL_land cL_land 9 [(0, 18, 21, 13), (0, 18, 25, 15), (0, 18, 29, 43)] 8 [.ref (ad 0), .int a1, .int a2, .int a3, .int a4, .int a5, .int a6, .ref oa] (gl_out cL oa ov :: gq_ws cI cZ ad C 0 mtC) k9 (gl_out cL oa ov9 :: gq_ws cI cZ ad C9 0 mtC) := by
  refine gl_intro (own := RL) (by decide) rfl (Nat.le_of_ble_eq_true rfl) ?_
  intro p e s m below meth c hC hr hKL hZ hN htab
  refine gc_cast (L2 := [(0, .ref (ad 0)), (1, .int a1), (2, .int a2), (3, .int a3), (4, .int a4), (5, .int a5), (6, .int a6), (7, .ref oa)]) (ws2 := ([gl_out cL oa ov] ++ gq_ws cI cZ ad C 0 mtC)) ?_ rfl rfl rfl rfl rfl rfl
  refine gl_aload hC 7 rfl dL_land_0 ?_
  refine gc_iconst (v := 0) hC (by decide) dL_land_2 ?_
  refine gc_aload_n hC 0 rfl rfl dL_land_3 ?_
  refine gc_iload_n hC 1 rfl rfl dL_land_4 ?_
  refine gc_iload_n hC 2 rfl rfl dL_land_5 ?_
  refine gc_iload_n hC 3 rfl rfl dL_land_6 ?_
  refine gl_iload hC 4 rfl dL_land_7 ?_
  refine gl_iload hC 5 rfl dL_land_9 ?_
  refine gl_iload hC 6 rfl dL_land_11 ?_
  unfold fh_L_land at h
  obtain ⟨e9, v, C1, c1, h⟩ := gq_y_i h
  refine gl_Xi (q := 0) (as := [.int a1, .int a2, .int a3, .int a4, .int a5, .int a6]) hC hZ (t_X9_land hl9 N _ _ _ _ _ _ _ _ _ _ c1) mV_X9_land wm_L_39 obC_0 rfl rfl (Nat.le_of_ble_eq_true rfl) ⟨by decide, by decide⟩ ⟨by decide, by decide⟩ dL_land_13 (fun hx => ?_) (fun hx => ?_)
  · replace h := gq_t hx h
    refine gl_i2l hC dL_land_16 ?_
    refine gl_last hC hKL dL_land_17 ?_
    refine gl_goto (tgt := 33) hC (by decide) dL_land_18 ?_
    refine gc_iconst (v := 0) hC (by decide) dL_land_33 ?_
    cases h
    exact gl_iret hC hKL hr dL_land_34 (by decide) (by decide)
  · replace h := gq_f hx h
    rcases gq_or h with ⟨c0, h⟩ | ⟨c0, h⟩
    · subst c0
      refine gl_catch (hh := [(0, 18, 21, 13), (0, 18, 25, 15), (0, 18, 29, 43)]) hC hZ htab [] ⟨0, 18, 21, 13⟩ [⟨0, 18, 25, 15⟩, ⟨0, 18, 29, 43⟩] rfl ((fun _ h => absurd h List.not_mem_nil)) (by decide) (by decide) wx_13 (fun q9 => ?_)
      refine gl_astore (L2 := [(8, .ref q9), (0, .ref (ad 0)), (1, .int a1), (2, .int a2), (3, .int a3), (4, .int a4), (5, .int a5), (6, .int a6), (7, .ref oa)]) hC (by decide) rfl dL_land_21 ?_
      refine gc_iconst (v := 1) hC (by decide) dL_land_23 ?_
      cases h
      exact gl_iret hC hKL hr dL_land_24 (by decide) (by decide)
    rcases gq_or h with ⟨c1, h⟩ | ⟨c1, h⟩
    · subst c1
      refine gl_catch (hh := [(0, 18, 21, 13), (0, 18, 25, 15), (0, 18, 29, 43)]) hC hZ htab [⟨0, 18, 21, 13⟩] ⟨0, 18, 25, 15⟩ [⟨0, 18, 29, 43⟩] rfl (List.forall_mem_cons.mpr ⟨⟨by decide, 1, wx_13, hN 2 1 (by decide) (by decide) (by decide) (by decide) (by decide)⟩, (fun _ h => absurd h List.not_mem_nil)⟩) (by decide) (by decide) wx_15 (fun q9 => ?_)
      refine gl_astore (L2 := [(8, .ref q9), (0, .ref (ad 0)), (1, .int a1), (2, .int a2), (3, .int a3), (4, .int a4), (5, .int a5), (6, .int a6), (7, .ref oa)]) hC (by decide) rfl dL_land_25 ?_
      refine gc_iconst (v := 2) hC (by decide) dL_land_27 ?_
      cases h
      exact gl_iret hC hKL hr dL_land_28 (by decide) (by decide)
    rcases gq_or h with ⟨c2, h⟩ | ⟨c2, h⟩
    · subst c2
      refine gl_catch (hh := [(0, 18, 21, 13), (0, 18, 25, 15), (0, 18, 29, 43)]) hC hZ htab [⟨0, 18, 21, 13⟩, ⟨0, 18, 25, 15⟩] ⟨0, 18, 29, 43⟩ [] rfl (List.forall_mem_cons.mpr ⟨⟨by decide, 1, wx_13, hN 3 1 (by decide) (by decide) (by decide) (by decide) (by decide)⟩, List.forall_mem_cons.mpr ⟨⟨by decide, 2, wx_15, hN 3 2 (by decide) (by decide) (by decide) (by decide) (by decide)⟩, (fun _ h => absurd h List.not_mem_nil)⟩⟩) (by decide) (by decide) wx_43 (fun q9 => ?_)
      refine gl_astore (L2 := [(8, .ref q9), (0, .ref (ad 0)), (1, .int a1), (2, .int a2), (3, .int a3), (4, .int a4), (5, .int a5), (6, .int a6), (7, .ref oa)]) hC (by decide) rfl dL_land_29 ?_
      refine gc_iconst (v := 3) hC (by decide) dL_land_31 ?_
      cases h
      exact gl_iret hC hKL hr dL_land_32 (by decide) (by decide)
    cases h
def fh_L_open (N : Nat) (C : gq_M) (ov : Int64) : Option (Int32 × Int64 × gq_M) := gq_y (f_X9_open N  C) fun e v C1 => if e = 0 then (some (0, (v : Int32).toInt64, C1)) else if e = 3 then (some (1, ov, C1)) else none
set_option maxHeartbeats 1000000 in
set_option maxRecDepth 20000 in
theorem h_L_open {l : Launch} (hl9 : l.stackTraces = false) {D : va_G} {cI cZ cL : ClassId} {ad : Nat → Nat} (N : Nat) (oa : Nat) (C : gq_M) (ov ov9 : Int64) (k9 : Int32) (C9 : gq_M) (h : fh_L_open N  C ov = some (k9, ov9, C9)) : gl_Ct l D cI cZ cL yL_open cL_open 3 [(0, 8, 11, 43)] 8 [.ref (ad 0), .ref oa] (gl_out cL oa ov :: gq_ws cI cZ ad C 0 mtC) k9 (gl_out cL oa ov9 :: gq_ws cI cZ ad C9 0 mtC) := by
  refine gl_intro (own := RL) (by decide) rfl (Nat.le_of_ble_eq_true rfl) ?_
  intro p e s m below meth c hC hr hKL hZ hN htab
  refine gc_cast (L2 := [(0, .ref (ad 0)), (1, .ref oa)]) (ws2 := ([gl_out cL oa ov] ++ gq_ws cI cZ ad C 0 mtC)) ?_ rfl rfl rfl rfl rfl rfl
  refine gc_aload_n hC 1 rfl rfl dL_open_0 ?_
  refine gc_iconst (v := 0) hC (by decide) dL_open_1 ?_
  refine gc_aload_n hC 0 rfl rfl dL_open_2 ?_
  unfold fh_L_open at h
  obtain ⟨e9, v, C1, c1, h⟩ := gq_y_i h
  refine gl_Xi (q := 0) (as := []) hC hZ (t_X9_open hl9 N  _ _ _ _ c1) mV_X9_open wm_L_45 obC_0 rfl rfl (Nat.le_of_ble_eq_true rfl) ⟨by decide, by decide⟩ ⟨by decide, by decide⟩ dL_open_3 (fun hx => ?_) (fun hx => ?_)
  · replace h := gq_t hx h
    refine gl_i2l hC dL_open_6 ?_
    refine gl_last hC hKL dL_open_7 ?_
    refine gl_goto (tgt := 14) hC (by decide) dL_open_8 ?_
    refine gc_iconst (v := 0) hC (by decide) dL_open_14 ?_
    cases h
    exact gl_iret hC hKL hr dL_open_15 (by decide) (by decide)
  · replace h := gq_f hx h
    rcases gq_or h with ⟨c0, h⟩ | ⟨c0, h⟩
    · subst c0
      refine gl_catch (hh := [(0, 8, 11, 43)]) hC hZ htab [] ⟨0, 8, 11, 43⟩ [] rfl ((fun _ h => absurd h List.not_mem_nil)) (by decide) (by decide) wx_43 (fun q9 => ?_)
      refine gl_astore_n (L2 := [(2, .ref q9), (0, .ref (ad 0)), (1, .ref oa)]) hC rfl (by decide) rfl dL_open_11 ?_
      refine gc_iconst (v := 1) hC (by decide) dL_open_12 ?_
      cases h
      exact gl_iret hC hKL hr dL_open_13 (by decide) (by decide)
    cases h
def fh_L_end (N : Nat) (C : gq_M) (ov : Int64) : Option (Int32 × Int64 × gq_M) := gq_y (f_X9_end N  C) fun e v C1 => if e = 0 then (some (0, (v : Int32).toInt64, C1)) else if e = 3 then (some (1, ov, C1)) else none
set_option maxHeartbeats 1000000 in
set_option maxRecDepth 20000 in
theorem h_L_end {l : Launch} (hl9 : l.stackTraces = false) {D : va_G} {cI cZ cL : ClassId} {ad : Nat → Nat} (N : Nat) (oa : Nat) (C : gq_M) (ov ov9 : Int64) (k9 : Int32) (C9 : gq_M) (h : fh_L_end N  C ov = some (k9, ov9, C9)) : gl_Ct l D cI cZ cL yL_end cL_end 3 [(0, 8, 11, 43)] 8 [.ref (ad 0), .ref oa] (gl_out cL oa ov :: gq_ws cI cZ ad C 0 mtC) k9 (gl_out cL oa ov9 :: gq_ws cI cZ ad C9 0 mtC) := by
  refine gl_intro (own := RL) (by decide) rfl (Nat.le_of_ble_eq_true rfl) ?_
  intro p e s m below meth c hC hr hKL hZ hN htab
  refine gc_cast (L2 := [(0, .ref (ad 0)), (1, .ref oa)]) (ws2 := ([gl_out cL oa ov] ++ gq_ws cI cZ ad C 0 mtC)) ?_ rfl rfl rfl rfl rfl rfl
  refine gc_aload_n hC 1 rfl rfl dL_end_0 ?_
  refine gc_iconst (v := 0) hC (by decide) dL_end_1 ?_
  refine gc_aload_n hC 0 rfl rfl dL_end_2 ?_
  unfold fh_L_end at h
  obtain ⟨e9, v, C1, c1, h⟩ := gq_y_i h
  refine gl_Xi (q := 0) (as := []) hC hZ (t_X9_end hl9 N  _ _ _ _ c1) mV_X9_end wm_L_49 obC_0 rfl rfl (Nat.le_of_ble_eq_true rfl) ⟨by decide, by decide⟩ ⟨by decide, by decide⟩ dL_end_3 (fun hx => ?_) (fun hx => ?_)
  · replace h := gq_t hx h
    refine gl_i2l hC dL_end_6 ?_
    refine gl_last hC hKL dL_end_7 ?_
    refine gl_goto (tgt := 14) hC (by decide) dL_end_8 ?_
    refine gc_iconst (v := 0) hC (by decide) dL_end_14 ?_
    cases h
    exact gl_iret hC hKL hr dL_end_15 (by decide) (by decide)
  · replace h := gq_f hx h
    rcases gq_or h with ⟨c0, h⟩ | ⟨c0, h⟩
    · subst c0
      refine gl_catch (hh := [(0, 8, 11, 43)]) hC hZ htab [] ⟨0, 8, 11, 43⟩ [] rfl ((fun _ h => absurd h List.not_mem_nil)) (by decide) (by decide) wx_43 (fun q9 => ?_)
      refine gl_astore_n (L2 := [(2, .ref q9), (0, .ref (ad 0)), (1, .ref oa)]) hC rfl (by decide) rfl dL_end_11 ?_
      refine gc_iconst (v := 1) hC (by decide) dL_end_12 ?_
      cases h
      exact gl_iret hC hKL hr dL_end_13 (by decide) (by decide)
    cases h
def fh_L_press (N : Nat) (a1 : Int32) (a2 : Int32) (C : gq_M) (ov : Int64) : Option (Int32 × Int64 × gq_M) := gq_y (f_X9_press N a1 a2 C) fun e v C1 => if e = 0 then (some (0, (v : Int32).toInt64, C1)) else if e = 1 then (some (1, ov, C1)) else if e = 3 then (some (2, ov, C1)) else none
set_option maxHeartbeats 1000000 in
set_option maxRecDepth 20000 in
theorem h_L_press {l : Launch} (hl9 : l.stackTraces = false) {D : va_G} {cI cZ cL : ClassId} {ad : Nat → Nat} (N : Nat) (oa : Nat) (a1 : Int32) (a2 : Int32) (C : gq_M) (ov ov9 : Int64) (k9 : Int32) (C9 : gq_M) (h : fh_L_press N a1 a2 C ov = some (k9, ov9, C9)) : gl_Ct l D cI cZ cL yL_press cL_press 5 [(0, 10, 13, 13), (0, 10, 17, 43)] 8 [.ref (ad 0), .int a1, .int a2, .ref oa] (gl_out cL oa ov :: gq_ws cI cZ ad C 0 mtC) k9 (gl_out cL oa ov9 :: gq_ws cI cZ ad C9 0 mtC) := by
  refine gl_intro (own := RL) (by decide) rfl (Nat.le_of_ble_eq_true rfl) ?_
  intro p e s m below meth c hC hr hKL hZ hN htab
  refine gc_cast (L2 := [(0, .ref (ad 0)), (1, .int a1), (2, .int a2), (3, .ref oa)]) (ws2 := ([gl_out cL oa ov] ++ gq_ws cI cZ ad C 0 mtC)) ?_ rfl rfl rfl rfl rfl rfl
  refine gc_aload_n hC 3 rfl rfl dL_press_0 ?_
  refine gc_iconst (v := 0) hC (by decide) dL_press_1 ?_
  refine gc_aload_n hC 0 rfl rfl dL_press_2 ?_
  refine gc_iload_n hC 1 rfl rfl dL_press_3 ?_
  refine gc_iload_n hC 2 rfl rfl dL_press_4 ?_
  unfold fh_L_press at h
  obtain ⟨e9, v, C1, c1, h⟩ := gq_y_i h
  refine gl_Xi (q := 0) (as := [.int a1, .int a2]) hC hZ (t_X9_press hl9 N _ _ _ _ _ _ c1) mV_X9_press wm_L_52 obC_0 rfl rfl (Nat.le_of_ble_eq_true rfl) ⟨by decide, by decide⟩ ⟨by decide, by decide⟩ dL_press_5 (fun hx => ?_) (fun hx => ?_)
  · replace h := gq_t hx h
    refine gl_i2l hC dL_press_8 ?_
    refine gl_last hC hKL dL_press_9 ?_
    refine gl_goto (tgt := 21) hC (by decide) dL_press_10 ?_
    refine gc_iconst (v := 0) hC (by decide) dL_press_21 ?_
    cases h
    exact gl_iret hC hKL hr dL_press_22 (by decide) (by decide)
  · replace h := gq_f hx h
    rcases gq_or h with ⟨c0, h⟩ | ⟨c0, h⟩
    · subst c0
      refine gl_catch (hh := [(0, 10, 13, 13), (0, 10, 17, 43)]) hC hZ htab [] ⟨0, 10, 13, 13⟩ [⟨0, 10, 17, 43⟩] rfl ((fun _ h => absurd h List.not_mem_nil)) (by decide) (by decide) wx_13 (fun q9 => ?_)
      refine gl_astore (L2 := [(4, .ref q9), (0, .ref (ad 0)), (1, .int a1), (2, .int a2), (3, .ref oa)]) hC (by decide) rfl dL_press_13 ?_
      refine gc_iconst (v := 1) hC (by decide) dL_press_15 ?_
      cases h
      exact gl_iret hC hKL hr dL_press_16 (by decide) (by decide)
    rcases gq_or h with ⟨c1, h⟩ | ⟨c1, h⟩
    · subst c1
      refine gl_catch (hh := [(0, 10, 13, 13), (0, 10, 17, 43)]) hC hZ htab [⟨0, 10, 13, 13⟩] ⟨0, 10, 17, 43⟩ [] rfl (List.forall_mem_cons.mpr ⟨⟨by decide, 1, wx_13, hN 3 1 (by decide) (by decide) (by decide) (by decide) (by decide)⟩, (fun _ h => absurd h List.not_mem_nil)⟩) (by decide) (by decide) wx_43 (fun q9 => ?_)
      refine gl_astore (L2 := [(4, .ref q9), (0, .ref (ad 0)), (1, .int a1), (2, .int a2), (3, .ref oa)]) hC (by decide) rfl dL_press_17 ?_
      refine gc_iconst (v := 2) hC (by decide) dL_press_19 ?_
      cases h
      exact gl_iret hC hKL hr dL_press_20 (by decide) (by decide)
    cases h
def fh_L_take (N : Nat) (a1 : Int32) (a2 : Int32) (a3 : Int32) (C : gq_M) (ov : Int64) : Option (Int32 × Int64 × gq_M) := gq_y (f_X9_take N a1 a2 a3 C) fun e v C1 => if e = 0 then (some (0, (v : Int32).toInt64, C1)) else if e = 1 then (some (1, ov, C1)) else if e = 3 then (some (2, ov, C1)) else none
set_option maxHeartbeats 1000000 in
set_option maxRecDepth 20000 in
theorem h_L_take {l : Launch} (hl9 : l.stackTraces = false) {D : va_G} {cI cZ cL : ClassId} {ad : Nat → Nat} (N : Nat) (oa : Nat) (a1 : Int32) (a2 : Int32) (a3 : Int32) (C : gq_M) (ov ov9 : Int64) (k9 : Int32) (C9 : gq_M) (h : fh_L_take N a1 a2 a3 C ov = some (k9, ov9, C9)) : gl_Ct l D cI cZ cL yL_take cL_take 6 [(0, 12, 15, 13), (0, 12, 19, 43)] 8 [.ref (ad 0), .int a1, .int a2, .int a3, .ref oa] (gl_out cL oa ov :: gq_ws cI cZ ad C 0 mtC) k9 (gl_out cL oa ov9 :: gq_ws cI cZ ad C9 0 mtC) := by
  refine gl_intro (own := RL) (by decide) rfl (Nat.le_of_ble_eq_true rfl) ?_
  intro p e s m below meth c hC hr hKL hZ hN htab
  refine gc_cast (L2 := [(0, .ref (ad 0)), (1, .int a1), (2, .int a2), (3, .int a3), (4, .ref oa)]) (ws2 := ([gl_out cL oa ov] ++ gq_ws cI cZ ad C 0 mtC)) ?_ rfl rfl rfl rfl rfl rfl
  refine gl_aload hC 4 rfl dL_take_0 ?_
  refine gc_iconst (v := 0) hC (by decide) dL_take_2 ?_
  refine gc_aload_n hC 0 rfl rfl dL_take_3 ?_
  refine gc_iload_n hC 1 rfl rfl dL_take_4 ?_
  refine gc_iload_n hC 2 rfl rfl dL_take_5 ?_
  refine gc_iload_n hC 3 rfl rfl dL_take_6 ?_
  unfold fh_L_take at h
  obtain ⟨e9, v, C1, c1, h⟩ := gq_y_i h
  refine gl_Xi (q := 0) (as := [.int a1, .int a2, .int a3]) hC hZ (t_X9_take hl9 N _ _ _ _ _ _ _ c1) mV_X9_take wm_L_55 obC_0 rfl rfl (Nat.le_of_ble_eq_true rfl) ⟨by decide, by decide⟩ ⟨by decide, by decide⟩ dL_take_7 (fun hx => ?_) (fun hx => ?_)
  · replace h := gq_t hx h
    refine gl_i2l hC dL_take_10 ?_
    refine gl_last hC hKL dL_take_11 ?_
    refine gl_goto (tgt := 23) hC (by decide) dL_take_12 ?_
    refine gc_iconst (v := 0) hC (by decide) dL_take_23 ?_
    cases h
    exact gl_iret hC hKL hr dL_take_24 (by decide) (by decide)
  · replace h := gq_f hx h
    rcases gq_or h with ⟨c0, h⟩ | ⟨c0, h⟩
    · subst c0
      refine gl_catch (hh := [(0, 12, 15, 13), (0, 12, 19, 43)]) hC hZ htab [] ⟨0, 12, 15, 13⟩ [⟨0, 12, 19, 43⟩] rfl ((fun _ h => absurd h List.not_mem_nil)) (by decide) (by decide) wx_13 (fun q9 => ?_)
      refine gl_astore (L2 := [(5, .ref q9), (0, .ref (ad 0)), (1, .int a1), (2, .int a2), (3, .int a3), (4, .ref oa)]) hC (by decide) rfl dL_take_15 ?_
      refine gc_iconst (v := 1) hC (by decide) dL_take_17 ?_
      cases h
      exact gl_iret hC hKL hr dL_take_18 (by decide) (by decide)
    rcases gq_or h with ⟨c1, h⟩ | ⟨c1, h⟩
    · subst c1
      refine gl_catch (hh := [(0, 12, 15, 13), (0, 12, 19, 43)]) hC hZ htab [⟨0, 12, 15, 13⟩] ⟨0, 12, 19, 43⟩ [] rfl (List.forall_mem_cons.mpr ⟨⟨by decide, 1, wx_13, hN 3 1 (by decide) (by decide) (by decide) (by decide) (by decide)⟩, (fun _ h => absurd h List.not_mem_nil)⟩) (by decide) (by decide) wx_43 (fun q9 => ?_)
      refine gl_astore (L2 := [(5, .ref q9), (0, .ref (ad 0)), (1, .int a1), (2, .int a2), (3, .int a3), (4, .ref oa)]) hC (by decide) rfl dL_take_19 ?_
      refine gc_iconst (v := 2) hC (by decide) dL_take_21 ?_
      cases h
      exact gl_iret hC hKL hr dL_take_22 (by decide) (by decide)
    cases h
def fh_L_pass (N : Nat) (a1 : Int32) (C : gq_M) (ov : Int64) : Option (Int32 × Int64 × gq_M) := gq_y (f_X9_pass N a1 C) fun e v C1 => if e = 0 then (some (0, (v : Int32).toInt64, C1)) else if e = 2 then (some (1, ov, C1)) else if e = 3 then (some (2, ov, C1)) else none
set_option maxHeartbeats 1000000 in
set_option maxRecDepth 20000 in
theorem h_L_pass {l : Launch} (hl9 : l.stackTraces = false) {D : va_G} {cI cZ cL : ClassId} {ad : Nat → Nat} (N : Nat) (oa : Nat) (a1 : Int32) (C : gq_M) (ov ov9 : Int64) (k9 : Int32) (C9 : gq_M) (h : fh_L_pass N a1 C ov = some (k9, ov9, C9)) : gl_Ct l D cI cZ cL yL_pass cL_pass 4 [(0, 9, 12, 15), (0, 9, 15, 43)] 8 [.ref (ad 0), .int a1, .ref oa] (gl_out cL oa ov :: gq_ws cI cZ ad C 0 mtC) k9 (gl_out cL oa ov9 :: gq_ws cI cZ ad C9 0 mtC) := by
  refine gl_intro (own := RL) (by decide) rfl (Nat.le_of_ble_eq_true rfl) ?_
  intro p e s m below meth c hC hr hKL hZ hN htab
  refine gc_cast (L2 := [(0, .ref (ad 0)), (1, .int a1), (2, .ref oa)]) (ws2 := ([gl_out cL oa ov] ++ gq_ws cI cZ ad C 0 mtC)) ?_ rfl rfl rfl rfl rfl rfl
  refine gc_aload_n hC 2 rfl rfl dL_pass_0 ?_
  refine gc_iconst (v := 0) hC (by decide) dL_pass_1 ?_
  refine gc_aload_n hC 0 rfl rfl dL_pass_2 ?_
  refine gc_iload_n hC 1 rfl rfl dL_pass_3 ?_
  unfold fh_L_pass at h
  obtain ⟨e9, v, C1, c1, h⟩ := gq_y_i h
  refine gl_Xi (q := 0) (as := [.int a1]) hC hZ (t_X9_pass hl9 N _ _ _ _ _ c1) mV_X9_pass wm_L_58 obC_0 rfl rfl (Nat.le_of_ble_eq_true rfl) ⟨by decide, by decide⟩ ⟨by decide, by decide⟩ dL_pass_4 (fun hx => ?_) (fun hx => ?_)
  · replace h := gq_t hx h
    refine gl_i2l hC dL_pass_7 ?_
    refine gl_last hC hKL dL_pass_8 ?_
    refine gl_goto (tgt := 18) hC (by decide) dL_pass_9 ?_
    refine gc_iconst (v := 0) hC (by decide) dL_pass_18 ?_
    cases h
    exact gl_iret hC hKL hr dL_pass_19 (by decide) (by decide)
  · replace h := gq_f hx h
    rcases gq_or h with ⟨c0, h⟩ | ⟨c0, h⟩
    · subst c0
      refine gl_catch (hh := [(0, 9, 12, 15), (0, 9, 15, 43)]) hC hZ htab [] ⟨0, 9, 12, 15⟩ [⟨0, 9, 15, 43⟩] rfl ((fun _ h => absurd h List.not_mem_nil)) (by decide) (by decide) wx_15 (fun q9 => ?_)
      refine gl_astore_n (L2 := [(3, .ref q9), (0, .ref (ad 0)), (1, .int a1), (2, .ref oa)]) hC rfl (by decide) rfl dL_pass_12 ?_
      refine gc_iconst (v := 1) hC (by decide) dL_pass_13 ?_
      cases h
      exact gl_iret hC hKL hr dL_pass_14 (by decide) (by decide)
    rcases gq_or h with ⟨c1, h⟩ | ⟨c1, h⟩
    · subst c1
      refine gl_catch (hh := [(0, 9, 12, 15), (0, 9, 15, 43)]) hC hZ htab [⟨0, 9, 12, 15⟩] ⟨0, 9, 15, 43⟩ [] rfl (List.forall_mem_cons.mpr ⟨⟨by decide, 2, wx_15, hN 3 2 (by decide) (by decide) (by decide) (by decide) (by decide)⟩, (fun _ h => absurd h List.not_mem_nil)⟩) (by decide) (by decide) wx_43 (fun q9 => ?_)
      refine gl_astore_n (L2 := [(3, .ref q9), (0, .ref (ad 0)), (1, .int a1), (2, .ref oa)]) hC rfl (by decide) rfl dL_pass_15 ?_
      refine gc_iconst (v := 2) hC (by decide) dL_pass_16 ?_
      cases h
      exact gl_iret hC hKL hr dL_pass_17 (by decide) (by decide)
    cases h
def fh_L_lorry (N : Nat) (a1 : Int32) (a2 : Int32) (a3 : Int32) (C : gq_M) (ov : Int64) : Option (Int32 × Int64 × gq_M) := gq_y (f_X9_lorry N a1 a2 a3 C) fun e v C1 => if e = 0 then (some (0, (v : Int32).toInt64, C1)) else if e = 1 then (some (1, ov, C1)) else if e = 2 then (some (2, ov, C1)) else if e = 3 then (some (3, ov, C1)) else none
set_option maxHeartbeats 1000000 in
set_option maxRecDepth 20000 in
theorem h_L_lorry {l : Launch} (hl9 : l.stackTraces = false) {D : va_G} {cI cZ cL : ClassId} {ad : Nat → Nat} (N : Nat) (oa : Nat) (a1 : Int32) (a2 : Int32) (a3 : Int32) (C : gq_M) (ov ov9 : Int64) (k9 : Int32) (C9 : gq_M) (h : fh_L_lorry N a1 a2 a3 C ov = some (k9, ov9, C9)) : gl_Ct l D cI cZ cL yL_lorry cL_lorry 6 [(0, 12, 15, 13), (0, 12, 19, 15), (0, 12, 23, 43)] 8 [.ref (ad 0), .int a1, .int a2, .int a3, .ref oa] (gl_out cL oa ov :: gq_ws cI cZ ad C 0 mtC) k9 (gl_out cL oa ov9 :: gq_ws cI cZ ad C9 0 mtC) := by
  refine gl_intro (own := RL) (by decide) rfl (Nat.le_of_ble_eq_true rfl) ?_
  intro p e s m below meth c hC hr hKL hZ hN htab
  refine gc_cast (L2 := [(0, .ref (ad 0)), (1, .int a1), (2, .int a2), (3, .int a3), (4, .ref oa)]) (ws2 := ([gl_out cL oa ov] ++ gq_ws cI cZ ad C 0 mtC)) ?_ rfl rfl rfl rfl rfl rfl
  refine gl_aload hC 4 rfl dL_lorry_0 ?_
  refine gc_iconst (v := 0) hC (by decide) dL_lorry_2 ?_
  refine gc_aload_n hC 0 rfl rfl dL_lorry_3 ?_
  refine gc_iload_n hC 1 rfl rfl dL_lorry_4 ?_
  refine gc_iload_n hC 2 rfl rfl dL_lorry_5 ?_
  refine gc_iload_n hC 3 rfl rfl dL_lorry_6 ?_
  unfold fh_L_lorry at h
  obtain ⟨e9, v, C1, c1, h⟩ := gq_y_i h
  refine gl_Xi (q := 0) (as := [.int a1, .int a2, .int a3]) hC hZ (t_X9_lorry hl9 N _ _ _ _ _ _ _ c1) mV_X9_lorry wm_L_62 obC_0 rfl rfl (Nat.le_of_ble_eq_true rfl) ⟨by decide, by decide⟩ ⟨by decide, by decide⟩ dL_lorry_7 (fun hx => ?_) (fun hx => ?_)
  · replace h := gq_t hx h
    refine gl_i2l hC dL_lorry_10 ?_
    refine gl_last hC hKL dL_lorry_11 ?_
    refine gl_goto (tgt := 27) hC (by decide) dL_lorry_12 ?_
    refine gc_iconst (v := 0) hC (by decide) dL_lorry_27 ?_
    cases h
    exact gl_iret hC hKL hr dL_lorry_28 (by decide) (by decide)
  · replace h := gq_f hx h
    rcases gq_or h with ⟨c0, h⟩ | ⟨c0, h⟩
    · subst c0
      refine gl_catch (hh := [(0, 12, 15, 13), (0, 12, 19, 15), (0, 12, 23, 43)]) hC hZ htab [] ⟨0, 12, 15, 13⟩ [⟨0, 12, 19, 15⟩, ⟨0, 12, 23, 43⟩] rfl ((fun _ h => absurd h List.not_mem_nil)) (by decide) (by decide) wx_13 (fun q9 => ?_)
      refine gl_astore (L2 := [(5, .ref q9), (0, .ref (ad 0)), (1, .int a1), (2, .int a2), (3, .int a3), (4, .ref oa)]) hC (by decide) rfl dL_lorry_15 ?_
      refine gc_iconst (v := 1) hC (by decide) dL_lorry_17 ?_
      cases h
      exact gl_iret hC hKL hr dL_lorry_18 (by decide) (by decide)
    rcases gq_or h with ⟨c1, h⟩ | ⟨c1, h⟩
    · subst c1
      refine gl_catch (hh := [(0, 12, 15, 13), (0, 12, 19, 15), (0, 12, 23, 43)]) hC hZ htab [⟨0, 12, 15, 13⟩] ⟨0, 12, 19, 15⟩ [⟨0, 12, 23, 43⟩] rfl (List.forall_mem_cons.mpr ⟨⟨by decide, 1, wx_13, hN 2 1 (by decide) (by decide) (by decide) (by decide) (by decide)⟩, (fun _ h => absurd h List.not_mem_nil)⟩) (by decide) (by decide) wx_15 (fun q9 => ?_)
      refine gl_astore (L2 := [(5, .ref q9), (0, .ref (ad 0)), (1, .int a1), (2, .int a2), (3, .int a3), (4, .ref oa)]) hC (by decide) rfl dL_lorry_19 ?_
      refine gc_iconst (v := 2) hC (by decide) dL_lorry_21 ?_
      cases h
      exact gl_iret hC hKL hr dL_lorry_22 (by decide) (by decide)
    rcases gq_or h with ⟨c2, h⟩ | ⟨c2, h⟩
    · subst c2
      refine gl_catch (hh := [(0, 12, 15, 13), (0, 12, 19, 15), (0, 12, 23, 43)]) hC hZ htab [⟨0, 12, 15, 13⟩, ⟨0, 12, 19, 15⟩] ⟨0, 12, 23, 43⟩ [] rfl (List.forall_mem_cons.mpr ⟨⟨by decide, 1, wx_13, hN 3 1 (by decide) (by decide) (by decide) (by decide) (by decide)⟩, List.forall_mem_cons.mpr ⟨⟨by decide, 2, wx_15, hN 3 2 (by decide) (by decide) (by decide) (by decide) (by decide)⟩, (fun _ h => absurd h List.not_mem_nil)⟩⟩) (by decide) (by decide) wx_43 (fun q9 => ?_)
      refine gl_astore (L2 := [(5, .ref q9), (0, .ref (ad 0)), (1, .int a1), (2, .int a2), (3, .int a3), (4, .ref oa)]) hC (by decide) rfl dL_lorry_23 ?_
      refine gc_iconst (v := 3) hC (by decide) dL_lorry_25 ?_
      cases h
      exact gl_iret hC hKL hr dL_lorry_26 (by decide) (by decide)
    cases h
def fh_L_pay (N : Nat) (a1 : Int32) (a2 : Int32) (C : gq_M) (ov : Int64) : Option (Int32 × Int64 × gq_M) := gq_y (f_X9_pay N a1 a2 C) fun e v C1 => if e = 0 then (some (0, (v : Int32).toInt64, C1)) else if e = 1 then (some (1, ov, C1)) else if e = 2 then (some (2, ov, C1)) else none
set_option maxHeartbeats 1000000 in
set_option maxRecDepth 20000 in
theorem h_L_pay {l : Launch} (hl9 : l.stackTraces = false) {D : va_G} {cI cZ cL : ClassId} {ad : Nat → Nat} (N : Nat) (oa : Nat) (a1 : Int32) (a2 : Int32) (C : gq_M) (ov ov9 : Int64) (k9 : Int32) (C9 : gq_M) (h : fh_L_pay N a1 a2 C ov = some (k9, ov9, C9)) : gl_Ct l D cI cZ cL yL_pay cL_pay 5 [(0, 10, 13, 13), (0, 10, 17, 15)] 8 [.ref (ad 0), .int a1, .int a2, .ref oa] (gl_out cL oa ov :: gq_ws cI cZ ad C 0 mtC) k9 (gl_out cL oa ov9 :: gq_ws cI cZ ad C9 0 mtC) := by
  refine gl_intro (own := RL) (by decide) rfl (Nat.le_of_ble_eq_true rfl) ?_
  intro p e s m below meth c hC hr hKL hZ hN htab
  refine gc_cast (L2 := [(0, .ref (ad 0)), (1, .int a1), (2, .int a2), (3, .ref oa)]) (ws2 := ([gl_out cL oa ov] ++ gq_ws cI cZ ad C 0 mtC)) ?_ rfl rfl rfl rfl rfl rfl
  refine gc_aload_n hC 3 rfl rfl dL_pay_0 ?_
  refine gc_iconst (v := 0) hC (by decide) dL_pay_1 ?_
  refine gc_aload_n hC 0 rfl rfl dL_pay_2 ?_
  refine gc_iload_n hC 1 rfl rfl dL_pay_3 ?_
  refine gc_iload_n hC 2 rfl rfl dL_pay_4 ?_
  unfold fh_L_pay at h
  obtain ⟨e9, v, C1, c1, h⟩ := gq_y_i h
  refine gl_Xi (q := 0) (as := [.int a1, .int a2]) hC hZ (t_X9_pay hl9 N _ _ _ _ _ _ c1) mV_X9_pay wm_L_65 obC_0 rfl rfl (Nat.le_of_ble_eq_true rfl) ⟨by decide, by decide⟩ ⟨by decide, by decide⟩ dL_pay_5 (fun hx => ?_) (fun hx => ?_)
  · replace h := gq_t hx h
    refine gl_i2l hC dL_pay_8 ?_
    refine gl_last hC hKL dL_pay_9 ?_
    refine gl_goto (tgt := 21) hC (by decide) dL_pay_10 ?_
    refine gc_iconst (v := 0) hC (by decide) dL_pay_21 ?_
    cases h
    exact gl_iret hC hKL hr dL_pay_22 (by decide) (by decide)
  · replace h := gq_f hx h
    rcases gq_or h with ⟨c0, h⟩ | ⟨c0, h⟩
    · subst c0
      refine gl_catch (hh := [(0, 10, 13, 13), (0, 10, 17, 15)]) hC hZ htab [] ⟨0, 10, 13, 13⟩ [⟨0, 10, 17, 15⟩] rfl ((fun _ h => absurd h List.not_mem_nil)) (by decide) (by decide) wx_13 (fun q9 => ?_)
      refine gl_astore (L2 := [(4, .ref q9), (0, .ref (ad 0)), (1, .int a1), (2, .int a2), (3, .ref oa)]) hC (by decide) rfl dL_pay_13 ?_
      refine gc_iconst (v := 1) hC (by decide) dL_pay_15 ?_
      cases h
      exact gl_iret hC hKL hr dL_pay_16 (by decide) (by decide)
    rcases gq_or h with ⟨c1, h⟩ | ⟨c1, h⟩
    · subst c1
      refine gl_catch (hh := [(0, 10, 13, 13), (0, 10, 17, 15)]) hC hZ htab [⟨0, 10, 13, 13⟩] ⟨0, 10, 17, 15⟩ [] rfl (List.forall_mem_cons.mpr ⟨⟨by decide, 1, wx_13, hN 2 1 (by decide) (by decide) (by decide) (by decide) (by decide)⟩, (fun _ h => absurd h List.not_mem_nil)⟩) (by decide) (by decide) wx_15 (fun q9 => ?_)
      refine gl_astore (L2 := [(4, .ref q9), (0, .ref (ad 0)), (1, .int a1), (2, .int a2), (3, .ref oa)]) hC (by decide) rfl dL_pay_17 ?_
      refine gc_iconst (v := 2) hC (by decide) dL_pay_19 ?_
      cases h
      exact gl_iret hC hKL hr dL_pay_20 (by decide) (by decide)
    cases h
def fh_L_claim (N : Nat) (a1 : Int32) (a2 : Int32) (C : gq_M) (ov : Int64) : Option (Int32 × Int64 × gq_M) := gq_y (f_X9_claim N a1 a2 C) fun e v C1 => if e = 0 then (some (0, (v : Int32).toInt64, C1)) else if e = 1 then (some (1, ov, C1)) else if e = 3 then (some (2, ov, C1)) else none
set_option maxHeartbeats 1000000 in
set_option maxRecDepth 20000 in
theorem h_L_claim {l : Launch} (hl9 : l.stackTraces = false) {D : va_G} {cI cZ cL : ClassId} {ad : Nat → Nat} (N : Nat) (oa : Nat) (a1 : Int32) (a2 : Int32) (C : gq_M) (ov ov9 : Int64) (k9 : Int32) (C9 : gq_M) (h : fh_L_claim N a1 a2 C ov = some (k9, ov9, C9)) : gl_Ct l D cI cZ cL yL_claim cL_claim 5 [(0, 10, 13, 13), (0, 10, 17, 43)] 8 [.ref (ad 0), .int a1, .int a2, .ref oa] (gl_out cL oa ov :: gq_ws cI cZ ad C 0 mtC) k9 (gl_out cL oa ov9 :: gq_ws cI cZ ad C9 0 mtC) := by
  refine gl_intro (own := RL) (by decide) rfl (Nat.le_of_ble_eq_true rfl) ?_
  intro p e s m below meth c hC hr hKL hZ hN htab
  refine gc_cast (L2 := [(0, .ref (ad 0)), (1, .int a1), (2, .int a2), (3, .ref oa)]) (ws2 := ([gl_out cL oa ov] ++ gq_ws cI cZ ad C 0 mtC)) ?_ rfl rfl rfl rfl rfl rfl
  refine gc_aload_n hC 3 rfl rfl dL_claim_0 ?_
  refine gc_iconst (v := 0) hC (by decide) dL_claim_1 ?_
  refine gc_aload_n hC 0 rfl rfl dL_claim_2 ?_
  refine gc_iload_n hC 1 rfl rfl dL_claim_3 ?_
  refine gc_iload_n hC 2 rfl rfl dL_claim_4 ?_
  unfold fh_L_claim at h
  obtain ⟨e9, v, C1, c1, h⟩ := gq_y_i h
  refine gl_Xi (q := 0) (as := [.int a1, .int a2]) hC hZ (t_X9_claim hl9 N _ _ _ _ _ _ c1) mV_X9_claim wm_L_68 obC_0 rfl rfl (Nat.le_of_ble_eq_true rfl) ⟨by decide, by decide⟩ ⟨by decide, by decide⟩ dL_claim_5 (fun hx => ?_) (fun hx => ?_)
  · replace h := gq_t hx h
    refine gl_i2l hC dL_claim_8 ?_
    refine gl_last hC hKL dL_claim_9 ?_
    refine gl_goto (tgt := 21) hC (by decide) dL_claim_10 ?_
    refine gc_iconst (v := 0) hC (by decide) dL_claim_21 ?_
    cases h
    exact gl_iret hC hKL hr dL_claim_22 (by decide) (by decide)
  · replace h := gq_f hx h
    rcases gq_or h with ⟨c0, h⟩ | ⟨c0, h⟩
    · subst c0
      refine gl_catch (hh := [(0, 10, 13, 13), (0, 10, 17, 43)]) hC hZ htab [] ⟨0, 10, 13, 13⟩ [⟨0, 10, 17, 43⟩] rfl ((fun _ h => absurd h List.not_mem_nil)) (by decide) (by decide) wx_13 (fun q9 => ?_)
      refine gl_astore (L2 := [(4, .ref q9), (0, .ref (ad 0)), (1, .int a1), (2, .int a2), (3, .ref oa)]) hC (by decide) rfl dL_claim_13 ?_
      refine gc_iconst (v := 1) hC (by decide) dL_claim_15 ?_
      cases h
      exact gl_iret hC hKL hr dL_claim_16 (by decide) (by decide)
    rcases gq_or h with ⟨c1, h⟩ | ⟨c1, h⟩
    · subst c1
      refine gl_catch (hh := [(0, 10, 13, 13), (0, 10, 17, 43)]) hC hZ htab [⟨0, 10, 13, 13⟩] ⟨0, 10, 17, 43⟩ [] rfl (List.forall_mem_cons.mpr ⟨⟨by decide, 1, wx_13, hN 3 1 (by decide) (by decide) (by decide) (by decide) (by decide)⟩, (fun _ h => absurd h List.not_mem_nil)⟩) (by decide) (by decide) wx_43 (fun q9 => ?_)
      refine gl_astore (L2 := [(4, .ref q9), (0, .ref (ad 0)), (1, .int a1), (2, .int a2), (3, .ref oa)]) hC (by decide) rfl dL_claim_17 ?_
      refine gc_iconst (v := 2) hC (by decide) dL_claim_19 ?_
      cases h
      exact gl_iret hC hKL hr dL_claim_20 (by decide) (by decide)
    cases h
def fh_L_settle (N : Nat) (a1 : Int32) (a2 : Int32) (a3 : Int32) (C : gq_M) (ov : Int64) : Option (Int32 × Int64 × gq_M) := gq_y (f_X9_settle N a1 a2 a3 C) fun e v C1 => if e = 0 then (some (0, (v : Int32).toInt64, C1)) else if e = 1 then (some (1, ov, C1)) else if e = 2 then (some (2, ov, C1)) else none
set_option maxHeartbeats 1000000 in
set_option maxRecDepth 20000 in
theorem h_L_settle {l : Launch} (hl9 : l.stackTraces = false) {D : va_G} {cI cZ cL : ClassId} {ad : Nat → Nat} (N : Nat) (oa : Nat) (a1 : Int32) (a2 : Int32) (a3 : Int32) (C : gq_M) (ov ov9 : Int64) (k9 : Int32) (C9 : gq_M) (h : fh_L_settle N a1 a2 a3 C ov = some (k9, ov9, C9)) : gl_Ct l D cI cZ cL yL_settle cL_settle 6 [(0, 12, 15, 13), (0, 12, 19, 15)] 8 [.ref (ad 0), .int a1, .int a2, .int a3, .ref oa] (gl_out cL oa ov :: gq_ws cI cZ ad C 0 mtC) k9 (gl_out cL oa ov9 :: gq_ws cI cZ ad C9 0 mtC) := by
  refine gl_intro (own := RL) (by decide) rfl (Nat.le_of_ble_eq_true rfl) ?_
  intro p e s m below meth c hC hr hKL hZ hN htab
  refine gc_cast (L2 := [(0, .ref (ad 0)), (1, .int a1), (2, .int a2), (3, .int a3), (4, .ref oa)]) (ws2 := ([gl_out cL oa ov] ++ gq_ws cI cZ ad C 0 mtC)) ?_ rfl rfl rfl rfl rfl rfl
  refine gl_aload hC 4 rfl dL_settle_0 ?_
  refine gc_iconst (v := 0) hC (by decide) dL_settle_2 ?_
  refine gc_aload_n hC 0 rfl rfl dL_settle_3 ?_
  refine gc_iload_n hC 1 rfl rfl dL_settle_4 ?_
  refine gc_iload_n hC 2 rfl rfl dL_settle_5 ?_
  refine gc_iload_n hC 3 rfl rfl dL_settle_6 ?_
  unfold fh_L_settle at h
  obtain ⟨e9, v, C1, c1, h⟩ := gq_y_i h
  refine gl_Xi (q := 0) (as := [.int a1, .int a2, .int a3]) hC hZ (t_X9_settle hl9 N _ _ _ _ _ _ _ c1) mV_X9_settle wm_L_71 obC_0 rfl rfl (Nat.le_of_ble_eq_true rfl) ⟨by decide, by decide⟩ ⟨by decide, by decide⟩ dL_settle_7 (fun hx => ?_) (fun hx => ?_)
  · replace h := gq_t hx h
    refine gl_i2l hC dL_settle_10 ?_
    refine gl_last hC hKL dL_settle_11 ?_
    refine gl_goto (tgt := 23) hC (by decide) dL_settle_12 ?_
    refine gc_iconst (v := 0) hC (by decide) dL_settle_23 ?_
    cases h
    exact gl_iret hC hKL hr dL_settle_24 (by decide) (by decide)
  · replace h := gq_f hx h
    rcases gq_or h with ⟨c0, h⟩ | ⟨c0, h⟩
    · subst c0
      refine gl_catch (hh := [(0, 12, 15, 13), (0, 12, 19, 15)]) hC hZ htab [] ⟨0, 12, 15, 13⟩ [⟨0, 12, 19, 15⟩] rfl ((fun _ h => absurd h List.not_mem_nil)) (by decide) (by decide) wx_13 (fun q9 => ?_)
      refine gl_astore (L2 := [(5, .ref q9), (0, .ref (ad 0)), (1, .int a1), (2, .int a2), (3, .int a3), (4, .ref oa)]) hC (by decide) rfl dL_settle_15 ?_
      refine gc_iconst (v := 1) hC (by decide) dL_settle_17 ?_
      cases h
      exact gl_iret hC hKL hr dL_settle_18 (by decide) (by decide)
    rcases gq_or h with ⟨c1, h⟩ | ⟨c1, h⟩
    · subst c1
      refine gl_catch (hh := [(0, 12, 15, 13), (0, 12, 19, 15)]) hC hZ htab [⟨0, 12, 15, 13⟩] ⟨0, 12, 19, 15⟩ [] rfl (List.forall_mem_cons.mpr ⟨⟨by decide, 1, wx_13, hN 2 1 (by decide) (by decide) (by decide) (by decide) (by decide)⟩, (fun _ h => absurd h List.not_mem_nil)⟩) (by decide) (by decide) wx_15 (fun q9 => ?_)
      refine gl_astore (L2 := [(5, .ref q9), (0, .ref (ad 0)), (1, .int a1), (2, .int a2), (3, .int a3), (4, .ref oa)]) hC (by decide) rfl dL_settle_19 ?_
      refine gc_iconst (v := 2) hC (by decide) dL_settle_21 ?_
      cases h
      exact gl_iret hC hKL hr dL_settle_22 (by decide) (by decide)
    cases h
def fh_L_told (N : Nat) (a1 : Int32) (a2 : Int32) (C : gq_M) (ov : Int64) : Option (Int32 × Int64 × gq_M) := gq_y (f_X9_told N a1 a2 C) fun e v C1 => if e = 0 then (some (0, (v : Int32).toInt64, C1)) else if e = 1 then (some (1, ov, C1)) else if e = 2 then (some (2, ov, C1)) else none
set_option maxHeartbeats 1000000 in
set_option maxRecDepth 20000 in
theorem h_L_told {l : Launch} (hl9 : l.stackTraces = false) {D : va_G} {cI cZ cL : ClassId} {ad : Nat → Nat} (N : Nat) (oa : Nat) (a1 : Int32) (a2 : Int32) (C : gq_M) (ov ov9 : Int64) (k9 : Int32) (C9 : gq_M) (h : fh_L_told N a1 a2 C ov = some (k9, ov9, C9)) : gl_Ct l D cI cZ cL yL_told cL_told 5 [(0, 10, 13, 13), (0, 10, 17, 15)] 8 [.ref (ad 0), .int a1, .int a2, .ref oa] (gl_out cL oa ov :: gq_ws cI cZ ad C 0 mtC) k9 (gl_out cL oa ov9 :: gq_ws cI cZ ad C9 0 mtC) := by
  refine gl_intro (own := RL) (by decide) rfl (Nat.le_of_ble_eq_true rfl) ?_
  intro p e s m below meth c hC hr hKL hZ hN htab
  refine gc_cast (L2 := [(0, .ref (ad 0)), (1, .int a1), (2, .int a2), (3, .ref oa)]) (ws2 := ([gl_out cL oa ov] ++ gq_ws cI cZ ad C 0 mtC)) ?_ rfl rfl rfl rfl rfl rfl
  refine gc_aload_n hC 3 rfl rfl dL_told_0 ?_
  refine gc_iconst (v := 0) hC (by decide) dL_told_1 ?_
  refine gc_aload_n hC 0 rfl rfl dL_told_2 ?_
  refine gc_iload_n hC 1 rfl rfl dL_told_3 ?_
  refine gc_iload_n hC 2 rfl rfl dL_told_4 ?_
  unfold fh_L_told at h
  obtain ⟨e9, v, C1, c1, h⟩ := gq_y_i h
  refine gl_Xi (q := 0) (as := [.int a1, .int a2]) hC hZ (t_X9_told hl9 N _ _ _ _ _ _ c1) mV_X9_told wm_L_74 obC_0 rfl rfl (Nat.le_of_ble_eq_true rfl) ⟨by decide, by decide⟩ ⟨by decide, by decide⟩ dL_told_5 (fun hx => ?_) (fun hx => ?_)
  · replace h := gq_t hx h
    refine gl_i2l hC dL_told_8 ?_
    refine gl_last hC hKL dL_told_9 ?_
    refine gl_goto (tgt := 21) hC (by decide) dL_told_10 ?_
    refine gc_iconst (v := 0) hC (by decide) dL_told_21 ?_
    cases h
    exact gl_iret hC hKL hr dL_told_22 (by decide) (by decide)
  · replace h := gq_f hx h
    rcases gq_or h with ⟨c0, h⟩ | ⟨c0, h⟩
    · subst c0
      refine gl_catch (hh := [(0, 10, 13, 13), (0, 10, 17, 15)]) hC hZ htab [] ⟨0, 10, 13, 13⟩ [⟨0, 10, 17, 15⟩] rfl ((fun _ h => absurd h List.not_mem_nil)) (by decide) (by decide) wx_13 (fun q9 => ?_)
      refine gl_astore (L2 := [(4, .ref q9), (0, .ref (ad 0)), (1, .int a1), (2, .int a2), (3, .ref oa)]) hC (by decide) rfl dL_told_13 ?_
      refine gc_iconst (v := 1) hC (by decide) dL_told_15 ?_
      cases h
      exact gl_iret hC hKL hr dL_told_16 (by decide) (by decide)
    rcases gq_or h with ⟨c1, h⟩ | ⟨c1, h⟩
    · subst c1
      refine gl_catch (hh := [(0, 10, 13, 13), (0, 10, 17, 15)]) hC hZ htab [⟨0, 10, 13, 13⟩] ⟨0, 10, 17, 15⟩ [] rfl (List.forall_mem_cons.mpr ⟨⟨by decide, 1, wx_13, hN 2 1 (by decide) (by decide) (by decide) (by decide) (by decide)⟩, (fun _ h => absurd h List.not_mem_nil)⟩) (by decide) (by decide) wx_15 (fun q9 => ?_)
      refine gl_astore (L2 := [(4, .ref q9), (0, .ref (ad 0)), (1, .int a1), (2, .int a2), (3, .ref oa)]) hC (by decide) rfl dL_told_17 ?_
      refine gc_iconst (v := 2) hC (by decide) dL_told_19 ?_
      cases h
      exact gl_iret hC hKL hr dL_told_20 (by decide) (by decide)
    cases h
def fh_L_lot (N : Nat) (a1 : Int32) (a2 : Int32) (C : gq_M) (ov : Int64) : Option (Int32 × Int64 × gq_M) := gq_y (f_X9_lot N a1 a2 C) fun e v C1 => if e = 0 then (some (0, (v : Int32).toInt64, C1)) else if e = 1 then (some (1, ov, C1)) else if e = 2 then (some (2, ov, C1)) else none
set_option maxHeartbeats 1000000 in
set_option maxRecDepth 20000 in
theorem h_L_lot {l : Launch} (hl9 : l.stackTraces = false) {D : va_G} {cI cZ cL : ClassId} {ad : Nat → Nat} (N : Nat) (oa : Nat) (a1 : Int32) (a2 : Int32) (C : gq_M) (ov ov9 : Int64) (k9 : Int32) (C9 : gq_M) (h : fh_L_lot N a1 a2 C ov = some (k9, ov9, C9)) : gl_Ct l D cI cZ cL yL_lot cL_lot 5 [(0, 10, 13, 13), (0, 10, 17, 15)] 8 [.ref (ad 0), .int a1, .int a2, .ref oa] (gl_out cL oa ov :: gq_ws cI cZ ad C 0 mtC) k9 (gl_out cL oa ov9 :: gq_ws cI cZ ad C9 0 mtC) := by
  refine gl_intro (own := RL) (by decide) rfl (Nat.le_of_ble_eq_true rfl) ?_
  intro p e s m below meth c hC hr hKL hZ hN htab
  refine gc_cast (L2 := [(0, .ref (ad 0)), (1, .int a1), (2, .int a2), (3, .ref oa)]) (ws2 := ([gl_out cL oa ov] ++ gq_ws cI cZ ad C 0 mtC)) ?_ rfl rfl rfl rfl rfl rfl
  refine gc_aload_n hC 3 rfl rfl dL_lot_0 ?_
  refine gc_iconst (v := 0) hC (by decide) dL_lot_1 ?_
  refine gc_aload_n hC 0 rfl rfl dL_lot_2 ?_
  refine gc_iload_n hC 1 rfl rfl dL_lot_3 ?_
  refine gc_iload_n hC 2 rfl rfl dL_lot_4 ?_
  unfold fh_L_lot at h
  obtain ⟨e9, v, C1, c1, h⟩ := gq_y_i h
  refine gl_Xi (q := 0) (as := [.int a1, .int a2]) hC hZ (t_X9_lot hl9 N _ _ _ _ _ _ c1) mV_X9_lot wm_L_77 obC_0 rfl rfl (Nat.le_of_ble_eq_true rfl) ⟨by decide, by decide⟩ ⟨by decide, by decide⟩ dL_lot_5 (fun hx => ?_) (fun hx => ?_)
  · replace h := gq_t hx h
    refine gl_i2l hC dL_lot_8 ?_
    refine gl_last hC hKL dL_lot_9 ?_
    refine gl_goto (tgt := 21) hC (by decide) dL_lot_10 ?_
    refine gc_iconst (v := 0) hC (by decide) dL_lot_21 ?_
    cases h
    exact gl_iret hC hKL hr dL_lot_22 (by decide) (by decide)
  · replace h := gq_f hx h
    rcases gq_or h with ⟨c0, h⟩ | ⟨c0, h⟩
    · subst c0
      refine gl_catch (hh := [(0, 10, 13, 13), (0, 10, 17, 15)]) hC hZ htab [] ⟨0, 10, 13, 13⟩ [⟨0, 10, 17, 15⟩] rfl ((fun _ h => absurd h List.not_mem_nil)) (by decide) (by decide) wx_13 (fun q9 => ?_)
      refine gl_astore (L2 := [(4, .ref q9), (0, .ref (ad 0)), (1, .int a1), (2, .int a2), (3, .ref oa)]) hC (by decide) rfl dL_lot_13 ?_
      refine gc_iconst (v := 1) hC (by decide) dL_lot_15 ?_
      cases h
      exact gl_iret hC hKL hr dL_lot_16 (by decide) (by decide)
    rcases gq_or h with ⟨c1, h⟩ | ⟨c1, h⟩
    · subst c1
      refine gl_catch (hh := [(0, 10, 13, 13), (0, 10, 17, 15)]) hC hZ htab [⟨0, 10, 13, 13⟩] ⟨0, 10, 17, 15⟩ [] rfl (List.forall_mem_cons.mpr ⟨⟨by decide, 1, wx_13, hN 2 1 (by decide) (by decide) (by decide) (by decide) (by decide)⟩, (fun _ h => absurd h List.not_mem_nil)⟩) (by decide) (by decide) wx_15 (fun q9 => ?_)
      refine gl_astore (L2 := [(4, .ref q9), (0, .ref (ad 0)), (1, .int a1), (2, .int a2), (3, .ref oa)]) hC (by decide) rfl dL_lot_17 ?_
      refine gc_iconst (v := 2) hC (by decide) dL_lot_19 ?_
      cases h
      exact gl_iret hC hKL hr dL_lot_20 (by decide) (by decide)
    cases h
def fh_L_hall (N : Nat) (a1 : Int32) (a2 : Int32) (C : gq_M) (ov : Int64) : Option (Int32 × Int64 × gq_M) := gq_y (f_X9_hall N a1 a2 C) fun e v C1 => if e = 0 then (some (0, (v : Int32).toInt64, C1)) else if e = 1 then (some (1, ov, C1)) else if e = 2 then (some (2, ov, C1)) else none
set_option maxHeartbeats 1000000 in
set_option maxRecDepth 20000 in
theorem h_L_hall {l : Launch} (hl9 : l.stackTraces = false) {D : va_G} {cI cZ cL : ClassId} {ad : Nat → Nat} (N : Nat) (oa : Nat) (a1 : Int32) (a2 : Int32) (C : gq_M) (ov ov9 : Int64) (k9 : Int32) (C9 : gq_M) (h : fh_L_hall N a1 a2 C ov = some (k9, ov9, C9)) : gl_Ct l D cI cZ cL yL_hall cL_hall 5 [(0, 10, 13, 13), (0, 10, 17, 15)] 8 [.ref (ad 0), .int a1, .int a2, .ref oa] (gl_out cL oa ov :: gq_ws cI cZ ad C 0 mtC) k9 (gl_out cL oa ov9 :: gq_ws cI cZ ad C9 0 mtC) := by
  refine gl_intro (own := RL) (by decide) rfl (Nat.le_of_ble_eq_true rfl) ?_
  intro p e s m below meth c hC hr hKL hZ hN htab
  refine gc_cast (L2 := [(0, .ref (ad 0)), (1, .int a1), (2, .int a2), (3, .ref oa)]) (ws2 := ([gl_out cL oa ov] ++ gq_ws cI cZ ad C 0 mtC)) ?_ rfl rfl rfl rfl rfl rfl
  refine gc_aload_n hC 3 rfl rfl dL_hall_0 ?_
  refine gc_iconst (v := 0) hC (by decide) dL_hall_1 ?_
  refine gc_aload_n hC 0 rfl rfl dL_hall_2 ?_
  refine gc_iload_n hC 1 rfl rfl dL_hall_3 ?_
  refine gc_iload_n hC 2 rfl rfl dL_hall_4 ?_
  unfold fh_L_hall at h
  obtain ⟨e9, v, C1, c1, h⟩ := gq_y_i h
  refine gl_Xi (q := 0) (as := [.int a1, .int a2]) hC hZ (t_X9_hall hl9 N _ _ _ _ _ _ c1) mV_X9_hall wm_L_80 obC_0 rfl rfl (Nat.le_of_ble_eq_true rfl) ⟨by decide, by decide⟩ ⟨by decide, by decide⟩ dL_hall_5 (fun hx => ?_) (fun hx => ?_)
  · replace h := gq_t hx h
    refine gl_i2l hC dL_hall_8 ?_
    refine gl_last hC hKL dL_hall_9 ?_
    refine gl_goto (tgt := 21) hC (by decide) dL_hall_10 ?_
    refine gc_iconst (v := 0) hC (by decide) dL_hall_21 ?_
    cases h
    exact gl_iret hC hKL hr dL_hall_22 (by decide) (by decide)
  · replace h := gq_f hx h
    rcases gq_or h with ⟨c0, h⟩ | ⟨c0, h⟩
    · subst c0
      refine gl_catch (hh := [(0, 10, 13, 13), (0, 10, 17, 15)]) hC hZ htab [] ⟨0, 10, 13, 13⟩ [⟨0, 10, 17, 15⟩] rfl ((fun _ h => absurd h List.not_mem_nil)) (by decide) (by decide) wx_13 (fun q9 => ?_)
      refine gl_astore (L2 := [(4, .ref q9), (0, .ref (ad 0)), (1, .int a1), (2, .int a2), (3, .ref oa)]) hC (by decide) rfl dL_hall_13 ?_
      refine gc_iconst (v := 1) hC (by decide) dL_hall_15 ?_
      cases h
      exact gl_iret hC hKL hr dL_hall_16 (by decide) (by decide)
    rcases gq_or h with ⟨c1, h⟩ | ⟨c1, h⟩
    · subst c1
      refine gl_catch (hh := [(0, 10, 13, 13), (0, 10, 17, 15)]) hC hZ htab [⟨0, 10, 13, 13⟩] ⟨0, 10, 17, 15⟩ [] rfl (List.forall_mem_cons.mpr ⟨⟨by decide, 1, wx_13, hN 2 1 (by decide) (by decide) (by decide) (by decide) (by decide)⟩, (fun _ h => absurd h List.not_mem_nil)⟩) (by decide) (by decide) wx_15 (fun q9 => ?_)
      refine gl_astore (L2 := [(4, .ref q9), (0, .ref (ad 0)), (1, .int a1), (2, .int a2), (3, .ref oa)]) hC (by decide) rfl dL_hall_17 ?_
      refine gc_iconst (v := 2) hC (by decide) dL_hall_19 ?_
      cases h
      exact gl_iret hC hKL hr dL_hall_20 (by decide) (by decide)
    cases h
def fh_L_account (N : Nat) (a1 : Int32) (a2 : Int32) (C : gq_M) (ov : Int64) : Option (Int32 × Int64 × gq_M) := gq_y (f_X9_account N a1 a2 C) fun e v C1 => if e = 0 then (some (0, (v : Int32).toInt64, C1)) else if e = 1 then (some (1, ov, C1)) else if e = 2 then (some (2, ov, C1)) else none
set_option maxHeartbeats 1000000 in
set_option maxRecDepth 20000 in
theorem h_L_account {l : Launch} (hl9 : l.stackTraces = false) {D : va_G} {cI cZ cL : ClassId} {ad : Nat → Nat} (N : Nat) (oa : Nat) (a1 : Int32) (a2 : Int32) (C : gq_M) (ov ov9 : Int64) (k9 : Int32) (C9 : gq_M) (h : fh_L_account N a1 a2 C ov = some (k9, ov9, C9)) : gl_Ct l D cI cZ cL yL_account cL_account 5 [(0, 10, 13, 13), (0, 10, 17, 15)] 8 [.ref (ad 0), .int a1, .int a2, .ref oa] (gl_out cL oa ov :: gq_ws cI cZ ad C 0 mtC) k9 (gl_out cL oa ov9 :: gq_ws cI cZ ad C9 0 mtC) := by
  refine gl_intro (own := RL) (by decide) rfl (Nat.le_of_ble_eq_true rfl) ?_
  intro p e s m below meth c hC hr hKL hZ hN htab
  refine gc_cast (L2 := [(0, .ref (ad 0)), (1, .int a1), (2, .int a2), (3, .ref oa)]) (ws2 := ([gl_out cL oa ov] ++ gq_ws cI cZ ad C 0 mtC)) ?_ rfl rfl rfl rfl rfl rfl
  refine gc_aload_n hC 3 rfl rfl dL_account_0 ?_
  refine gc_iconst (v := 0) hC (by decide) dL_account_1 ?_
  refine gc_aload_n hC 0 rfl rfl dL_account_2 ?_
  refine gc_iload_n hC 1 rfl rfl dL_account_3 ?_
  refine gc_iload_n hC 2 rfl rfl dL_account_4 ?_
  unfold fh_L_account at h
  obtain ⟨e9, v, C1, c1, h⟩ := gq_y_i h
  refine gl_Xi (q := 0) (as := [.int a1, .int a2]) hC hZ (t_X9_account hl9 N _ _ _ _ _ _ c1) mV_X9_account wm_L_83 obC_0 rfl rfl (Nat.le_of_ble_eq_true rfl) ⟨by decide, by decide⟩ ⟨by decide, by decide⟩ dL_account_5 (fun hx => ?_) (fun hx => ?_)
  · replace h := gq_t hx h
    refine gl_i2l hC dL_account_8 ?_
    refine gl_last hC hKL dL_account_9 ?_
    refine gl_goto (tgt := 21) hC (by decide) dL_account_10 ?_
    refine gc_iconst (v := 0) hC (by decide) dL_account_21 ?_
    cases h
    exact gl_iret hC hKL hr dL_account_22 (by decide) (by decide)
  · replace h := gq_f hx h
    rcases gq_or h with ⟨c0, h⟩ | ⟨c0, h⟩
    · subst c0
      refine gl_catch (hh := [(0, 10, 13, 13), (0, 10, 17, 15)]) hC hZ htab [] ⟨0, 10, 13, 13⟩ [⟨0, 10, 17, 15⟩] rfl ((fun _ h => absurd h List.not_mem_nil)) (by decide) (by decide) wx_13 (fun q9 => ?_)
      refine gl_astore (L2 := [(4, .ref q9), (0, .ref (ad 0)), (1, .int a1), (2, .int a2), (3, .ref oa)]) hC (by decide) rfl dL_account_13 ?_
      refine gc_iconst (v := 1) hC (by decide) dL_account_15 ?_
      cases h
      exact gl_iret hC hKL hr dL_account_16 (by decide) (by decide)
    rcases gq_or h with ⟨c1, h⟩ | ⟨c1, h⟩
    · subst c1
      refine gl_catch (hh := [(0, 10, 13, 13), (0, 10, 17, 15)]) hC hZ htab [⟨0, 10, 13, 13⟩] ⟨0, 10, 17, 15⟩ [] rfl (List.forall_mem_cons.mpr ⟨⟨by decide, 1, wx_13, hN 2 1 (by decide) (by decide) (by decide) (by decide) (by decide)⟩, (fun _ h => absurd h List.not_mem_nil)⟩) (by decide) (by decide) wx_15 (fun q9 => ?_)
      refine gl_astore (L2 := [(4, .ref q9), (0, .ref (ad 0)), (1, .int a1), (2, .int a2), (3, .ref oa)]) hC (by decide) rfl dL_account_17 ?_
      refine gc_iconst (v := 2) hC (by decide) dL_account_19 ?_
      cases h
      exact gl_iret hC hKL hr dL_account_20 (by decide) (by decide)
    cases h
def fh_L_ship (N : Nat) (a1 : Int32) (a2 : Int32) (C : gq_M) (ov : Int64) : Option (Int32 × Int64 × gq_M) := gq_y (f_X9_ship N a1 a2 C) fun e v C1 => if e = 0 then (some (0, (v : Int32).toInt64, C1)) else if e = 1 then (some (1, ov, C1)) else if e = 2 then (some (2, ov, C1)) else none
set_option maxHeartbeats 1000000 in
set_option maxRecDepth 20000 in
theorem h_L_ship {l : Launch} (hl9 : l.stackTraces = false) {D : va_G} {cI cZ cL : ClassId} {ad : Nat → Nat} (N : Nat) (oa : Nat) (a1 : Int32) (a2 : Int32) (C : gq_M) (ov ov9 : Int64) (k9 : Int32) (C9 : gq_M) (h : fh_L_ship N a1 a2 C ov = some (k9, ov9, C9)) : gl_Ct l D cI cZ cL yL_ship cL_ship 5 [(0, 10, 13, 13), (0, 10, 17, 15)] 8 [.ref (ad 0), .int a1, .int a2, .ref oa] (gl_out cL oa ov :: gq_ws cI cZ ad C 0 mtC) k9 (gl_out cL oa ov9 :: gq_ws cI cZ ad C9 0 mtC) := by
  refine gl_intro (own := RL) (by decide) rfl (Nat.le_of_ble_eq_true rfl) ?_
  intro p e s m below meth c hC hr hKL hZ hN htab
  refine gc_cast (L2 := [(0, .ref (ad 0)), (1, .int a1), (2, .int a2), (3, .ref oa)]) (ws2 := ([gl_out cL oa ov] ++ gq_ws cI cZ ad C 0 mtC)) ?_ rfl rfl rfl rfl rfl rfl
  refine gc_aload_n hC 3 rfl rfl dL_ship_0 ?_
  refine gc_iconst (v := 0) hC (by decide) dL_ship_1 ?_
  refine gc_aload_n hC 0 rfl rfl dL_ship_2 ?_
  refine gc_iload_n hC 1 rfl rfl dL_ship_3 ?_
  refine gc_iload_n hC 2 rfl rfl dL_ship_4 ?_
  unfold fh_L_ship at h
  obtain ⟨e9, v, C1, c1, h⟩ := gq_y_i h
  refine gl_Xi (q := 0) (as := [.int a1, .int a2]) hC hZ (t_X9_ship hl9 N _ _ _ _ _ _ c1) mV_X9_ship wm_L_86 obC_0 rfl rfl (Nat.le_of_ble_eq_true rfl) ⟨by decide, by decide⟩ ⟨by decide, by decide⟩ dL_ship_5 (fun hx => ?_) (fun hx => ?_)
  · replace h := gq_t hx h
    refine gl_i2l hC dL_ship_8 ?_
    refine gl_last hC hKL dL_ship_9 ?_
    refine gl_goto (tgt := 21) hC (by decide) dL_ship_10 ?_
    refine gc_iconst (v := 0) hC (by decide) dL_ship_21 ?_
    cases h
    exact gl_iret hC hKL hr dL_ship_22 (by decide) (by decide)
  · replace h := gq_f hx h
    rcases gq_or h with ⟨c0, h⟩ | ⟨c0, h⟩
    · subst c0
      refine gl_catch (hh := [(0, 10, 13, 13), (0, 10, 17, 15)]) hC hZ htab [] ⟨0, 10, 13, 13⟩ [⟨0, 10, 17, 15⟩] rfl ((fun _ h => absurd h List.not_mem_nil)) (by decide) (by decide) wx_13 (fun q9 => ?_)
      refine gl_astore (L2 := [(4, .ref q9), (0, .ref (ad 0)), (1, .int a1), (2, .int a2), (3, .ref oa)]) hC (by decide) rfl dL_ship_13 ?_
      refine gc_iconst (v := 1) hC (by decide) dL_ship_15 ?_
      cases h
      exact gl_iret hC hKL hr dL_ship_16 (by decide) (by decide)
    rcases gq_or h with ⟨c1, h⟩ | ⟨c1, h⟩
    · subst c1
      refine gl_catch (hh := [(0, 10, 13, 13), (0, 10, 17, 15)]) hC hZ htab [⟨0, 10, 13, 13⟩] ⟨0, 10, 17, 15⟩ [] rfl (List.forall_mem_cons.mpr ⟨⟨by decide, 1, wx_13, hN 2 1 (by decide) (by decide) (by decide) (by decide) (by decide)⟩, (fun _ h => absurd h List.not_mem_nil)⟩) (by decide) (by decide) wx_15 (fun q9 => ?_)
      refine gl_astore (L2 := [(4, .ref q9), (0, .ref (ad 0)), (1, .int a1), (2, .int a2), (3, .ref oa)]) hC (by decide) rfl dL_ship_17 ?_
      refine gc_iconst (v := 2) hC (by decide) dL_ship_19 ?_
      cases h
      exact gl_iret hC hKL hr dL_ship_20 (by decide) (by decide)
    cases h
def fh_L_kilos (N : Nat) (a1 : Int32) (C : gq_M) (ov : Int64) : Option (Int32 × Int64 × gq_M) := gq_y (f_X9_kilos N a1 C) fun e v C1 => if e = 0 then (some (0, (v : Int32).toInt64, C1)) else if e = 2 then (some (1, ov, C1)) else none
set_option maxHeartbeats 1000000 in
set_option maxRecDepth 20000 in
theorem h_L_kilos {l : Launch} (hl9 : l.stackTraces = false) {D : va_G} {cI cZ cL : ClassId} {ad : Nat → Nat} (N : Nat) (oa : Nat) (a1 : Int32) (C : gq_M) (ov ov9 : Int64) (k9 : Int32) (C9 : gq_M) (h : fh_L_kilos N a1 C ov = some (k9, ov9, C9)) : gl_Ct l D cI cZ cL yL_kilos cL_kilos 4 [(0, 9, 12, 15)] 8 [.ref (ad 0), .int a1, .ref oa] (gl_out cL oa ov :: gq_ws cI cZ ad C 0 mtC) k9 (gl_out cL oa ov9 :: gq_ws cI cZ ad C9 0 mtC) := by
  refine gl_intro (own := RL) (by decide) rfl (Nat.le_of_ble_eq_true rfl) ?_
  intro p e s m below meth c hC hr hKL hZ hN htab
  refine gc_cast (L2 := [(0, .ref (ad 0)), (1, .int a1), (2, .ref oa)]) (ws2 := ([gl_out cL oa ov] ++ gq_ws cI cZ ad C 0 mtC)) ?_ rfl rfl rfl rfl rfl rfl
  refine gc_aload_n hC 2 rfl rfl dL_kilos_0 ?_
  refine gc_iconst (v := 0) hC (by decide) dL_kilos_1 ?_
  refine gc_aload_n hC 0 rfl rfl dL_kilos_2 ?_
  refine gc_iload_n hC 1 rfl rfl dL_kilos_3 ?_
  unfold fh_L_kilos at h
  obtain ⟨e9, v, C1, c1, h⟩ := gq_y_i h
  refine gl_Xi (q := 0) (as := [.int a1]) hC hZ (t_X9_kilos hl9 N _ _ _ _ _ c1) mV_X9_kilos wm_L_89 obC_0 rfl rfl (Nat.le_of_ble_eq_true rfl) ⟨by decide, by decide⟩ ⟨by decide, by decide⟩ dL_kilos_4 (fun hx => ?_) (fun hx => ?_)
  · replace h := gq_t hx h
    refine gl_i2l hC dL_kilos_7 ?_
    refine gl_last hC hKL dL_kilos_8 ?_
    refine gl_goto (tgt := 15) hC (by decide) dL_kilos_9 ?_
    refine gc_iconst (v := 0) hC (by decide) dL_kilos_15 ?_
    cases h
    exact gl_iret hC hKL hr dL_kilos_16 (by decide) (by decide)
  · replace h := gq_f hx h
    rcases gq_or h with ⟨c0, h⟩ | ⟨c0, h⟩
    · subst c0
      refine gl_catch (hh := [(0, 9, 12, 15)]) hC hZ htab [] ⟨0, 9, 12, 15⟩ [] rfl ((fun _ h => absurd h List.not_mem_nil)) (by decide) (by decide) wx_15 (fun q9 => ?_)
      refine gl_astore_n (L2 := [(3, .ref q9), (0, .ref (ad 0)), (1, .int a1), (2, .ref oa)]) hC rfl (by decide) rfl dL_kilos_12 ?_
      refine gc_iconst (v := 1) hC (by decide) dL_kilos_13 ?_
      cases h
      exact gl_iret hC hKL hr dL_kilos_14 (by decide) (by decide)
    cases h
def fh_L_kilosAnew (N : Nat) (a1 : Int32) (C : gq_M) (ov : Int64) : Option (Int32 × Int64 × gq_M) := gq_y (f_X9_kilosAnew N a1 C) fun e v C1 => if e = 0 then (some (0, (v : Int32).toInt64, C1)) else if e = 2 then (some (1, ov, C1)) else none
set_option maxHeartbeats 1000000 in
set_option maxRecDepth 20000 in
theorem h_L_kilosAnew {l : Launch} (hl9 : l.stackTraces = false) {D : va_G} {cI cZ cL : ClassId} {ad : Nat → Nat} (N : Nat) (oa : Nat) (a1 : Int32) (C : gq_M) (ov ov9 : Int64) (k9 : Int32) (C9 : gq_M) (h : fh_L_kilosAnew N a1 C ov = some (k9, ov9, C9)) : gl_Ct l D cI cZ cL yL_kilosAnew cL_kilosAnew 4 [(0, 9, 12, 15)] 8 [.ref (ad 0), .int a1, .ref oa] (gl_out cL oa ov :: gq_ws cI cZ ad C 0 mtC) k9 (gl_out cL oa ov9 :: gq_ws cI cZ ad C9 0 mtC) := by
  refine gl_intro (own := RL) (by decide) rfl (Nat.le_of_ble_eq_true rfl) ?_
  intro p e s m below meth c hC hr hKL hZ hN htab
  refine gc_cast (L2 := [(0, .ref (ad 0)), (1, .int a1), (2, .ref oa)]) (ws2 := ([gl_out cL oa ov] ++ gq_ws cI cZ ad C 0 mtC)) ?_ rfl rfl rfl rfl rfl rfl
  refine gc_aload_n hC 2 rfl rfl dL_kilosAnew_0 ?_
  refine gc_iconst (v := 0) hC (by decide) dL_kilosAnew_1 ?_
  refine gc_aload_n hC 0 rfl rfl dL_kilosAnew_2 ?_
  refine gc_iload_n hC 1 rfl rfl dL_kilosAnew_3 ?_
  unfold fh_L_kilosAnew at h
  obtain ⟨e9, v, C1, c1, h⟩ := gq_y_i h
  refine gl_Xi (q := 0) (as := [.int a1]) hC hZ (t_X9_kilosAnew hl9 N _ _ _ _ _ c1) mV_X9_kilosAnew wm_L_92 obC_0 rfl rfl (Nat.le_of_ble_eq_true rfl) ⟨by decide, by decide⟩ ⟨by decide, by decide⟩ dL_kilosAnew_4 (fun hx => ?_) (fun hx => ?_)
  · replace h := gq_t hx h
    refine gl_i2l hC dL_kilosAnew_7 ?_
    refine gl_last hC hKL dL_kilosAnew_8 ?_
    refine gl_goto (tgt := 15) hC (by decide) dL_kilosAnew_9 ?_
    refine gc_iconst (v := 0) hC (by decide) dL_kilosAnew_15 ?_
    cases h
    exact gl_iret hC hKL hr dL_kilosAnew_16 (by decide) (by decide)
  · replace h := gq_f hx h
    rcases gq_or h with ⟨c0, h⟩ | ⟨c0, h⟩
    · subst c0
      refine gl_catch (hh := [(0, 9, 12, 15)]) hC hZ htab [] ⟨0, 9, 12, 15⟩ [] rfl ((fun _ h => absurd h List.not_mem_nil)) (by decide) (by decide) wx_15 (fun q9 => ?_)
      refine gl_astore_n (L2 := [(3, .ref q9), (0, .ref (ad 0)), (1, .int a1), (2, .ref oa)]) hC rfl (by decide) rfl dL_kilosAnew_12 ?_
      refine gc_iconst (v := 1) hC (by decide) dL_kilosAnew_13 ?_
      cases h
      exact gl_iret hC hKL hr dL_kilosAnew_14 (by decide) (by decide)
    cases h
def fh_L_average (N : Nat) (a1 : Int32) (a2 : Int32) (C : gq_M) (ov : Int64) : Option (Int32 × Int64 × gq_M) := gq_y (f_X9_average N a1 a2 C) fun e v C1 => if e = 0 then (some (0, (v : Int32).toInt64, C1)) else if e = 1 then (some (1, ov, C1)) else if e = 2 then (some (2, ov, C1)) else none
set_option maxHeartbeats 1000000 in
set_option maxRecDepth 20000 in
theorem h_L_average {l : Launch} (hl9 : l.stackTraces = false) {D : va_G} {cI cZ cL : ClassId} {ad : Nat → Nat} (N : Nat) (oa : Nat) (a1 : Int32) (a2 : Int32) (C : gq_M) (ov ov9 : Int64) (k9 : Int32) (C9 : gq_M) (h : fh_L_average N a1 a2 C ov = some (k9, ov9, C9)) : gl_Ct l D cI cZ cL yL_average cL_average 5 [(0, 10, 13, 13), (0, 10, 17, 15)] 8 [.ref (ad 0), .int a1, .int a2, .ref oa] (gl_out cL oa ov :: gq_ws cI cZ ad C 0 mtC) k9 (gl_out cL oa ov9 :: gq_ws cI cZ ad C9 0 mtC) := by
  refine gl_intro (own := RL) (by decide) rfl (Nat.le_of_ble_eq_true rfl) ?_
  intro p e s m below meth c hC hr hKL hZ hN htab
  refine gc_cast (L2 := [(0, .ref (ad 0)), (1, .int a1), (2, .int a2), (3, .ref oa)]) (ws2 := ([gl_out cL oa ov] ++ gq_ws cI cZ ad C 0 mtC)) ?_ rfl rfl rfl rfl rfl rfl
  refine gc_aload_n hC 3 rfl rfl dL_average_0 ?_
  refine gc_iconst (v := 0) hC (by decide) dL_average_1 ?_
  refine gc_aload_n hC 0 rfl rfl dL_average_2 ?_
  refine gc_iload_n hC 1 rfl rfl dL_average_3 ?_
  refine gc_iload_n hC 2 rfl rfl dL_average_4 ?_
  unfold fh_L_average at h
  obtain ⟨e9, v, C1, c1, h⟩ := gq_y_i h
  refine gl_Xi (q := 0) (as := [.int a1, .int a2]) hC hZ (t_X9_average hl9 N _ _ _ _ _ _ c1) mV_X9_average wm_L_95 obC_0 rfl rfl (Nat.le_of_ble_eq_true rfl) ⟨by decide, by decide⟩ ⟨by decide, by decide⟩ dL_average_5 (fun hx => ?_) (fun hx => ?_)
  · replace h := gq_t hx h
    refine gl_i2l hC dL_average_8 ?_
    refine gl_last hC hKL dL_average_9 ?_
    refine gl_goto (tgt := 21) hC (by decide) dL_average_10 ?_
    refine gc_iconst (v := 0) hC (by decide) dL_average_21 ?_
    cases h
    exact gl_iret hC hKL hr dL_average_22 (by decide) (by decide)
  · replace h := gq_f hx h
    rcases gq_or h with ⟨c0, h⟩ | ⟨c0, h⟩
    · subst c0
      refine gl_catch (hh := [(0, 10, 13, 13), (0, 10, 17, 15)]) hC hZ htab [] ⟨0, 10, 13, 13⟩ [⟨0, 10, 17, 15⟩] rfl ((fun _ h => absurd h List.not_mem_nil)) (by decide) (by decide) wx_13 (fun q9 => ?_)
      refine gl_astore (L2 := [(4, .ref q9), (0, .ref (ad 0)), (1, .int a1), (2, .int a2), (3, .ref oa)]) hC (by decide) rfl dL_average_13 ?_
      refine gc_iconst (v := 1) hC (by decide) dL_average_15 ?_
      cases h
      exact gl_iret hC hKL hr dL_average_16 (by decide) (by decide)
    rcases gq_or h with ⟨c1, h⟩ | ⟨c1, h⟩
    · subst c1
      refine gl_catch (hh := [(0, 10, 13, 13), (0, 10, 17, 15)]) hC hZ htab [⟨0, 10, 13, 13⟩] ⟨0, 10, 17, 15⟩ [] rfl (List.forall_mem_cons.mpr ⟨⟨by decide, 1, wx_13, hN 2 1 (by decide) (by decide) (by decide) (by decide) (by decide)⟩, (fun _ h => absurd h List.not_mem_nil)⟩) (by decide) (by decide) wx_15 (fun q9 => ?_)
      refine gl_astore (L2 := [(4, .ref q9), (0, .ref (ad 0)), (1, .int a1), (2, .int a2), (3, .ref oa)]) hC (by decide) rfl dL_average_17 ?_
      refine gc_iconst (v := 2) hC (by decide) dL_average_19 ?_
      cases h
      exact gl_iret hC hKL hr dL_average_20 (by decide) (by decide)
    cases h
def fh_L_loaded (N : Nat) (a1 : Int32) (C : gq_M) (ov : Int64) : Option (Int32 × Int64 × gq_M) := gq_y (f_X9_loaded N a1 C) fun e v C1 => if e = 0 then (some (0, (v : Int32).toInt64, C1)) else if e = 1 then (some (1, ov, C1)) else none
set_option maxHeartbeats 1000000 in
set_option maxRecDepth 20000 in
theorem h_L_loaded {l : Launch} (hl9 : l.stackTraces = false) {D : va_G} {cI cZ cL : ClassId} {ad : Nat → Nat} (N : Nat) (oa : Nat) (a1 : Int32) (C : gq_M) (ov ov9 : Int64) (k9 : Int32) (C9 : gq_M) (h : fh_L_loaded N a1 C ov = some (k9, ov9, C9)) : gl_Ct l D cI cZ cL yL_loaded cL_loaded 4 [(0, 9, 12, 13)] 8 [.ref (ad 0), .int a1, .ref oa] (gl_out cL oa ov :: gq_ws cI cZ ad C 0 mtC) k9 (gl_out cL oa ov9 :: gq_ws cI cZ ad C9 0 mtC) := by
  refine gl_intro (own := RL) (by decide) rfl (Nat.le_of_ble_eq_true rfl) ?_
  intro p e s m below meth c hC hr hKL hZ hN htab
  refine gc_cast (L2 := [(0, .ref (ad 0)), (1, .int a1), (2, .ref oa)]) (ws2 := ([gl_out cL oa ov] ++ gq_ws cI cZ ad C 0 mtC)) ?_ rfl rfl rfl rfl rfl rfl
  refine gc_aload_n hC 2 rfl rfl dL_loaded_0 ?_
  refine gc_iconst (v := 0) hC (by decide) dL_loaded_1 ?_
  refine gc_aload_n hC 0 rfl rfl dL_loaded_2 ?_
  refine gc_iload_n hC 1 rfl rfl dL_loaded_3 ?_
  unfold fh_L_loaded at h
  obtain ⟨e9, v, C1, c1, h⟩ := gq_y_i h
  refine gl_Xi (q := 0) (as := [.int a1]) hC hZ (t_X9_loaded hl9 N _ _ _ _ _ c1) mV_X9_loaded wm_L_98 obC_0 rfl rfl (Nat.le_of_ble_eq_true rfl) ⟨by decide, by decide⟩ ⟨by decide, by decide⟩ dL_loaded_4 (fun hx => ?_) (fun hx => ?_)
  · replace h := gq_t hx h
    refine gl_i2l hC dL_loaded_7 ?_
    refine gl_last hC hKL dL_loaded_8 ?_
    refine gl_goto (tgt := 15) hC (by decide) dL_loaded_9 ?_
    refine gc_iconst (v := 0) hC (by decide) dL_loaded_15 ?_
    cases h
    exact gl_iret hC hKL hr dL_loaded_16 (by decide) (by decide)
  · replace h := gq_f hx h
    rcases gq_or h with ⟨c0, h⟩ | ⟨c0, h⟩
    · subst c0
      refine gl_catch (hh := [(0, 9, 12, 13)]) hC hZ htab [] ⟨0, 9, 12, 13⟩ [] rfl ((fun _ h => absurd h List.not_mem_nil)) (by decide) (by decide) wx_13 (fun q9 => ?_)
      refine gl_astore_n (L2 := [(3, .ref q9), (0, .ref (ad 0)), (1, .int a1), (2, .ref oa)]) hC rfl (by decide) rfl dL_loaded_12 ?_
      refine gc_iconst (v := 1) hC (by decide) dL_loaded_13 ?_
      cases h
      exact gl_iret hC hKL hr dL_loaded_14 (by decide) (by decide)
    cases h
