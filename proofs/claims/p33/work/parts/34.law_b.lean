section
variable {p : Program} {l : Launch} {e : Env} {s : State} {m : MethodId} {args : Array Value} {below : List Frame} {meth : Method} {c : Code} {Q : State → Prop} {D : va_G} {A : Nat → Prop} {cI cZ : ClassId} {ad : Nat → Nat}
theorem does_t1 {v9 : Int32} {M M9 : gq_M} {pc : Nat} {L : List (Nat × Value)} {st : List Value} (hC : gq_C p s m args meth c D A cI cZ ad mtL RL cL_does 9) (hr : meth.sig.returnType = some .int) (hZ : gq_Zn A s) (htab : c.exceptionTable.toList = tableOf [(0, 360, 361, 82), (0, 360, 366, 85), (0, 360, 371, 88)]) (hv0 : covers (⟨0, 360, 361, 82⟩ : ExceptionTableEntry) pc = true) (hv1 : covers (⟨0, 360, 366, 85⟩ : ExceptionTableEntry) pc = true) (hv2 : covers (⟨0, 360, 371, 88⟩ : ExceptionTableEntry) pc = true) (h : some ((-300000000 : Int32), M) = some (v9, M9)) : gq_Tw p l e (gq_rl 9 1 6) s m args below meth c D A cI cZ ad mtL 9 (gq_NQ below D cI cZ ad mtL v9 M9 args s 1 6 A) pc L st 1 M (0 + gq_xc 1) (0 + gq_xs 1) := by
  refine g_catch (hh := [(0, 360, 361, 82), (0, 360, 366, 85), (0, 360, 371, 88)]) hC hZ.1 htab [] ⟨0, 360, 361, 82⟩ [⟨0, 360, 366, 85⟩, ⟨0, 360, 371, 88⟩] rfl ((fun _ h => absurd h List.not_mem_nil)) hv0 (by decide) wx_82 (fun q9 => ?_)
  refine g_astore hC (by decide) rfl dL_does_361 ?_
  refine g_ldc (v := -300000000) hC wk_L_84 dL_does_363 ?_
  exact g_iretsN hC (by decide) (by decide) hr h dL_does_365
theorem does_t2 {v9 : Int32} {M M9 : gq_M} {pc : Nat} {L : List (Nat × Value)} {st : List Value} (hC : gq_C p s m args meth c D A cI cZ ad mtL RL cL_does 9) (hr : meth.sig.returnType = some .int) (hZ : gq_Zn A s) (htab : c.exceptionTable.toList = tableOf [(0, 360, 361, 82), (0, 360, 366, 85), (0, 360, 371, 88)]) (hv0 : covers (⟨0, 360, 361, 82⟩ : ExceptionTableEntry) pc = true) (hv1 : covers (⟨0, 360, 366, 85⟩ : ExceptionTableEntry) pc = true) (hv2 : covers (⟨0, 360, 371, 88⟩ : ExceptionTableEntry) pc = true) (h : some ((-200000000 : Int32), M) = some (v9, M9)) : gq_Tw p l e (gq_rl 9 1 6) s m args below meth c D A cI cZ ad mtL 9 (gq_NQ below D cI cZ ad mtL v9 M9 args s 1 6 A) pc L st 2 M (0 + gq_xc 2) (0 + gq_xs 2) := by
  refine g_catch (hh := [(0, 360, 361, 82), (0, 360, 366, 85), (0, 360, 371, 88)]) hC hZ.1 htab [⟨0, 360, 361, 82⟩] ⟨0, 360, 366, 85⟩ [⟨0, 360, 371, 88⟩] rfl (List.forall_mem_cons.mpr ⟨⟨by decide, 1, wx_82, hZ.2 2 1 (by decide) (by decide) (by decide) (by decide) (by decide)⟩, (fun _ h => absurd h List.not_mem_nil)⟩) hv1 (by decide) wx_85 (fun q9 => ?_)
  refine g_astore hC (by decide) rfl dL_does_366 ?_
  refine g_ldc (v := -200000000) hC wk_L_87 dL_does_368 ?_
  exact g_iretsN hC (by decide) (by decide) hr h dL_does_370
theorem does_t3 {v9 : Int32} {M M9 : gq_M} {pc : Nat} {L : List (Nat × Value)} {st : List Value} (hC : gq_C p s m args meth c D A cI cZ ad mtL RL cL_does 9) (hr : meth.sig.returnType = some .int) (hZ : gq_Zn A s) (htab : c.exceptionTable.toList = tableOf [(0, 360, 361, 82), (0, 360, 366, 85), (0, 360, 371, 88)]) (hv0 : covers (⟨0, 360, 361, 82⟩ : ExceptionTableEntry) pc = true) (hv1 : covers (⟨0, 360, 366, 85⟩ : ExceptionTableEntry) pc = true) (hv2 : covers (⟨0, 360, 371, 88⟩ : ExceptionTableEntry) pc = true) (h : some ((-100000000 : Int32), M) = some (v9, M9)) : gq_Tw p l e (gq_rl 9 1 6) s m args below meth c D A cI cZ ad mtL 9 (gq_NQ below D cI cZ ad mtL v9 M9 args s 1 6 A) pc L st 3 M (0 + gq_xc 3) (0 + gq_xs 3) := by
  refine g_catch (hh := [(0, 360, 361, 82), (0, 360, 366, 85), (0, 360, 371, 88)]) hC hZ.1 htab [⟨0, 360, 361, 82⟩, ⟨0, 360, 366, 85⟩] ⟨0, 360, 371, 88⟩ [] rfl (List.forall_mem_cons.mpr ⟨⟨by decide, 1, wx_82, hZ.2 3 1 (by decide) (by decide) (by decide) (by decide) (by decide)⟩, List.forall_mem_cons.mpr ⟨⟨by decide, 2, wx_85, hZ.2 3 2 (by decide) (by decide) (by decide) (by decide) (by decide)⟩, (fun _ h => absurd h List.not_mem_nil)⟩⟩) hv2 (by decide) wx_88 (fun q9 => ?_)
  refine g_astore hC (by decide) rfl dL_does_371 ?_
  refine g_ldc (v := -100000000) hC wk_L_90 dL_does_373 ?_
  exact g_iretsN hC (by decide) (by decide) hr h dL_does_375
def f_L_told (N : Nat) (a1 : Int32) (a2 : Int32) (a3 : Int32) (a4 : Int32) (M : gq_M) : Option (Nat × Int32 × gq_M) :=
  gq_x3 (fun C9 => mrg 109 C9 M) (f_X9_kind N a1 a2 a3 a4 M) fun v1 Cv1 => gq_l (mrg 109 Cv1 M) fun M4 => some (0, 0, M4)
set_option maxHeartbeats 1000000 in
set_option maxRecDepth 20000 in
theorem t_L_told {l : Launch} (hl9 : l.stackTraces = false) {D : va_G} {cI cZ : ClassId} {ad : Nat → Nat} (N : Nat) (a1 : Int32) (a2 : Int32) (a3 : Int32) (a4 : Int32) (M : gq_M) (ex9 : Nat) (v9 : Int32) (M9 : gq_M) (h : f_L_told N a1 a2 a3 a4 M = some (ex9, v9, M9)) : gq_Xi l D cI cZ ad mtL yL_told cL_told 5 (some .int) 8 [.ref (ad 0), .int a1, .int a2, .int a3, .int a4] M ex9 v9 M9 := by
  refine gq_introXi (own := RL) (v := v9) (by decide) rfl (Nat.le_of_ble_eq_true rfl) ?_
  intro p e s m below meth c hC hr hZ htb
  refine g_cast (L2 := [(0, .ref (ad 0)), (1, .int a1), (2, .int a2), (3, .int a3), (4, .int a4)]) ?_ rfl rfl rfl rfl
  unfold f_L_told at h
  refine g_aload_n hC 0 rfl rfl dL_told_0 ?_
  refine g_iload_n hC 1 rfl rfl dL_told_1 ?_
  refine g_iload_n hC 2 rfl rfl dL_told_2 ?_
  refine g_iload_n hC 3 rfl rfl dL_told_3 ?_
  refine g_iload hC 4 rfl dL_told_4 ?_
  rcases gq_x3_i h with ⟨v1, Cv1, c2, h⟩ | ⟨k3, v1, Cv1, c2, h⟩
  rotate_left
  · refine g_LXv (mt1 := mtC) (mt2 := mtA) (as := [.int a1, .int a2, .int a3, .int a4]) hC hZ (t_X9_kind hl9 N _ _ _ _ _ _ _ _ c2) mV_X9_kind wm_L_91 obC_0 rfl rfl (Nat.le_of_ble_eq_true rfl) ⟨Nat.le_of_ble_eq_true rfl, Nat.le_of_ble_eq_true rfl⟩ ⟨by show 0 + gq_xc _ ≤ gq_xc _; rw [← gq_ex9 h, Nat.zero_add]; exact Nat.le_refl _, by show 0 + gq_xs _ ≤ gq_xs _; rw [← gq_ex9 h, Nat.zero_add]; exact Nat.le_refl _⟩ dL_told_6 mtC_len (fun hx => absurd hx (Nat.succ_ne_zero _)) (fun _ => ?_)
    exact g_outX hC htb (Nat.le_of_eq (Nat.zero_add _)) (Nat.le_of_eq (Nat.zero_add _)) (Nat.succ_ne_zero _) h
  refine g_LXv (mt1 := mtC) (mt2 := mtA) (as := [.int a1, .int a2, .int a3, .int a4]) hC hZ (t_X9_kind hl9 N _ _ _ _ _ _ _ _ c2) mV_X9_kind wm_L_91 obC_0 rfl rfl (Nat.le_of_ble_eq_true rfl) ⟨Nat.le_of_ble_eq_true rfl, Nat.le_of_ble_eq_true rfl⟩ ⟨Nat.zero_le _, Nat.zero_le _⟩ dL_told_6 mtC_len (fun _ => ?_) (fun hx => absurd rfl hx)
  refine g_widen (kc2 := 0) (ks2 := 0) (Nat.le_refl _) (Nat.le_refl _) ?_
  refine g_topM (fun M4 hM4 => ?_)
  replace h := gq_l_i hM4 h
  refine g_iconst (v := 0) hC (by decide) dL_told_9 ?_
  exact g_iretsX hC hr h dL_told_10
def f_L_does_360 (N : Nat) (s0 : Int32) (M : gq_M) : Option (Int32 × gq_M) :=
  some (s0, M)
set_option maxHeartbeats 1000000 in
set_option maxRecDepth 20000 in
theorem t_L_does_360 {N : Nat} {v9 : Int32} {M9 : gq_M} (hl9 : l.stackTraces = false) (hZ : gq_Zn A s) (htab : c.exceptionTable.toList = tableOf [(0, 360, 361, 82), (0, 360, 366, 85), (0, 360, 371, 88)]) (hC : gq_C p s m args meth c D A cI cZ ad mtL RL cL_does 9) (hr : meth.sig.returnType = (some .int))   : ∀ (s0 : Int32) (M : gq_M), f_L_does_360 N  s0 M = some (v9, M9) → gq_W p l e (gq_rl 9 1 6) s m args below meth c D A cI cZ ad mtL 9 (gq_NQ below D cI cZ ad mtL v9 M9 args s 1 6 A) 360 [] [.int s0] M 0 0 := by
  intro s0 M h
  unfold f_L_does_360 at h
  exact g_iretsN hC (by decide) (by decide) hr h dL_does_360
def f_L_does_137 (N : Nat) (s1 : Int32) (s2 : Int32) (M : gq_M) : Option (Int32 × gq_M) :=
  gq_c M (fun C9 => mrg 109 C9 M) (f_X9_line N s1 s2 M) fun v84 Cv84 => gq_l (mrg 109 Cv84 M) fun M86 => if v84 = 0 then (f_L_does_360 N  0 M86) else (f_L_does_360 N  1 M86)
set_option maxHeartbeats 1000000 in
set_option maxRecDepth 20000 in
theorem t_L_does_137 {N : Nat} {v9 : Int32} {M9 : gq_M} (hl9 : l.stackTraces = false) (hZ : gq_Zn A s) (htab : c.exceptionTable.toList = tableOf [(0, 360, 361, 82), (0, 360, 366, 85), (0, 360, 371, 88)]) (hC : gq_C p s m args meth c D A cI cZ ad mtL RL cL_does 9) (hr : meth.sig.returnType = (some .int))   : ∀ (s1 : Int32) (s2 : Int32) (M : gq_M), f_L_does_137 N  s1 s2 M = some (v9, M9) → gq_W p l e (gq_rl 9 1 6) s m args below meth c D A cI cZ ad mtL 9 (gq_NQ below D cI cZ ad mtL v9 M9 args s 1 6 A) 137 [] [.int s2, .int s1, .ref (ad 0)] M 0 0 := by
  intro s1 s2 M h
  unfold f_L_does_137 at h
  rcases gq_c_i h with ⟨v84, Cv84, c85, h⟩ | ⟨v84, Cv84, c85, h⟩ | ⟨v84, Cv84, c85, h⟩ | ⟨v84, Cv84, c85, h⟩
  rotate_left
  · refine g_LXi (mt1 := mtC) (mt2 := mtA) (as := [.int s1, .int s2]) hC hZ.1 (t_X9_line hl9 N _ _ _ _ _ _ c85) mV_X9_line wm_L_35 obC_0 rfl rfl (Nat.le_of_ble_eq_true rfl) ⟨Nat.le_of_ble_eq_true rfl, Nat.le_of_ble_eq_true rfl⟩ ⟨Nat.le_of_ble_eq_true rfl, Nat.le_of_ble_eq_true rfl⟩ dL_does_137 mtC_len (fun hx => absurd hx (by decide)) (fun _ => ?_)
    exact does_t1 hC hr hZ htab rfl rfl rfl h
  · refine g_LXi (mt1 := mtC) (mt2 := mtA) (as := [.int s1, .int s2]) hC hZ.1 (t_X9_line hl9 N _ _ _ _ _ _ c85) mV_X9_line wm_L_35 obC_0 rfl rfl (Nat.le_of_ble_eq_true rfl) ⟨Nat.le_of_ble_eq_true rfl, Nat.le_of_ble_eq_true rfl⟩ ⟨Nat.le_of_ble_eq_true rfl, Nat.le_of_ble_eq_true rfl⟩ dL_does_137 mtC_len (fun hx => absurd hx (by decide)) (fun _ => ?_)
    exact does_t2 hC hr hZ htab rfl rfl rfl h
  · refine g_LXi (mt1 := mtC) (mt2 := mtA) (as := [.int s1, .int s2]) hC hZ.1 (t_X9_line hl9 N _ _ _ _ _ _ c85) mV_X9_line wm_L_35 obC_0 rfl rfl (Nat.le_of_ble_eq_true rfl) ⟨Nat.le_of_ble_eq_true rfl, Nat.le_of_ble_eq_true rfl⟩ ⟨Nat.le_of_ble_eq_true rfl, Nat.le_of_ble_eq_true rfl⟩ dL_does_137 mtC_len (fun hx => absurd hx (by decide)) (fun _ => ?_)
    exact does_t3 hC hr hZ htab rfl rfl rfl h
  refine g_LXi (mt1 := mtC) (mt2 := mtA) (as := [.int s1, .int s2]) hC hZ.1 (t_X9_line hl9 N _ _ _ _ _ _ c85) mV_X9_line wm_L_35 obC_0 rfl rfl (Nat.le_of_ble_eq_true rfl) ⟨Nat.le_of_ble_eq_true rfl, Nat.le_of_ble_eq_true rfl⟩ ⟨Nat.le_of_ble_eq_true rfl, Nat.le_of_ble_eq_true rfl⟩ dL_does_137 mtC_len (fun _ => ?_) (fun hx => absurd rfl hx)
  refine g_widen (kc2 := 0) (ks2 := 0) (Nat.le_refl _) (Nat.le_refl _) ?_
  refine g_topM (fun M86 hM86 => ?_)
  replace h := gq_l_i hM86 h
  refine g_if_eq (tgt := 147) hC (by decide) dL_does_140 (fun c87 => ?_) (fun c87 => ?_)
  · replace h := gq_t c87 h
    refine g_iconst (v := 0) hC (by decide) dL_does_147 ?_
    refine g_goto (tgt := 360) hC (by decide) dL_does_148 ?_
    exact g_weak [] rfl (t_L_does_360 hl9 hZ htab hC hr  0 M86 h)
  · replace h := gq_f c87 h
    refine g_iconst (v := 1) hC (by decide) dL_does_143 ?_
    refine g_goto (tgt := 360) hC (by decide) dL_does_144 ?_
    exact g_weak [] rfl (t_L_does_360 hl9 hZ htab hC hr  1 M86 h)
def f_L_does_105 (N : Nat) (s1 : Int32) (s2 : Int32) (M : gq_M) : Option (Int32 × gq_M) :=
  gq_c M (fun C9 => mrg 109 C9 M) (f_X9_power N s1 s2 M) fun v80 Cv80 => gq_l (mrg 109 Cv80 M) fun M82 => if v80 = 0 then (f_L_does_360 N  0 M82) else (f_L_does_360 N  1 M82)
set_option maxHeartbeats 1000000 in
set_option maxRecDepth 20000 in
theorem t_L_does_105 {N : Nat} {v9 : Int32} {M9 : gq_M} (hl9 : l.stackTraces = false) (hZ : gq_Zn A s) (htab : c.exceptionTable.toList = tableOf [(0, 360, 361, 82), (0, 360, 366, 85), (0, 360, 371, 88)]) (hC : gq_C p s m args meth c D A cI cZ ad mtL RL cL_does 9) (hr : meth.sig.returnType = (some .int))   : ∀ (s1 : Int32) (s2 : Int32) (M : gq_M), f_L_does_105 N  s1 s2 M = some (v9, M9) → gq_W p l e (gq_rl 9 1 6) s m args below meth c D A cI cZ ad mtL 9 (gq_NQ below D cI cZ ad mtL v9 M9 args s 1 6 A) 105 [] [.int s2, .int s1, .ref (ad 0)] M 0 0 := by
  intro s1 s2 M h
  unfold f_L_does_105 at h
  rcases gq_c_i h with ⟨v80, Cv80, c81, h⟩ | ⟨v80, Cv80, c81, h⟩ | ⟨v80, Cv80, c81, h⟩ | ⟨v80, Cv80, c81, h⟩
  rotate_left
  · refine g_LXi (mt1 := mtC) (mt2 := mtA) (as := [.int s1, .int s2]) hC hZ.1 (t_X9_power hl9 N _ _ _ _ _ _ c81) mV_X9_power wm_L_31 obC_0 rfl rfl (Nat.le_of_ble_eq_true rfl) ⟨Nat.le_of_ble_eq_true rfl, Nat.le_of_ble_eq_true rfl⟩ ⟨Nat.le_of_ble_eq_true rfl, Nat.le_of_ble_eq_true rfl⟩ dL_does_105 mtC_len (fun hx => absurd hx (by decide)) (fun _ => ?_)
    exact does_t1 hC hr hZ htab rfl rfl rfl h
  · refine g_LXi (mt1 := mtC) (mt2 := mtA) (as := [.int s1, .int s2]) hC hZ.1 (t_X9_power hl9 N _ _ _ _ _ _ c81) mV_X9_power wm_L_31 obC_0 rfl rfl (Nat.le_of_ble_eq_true rfl) ⟨Nat.le_of_ble_eq_true rfl, Nat.le_of_ble_eq_true rfl⟩ ⟨Nat.le_of_ble_eq_true rfl, Nat.le_of_ble_eq_true rfl⟩ dL_does_105 mtC_len (fun hx => absurd hx (by decide)) (fun _ => ?_)
    exact does_t2 hC hr hZ htab rfl rfl rfl h
  · refine g_LXi (mt1 := mtC) (mt2 := mtA) (as := [.int s1, .int s2]) hC hZ.1 (t_X9_power hl9 N _ _ _ _ _ _ c81) mV_X9_power wm_L_31 obC_0 rfl rfl (Nat.le_of_ble_eq_true rfl) ⟨Nat.le_of_ble_eq_true rfl, Nat.le_of_ble_eq_true rfl⟩ ⟨Nat.le_of_ble_eq_true rfl, Nat.le_of_ble_eq_true rfl⟩ dL_does_105 mtC_len (fun hx => absurd hx (by decide)) (fun _ => ?_)
    exact does_t3 hC hr hZ htab rfl rfl rfl h
  refine g_LXi (mt1 := mtC) (mt2 := mtA) (as := [.int s1, .int s2]) hC hZ.1 (t_X9_power hl9 N _ _ _ _ _ _ c81) mV_X9_power wm_L_31 obC_0 rfl rfl (Nat.le_of_ble_eq_true rfl) ⟨Nat.le_of_ble_eq_true rfl, Nat.le_of_ble_eq_true rfl⟩ ⟨Nat.le_of_ble_eq_true rfl, Nat.le_of_ble_eq_true rfl⟩ dL_does_105 mtC_len (fun _ => ?_) (fun hx => absurd rfl hx)
  refine g_widen (kc2 := 0) (ks2 := 0) (Nat.le_refl _) (Nat.le_refl _) ?_
  refine g_topM (fun M82 hM82 => ?_)
  replace h := gq_l_i hM82 h
  refine g_if_eq (tgt := 115) hC (by decide) dL_does_108 (fun c83 => ?_) (fun c83 => ?_)
  · replace h := gq_t c83 h
    refine g_iconst (v := 0) hC (by decide) dL_does_115 ?_
    refine g_goto (tgt := 360) hC (by decide) dL_does_116 ?_
    exact g_weak [] rfl (t_L_does_360 hl9 hZ htab hC hr  0 M82 h)
  · replace h := gq_f c83 h
    refine g_iconst (v := 1) hC (by decide) dL_does_111 ?_
    refine g_goto (tgt := 360) hC (by decide) dL_does_112 ?_
    exact g_weak [] rfl (t_L_does_360 hl9 hZ htab hC hr  1 M82 h)
def f_L_does_34 (N : Nat) (s1 : Int32) (s2 : Int32) (s3 : Int32) (M : gq_M) : Option (Int32 × gq_M) :=
  gq_c M (fun C9 => mrg 109 C9 M) (f_X9_aid N s1 s2 s3 M) fun v77 Cv77 => gq_l (mrg 109 Cv77 M) fun M79 => f_L_does_360 N  v77 M79
set_option maxHeartbeats 1000000 in
set_option maxRecDepth 20000 in
theorem t_L_does_34 {N : Nat} {v9 : Int32} {M9 : gq_M} (hl9 : l.stackTraces = false) (hZ : gq_Zn A s) (htab : c.exceptionTable.toList = tableOf [(0, 360, 361, 82), (0, 360, 366, 85), (0, 360, 371, 88)]) (hC : gq_C p s m args meth c D A cI cZ ad mtL RL cL_does 9) (hr : meth.sig.returnType = (some .int))   : ∀ (s1 : Int32) (s2 : Int32) (s3 : Int32) (M : gq_M), f_L_does_34 N  s1 s2 s3 M = some (v9, M9) → gq_W p l e (gq_rl 9 1 6) s m args below meth c D A cI cZ ad mtL 9 (gq_NQ below D cI cZ ad mtL v9 M9 args s 1 6 A) 34 [] [.int s3, .int s2, .int s1, .ref (ad 0)] M 0 0 := by
  intro s1 s2 s3 M h
  unfold f_L_does_34 at h
  rcases gq_c_i h with ⟨v77, Cv77, c78, h⟩ | ⟨v77, Cv77, c78, h⟩ | ⟨v77, Cv77, c78, h⟩ | ⟨v77, Cv77, c78, h⟩
  rotate_left
  · refine g_LXi (mt1 := mtC) (mt2 := mtA) (as := [.int s1, .int s2, .int s3]) hC hZ.1 (t_X9_aid hl9 N _ _ _ _ _ _ _ c78) mV_X9_aid wm_L_14 obC_0 rfl rfl (Nat.le_of_ble_eq_true rfl) ⟨Nat.le_of_ble_eq_true rfl, Nat.le_of_ble_eq_true rfl⟩ ⟨Nat.le_of_ble_eq_true rfl, Nat.le_of_ble_eq_true rfl⟩ dL_does_34 mtC_len (fun hx => absurd hx (by decide)) (fun _ => ?_)
    exact does_t1 hC hr hZ htab rfl rfl rfl h
  · refine g_LXi (mt1 := mtC) (mt2 := mtA) (as := [.int s1, .int s2, .int s3]) hC hZ.1 (t_X9_aid hl9 N _ _ _ _ _ _ _ c78) mV_X9_aid wm_L_14 obC_0 rfl rfl (Nat.le_of_ble_eq_true rfl) ⟨Nat.le_of_ble_eq_true rfl, Nat.le_of_ble_eq_true rfl⟩ ⟨Nat.le_of_ble_eq_true rfl, Nat.le_of_ble_eq_true rfl⟩ dL_does_34 mtC_len (fun hx => absurd hx (by decide)) (fun _ => ?_)
    exact does_t2 hC hr hZ htab rfl rfl rfl h
  · refine g_LXi (mt1 := mtC) (mt2 := mtA) (as := [.int s1, .int s2, .int s3]) hC hZ.1 (t_X9_aid hl9 N _ _ _ _ _ _ _ c78) mV_X9_aid wm_L_14 obC_0 rfl rfl (Nat.le_of_ble_eq_true rfl) ⟨Nat.le_of_ble_eq_true rfl, Nat.le_of_ble_eq_true rfl⟩ ⟨Nat.le_of_ble_eq_true rfl, Nat.le_of_ble_eq_true rfl⟩ dL_does_34 mtC_len (fun hx => absurd hx (by decide)) (fun _ => ?_)
    exact does_t3 hC hr hZ htab rfl rfl rfl h
  refine g_LXi (mt1 := mtC) (mt2 := mtA) (as := [.int s1, .int s2, .int s3]) hC hZ.1 (t_X9_aid hl9 N _ _ _ _ _ _ _ c78) mV_X9_aid wm_L_14 obC_0 rfl rfl (Nat.le_of_ble_eq_true rfl) ⟨Nat.le_of_ble_eq_true rfl, Nat.le_of_ble_eq_true rfl⟩ ⟨Nat.le_of_ble_eq_true rfl, Nat.le_of_ble_eq_true rfl⟩ dL_does_34 mtC_len (fun _ => ?_) (fun hx => absurd rfl hx)
  refine g_widen (kc2 := 0) (ks2 := 0) (Nat.le_refl _) (Nat.le_refl _) ?_
  refine g_topM (fun M79 hM79 => ?_)
  replace h := gq_l_i hM79 h
  refine g_goto (tgt := 360) hC (by decide) dL_does_37 ?_
  exact g_weak [] rfl (t_L_does_360 hl9 hZ htab hC hr  v77 M79 h)
def f_L_does (N : Nat) (a1 : Int32) (a2 : Int32) (a3 : Int32) (a4 : Int32) (a5 : Int32) (a6 : Int32) (a7 : Int32) (M : gq_M) : Option (Int32 × gq_M) :=
  if a1 = 0 then (gq_c M (fun C9 => mrg 109 C9 M) (f_X9_quota N a2 a3 a4 M) fun v74 Cv74 => gq_l (mrg 109 Cv74 M) fun M76 => f_L_does_360 N  v74 M76) else (if a1 = 1 then (if a4 = 1 then (f_L_does_34 N  a2 a3 1 M) else (f_L_does_34 N  a2 a3 0 M)) else (if a1 = 2 then (gq_c M (fun C9 => C9) (f_L_told N a2 a3 a4 a5 M) fun v71 Cv71 => f_L_does_360 N  v71 Cv71) else (if a1 = 3 then (gq_c M (fun C9 => mrg 109 C9 M) (f_X9_step N a2 a3 M) fun v68 Cv68 => gq_l (mrg 109 Cv68 M) fun M70 => f_L_does_360 N  v68 M70) else (if a1 = 4 then (gq_c M (fun C9 => mrg 109 C9 M) (f_X9_buyer N a2 a3 a4 M) fun v65 Cv65 => gq_l (mrg 109 Cv65 M) fun M67 => f_L_does_360 N  v65 M67) else (if a1 = 5 then (if a3 = 1 then (f_L_does_105 N  a2 1 M) else (f_L_does_105 N  a2 0 M)) else (if a1 = 6 then (if a3 = 1 then (f_L_does_137 N  a2 1 M) else (f_L_does_137 N  a2 0 M)) else (if a1 = 7 then (gq_c M (fun C9 => mrg 109 C9 M) (f_X9_land N a2 a3 a4 a5 a6 a7 M) fun v60 Cv60 => gq_l (mrg 109 Cv60 M) fun M62 => f_L_does_360 N  v60 M62) else (if a1 = 8 then (gq_c M (fun C9 => mrg 109 C9 M) (f_X9_open N M) fun v57 Cv57 => gq_l (mrg 109 Cv57 M) fun M59 => f_L_does_360 N  v57 M59) else (if a1 = 9 then (gq_c M (fun C9 => mrg 109 C9 M) (f_X9_end N M) fun v54 Cv54 => gq_l (mrg 109 Cv54 M) fun M56 => f_L_does_360 N  v54 M56) else (if a1 = 10 then (gq_c M (fun C9 => mrg 109 C9 M) (f_X9_press N a2 a3 M) fun v51 Cv51 => gq_l (mrg 109 Cv51 M) fun M53 => f_L_does_360 N  v51 M53) else (if a1 = 11 then (gq_c M (fun C9 => mrg 109 C9 M) (f_X9_take N a2 a3 a4 M) fun v48 Cv48 => gq_l (mrg 109 Cv48 M) fun M50 => f_L_does_360 N  v48 M50) else (if a1 = 12 then (gq_c M (fun C9 => mrg 109 C9 M) (f_X9_lorry N a2 a3 a4 M) fun v45 Cv45 => gq_l (mrg 109 Cv45 M) fun M47 => f_L_does_360 N  v45 M47) else (if a1 = 13 then (gq_c M (fun C9 => mrg 109 C9 M) (f_X9_pay N a2 a3 M) fun v42 Cv42 => gq_l (mrg 109 Cv42 M) fun M44 => f_L_does_360 N  v42 M44) else (if a1 = 14 then (gq_c M (fun C9 => mrg 109 C9 M) (f_X9_claim N a2 a3 M) fun v39 Cv39 => gq_l (mrg 109 Cv39 M) fun M41 => f_L_does_360 N  v39 M41) else (if a1 = 15 then (gq_c M (fun C9 => mrg 109 C9 M) (f_X9_settle N a2 a3 a4 M) fun v36 Cv36 => gq_l (mrg 109 Cv36 M) fun M38 => f_L_does_360 N  v36 M38) else (if a1 = 16 then (gq_c M (fun C9 => mrg 109 C9 M) (f_X9_pass N a2 M) fun v33 Cv33 => gq_l (mrg 109 Cv33 M) fun M35 => f_L_does_360 N  v33 M35) else (if a1 = 17 then (gq_c M (fun C9 => mrg 109 C9 M) (f_X9_told N a2 a3 M) fun v30 Cv30 => gq_l (mrg 109 Cv30 M) fun M32 => f_L_does_360 N  v30 M32) else (if a1 = 18 then (gq_c M (fun C9 => mrg 109 C9 M) (f_X9_lot N a2 a3 M) fun v27 Cv27 => gq_l (mrg 109 Cv27 M) fun M29 => f_L_does_360 N  v27 M29) else (if a1 = 19 then (gq_c M (fun C9 => mrg 109 C9 M) (f_X9_average N a2 a3 M) fun v24 Cv24 => gq_l (mrg 109 Cv24 M) fun M26 => f_L_does_360 N  v24 M26) else (gq_c M (fun C9 => mrg 109 C9 M) (f_X9_loaded N a2 M) fun v21 Cv21 => gq_l (mrg 109 Cv21 M) fun M23 => f_L_does_360 N  v21 M23))))))))))))))))))))
set_option maxHeartbeats 4000000 in
set_option maxRecDepth 20000 in
theorem t_L_does {l : Launch} (hl9 : l.stackTraces = false) {D : va_G} {cI cZ : ClassId} {ad : Nat → Nat} (N : Nat) (a1 : Int32) (a2 : Int32) (a3 : Int32) (a4 : Int32) (a5 : Int32) (a6 : Int32) (a7 : Int32) (M : gq_M) (v9 : Int32) (M9 : gq_M) (h : f_L_does N a1 a2 a3 a4 a5 a6 a7 M = some (v9, M9)) : gq_Ni l D cI cZ ad mtL yL_does (.codeWith yL_does cL_does 9 (some .int) [(0, 360, 361, 82), (0, 360, 366, 85), (0, 360, 371, 88)]) 9 1 6 [.ref (ad 0), .int a1, .int a2, .int a3, .int a4, .int a5, .int a6, .int a7] M v9 M9 := by
  refine gq_introNH (own := RL) (by decide) rfl (Nat.le_of_ble_eq_true rfl) ?_
  intro p e s m below meth c hC hr hZ htab
  refine g_cast (L2 := [(0, .ref (ad 0)), (1, .int a1), (2, .int a2), (3, .int a3), (4, .int a4), (5, .int a5), (6, .int a6), (7, .int a7)]) ?_ rfl rfl rfl rfl
  unfold f_L_does at h
  refine g_iload_n hC 1 rfl rfl dL_does_0 ?_
  refine g_if_ne (tgt := 15) hC (by decide) dL_does_1 (fun c1 => ?_) (fun c1 => ?_)
  · replace h := gq_f c1 h
    refine g_iload_n hC 1 rfl rfl dL_does_15 ?_
    refine g_iconst (v := 1) hC (by decide) dL_does_16 ?_
    refine g_icmp_ne (tgt := 40) hC (by decide) dL_does_17 (fun c2 => ?_) (fun c2 => ?_)
    · replace h := gq_f c2 h
      refine g_iload_n hC 1 rfl rfl dL_does_40 ?_
      refine g_iconst (v := 2) hC (by decide) dL_does_41 ?_
      refine g_icmp_ne (tgt := 58) hC (by decide) dL_does_42 (fun c3 => ?_) (fun c3 => ?_)
      · replace h := gq_f c3 h
        refine g_iload_n hC 1 rfl rfl dL_does_58 ?_
        refine g_iconst (v := 3) hC (by decide) dL_does_59 ?_
        refine g_icmp_ne (tgt := 72) hC (by decide) dL_does_60 (fun c4 => ?_) (fun c4 => ?_)
        · replace h := gq_f c4 h
          refine g_iload_n hC 1 rfl rfl dL_does_72 ?_
          refine g_iconst (v := 4) hC (by decide) dL_does_73 ?_
          refine g_icmp_ne (tgt := 88) hC (by decide) dL_does_74 (fun c5 => ?_) (fun c5 => ?_)
          · replace h := gq_f c5 h
            refine g_iload_n hC 1 rfl rfl dL_does_88 ?_
            refine g_iconst (v := 5) hC (by decide) dL_does_89 ?_
            refine g_icmp_ne (tgt := 119) hC (by decide) dL_does_90 (fun c6 => ?_) (fun c6 => ?_)
            · replace h := gq_f c6 h
              refine g_iload_n hC 1 rfl rfl dL_does_119 ?_
              refine g_bipush (v := 6) hC (by decide) dL_does_120 ?_
              refine g_icmp_ne (tgt := 151) hC (by decide) dL_does_122 (fun c7 => ?_) (fun c7 => ?_)
              · replace h := gq_f c7 h
                refine g_iload_n hC 1 rfl rfl dL_does_151 ?_
                refine g_bipush (v := 7) hC (by decide) dL_does_152 ?_
                refine g_icmp_ne (tgt := 174) hC (by decide) dL_does_154 (fun c8 => ?_) (fun c8 => ?_)
                · replace h := gq_f c8 h
                  refine g_iload_n hC 1 rfl rfl dL_does_174 ?_
                  refine g_bipush (v := 8) hC (by decide) dL_does_175 ?_
                  refine g_icmp_ne (tgt := 187) hC (by decide) dL_does_177 (fun c9 => ?_) (fun c9 => ?_)
                  · replace h := gq_f c9 h
                    refine g_iload_n hC 1 rfl rfl dL_does_187 ?_
                    refine g_bipush (v := 9) hC (by decide) dL_does_188 ?_
                    refine g_icmp_ne (tgt := 200) hC (by decide) dL_does_190 (fun c10 => ?_) (fun c10 => ?_)
                    · replace h := gq_f c10 h
                      refine g_iload_n hC 1 rfl rfl dL_does_200 ?_
                      refine g_bipush (v := 10) hC (by decide) dL_does_201 ?_
                      refine g_icmp_ne (tgt := 215) hC (by decide) dL_does_203 (fun c11 => ?_) (fun c11 => ?_)
                      · replace h := gq_f c11 h
                        refine g_iload_n hC 1 rfl rfl dL_does_215 ?_
                        refine g_bipush (v := 11) hC (by decide) dL_does_216 ?_
                        refine g_icmp_ne (tgt := 232) hC (by decide) dL_does_218 (fun c12 => ?_) (fun c12 => ?_)
                        · replace h := gq_f c12 h
                          refine g_iload_n hC 1 rfl rfl dL_does_232 ?_
                          refine g_bipush (v := 12) hC (by decide) dL_does_233 ?_
                          refine g_icmp_ne (tgt := 249) hC (by decide) dL_does_235 (fun c13 => ?_) (fun c13 => ?_)
                          · replace h := gq_f c13 h
                            refine g_iload_n hC 1 rfl rfl dL_does_249 ?_
                            refine g_bipush (v := 13) hC (by decide) dL_does_250 ?_
                            refine g_icmp_ne (tgt := 264) hC (by decide) dL_does_252 (fun c14 => ?_) (fun c14 => ?_)
                            · replace h := gq_f c14 h
                              refine g_iload_n hC 1 rfl rfl dL_does_264 ?_
                              refine g_bipush (v := 14) hC (by decide) dL_does_265 ?_
                              refine g_icmp_ne (tgt := 279) hC (by decide) dL_does_267 (fun c15 => ?_) (fun c15 => ?_)
                              · replace h := gq_f c15 h
                                refine g_iload_n hC 1 rfl rfl dL_does_279 ?_
                                refine g_bipush (v := 15) hC (by decide) dL_does_280 ?_
                                refine g_icmp_ne (tgt := 296) hC (by decide) dL_does_282 (fun c16 => ?_) (fun c16 => ?_)
                                · replace h := gq_f c16 h
                                  refine g_iload_n hC 1 rfl rfl dL_does_296 ?_
                                  refine g_bipush (v := 16) hC (by decide) dL_does_297 ?_
                                  refine g_icmp_ne (tgt := 310) hC (by decide) dL_does_299 (fun c17 => ?_) (fun c17 => ?_)
                                  · replace h := gq_f c17 h
                                    refine g_iload_n hC 1 rfl rfl dL_does_310 ?_
                                    refine g_bipush (v := 17) hC (by decide) dL_does_311 ?_
                                    refine g_icmp_ne (tgt := 325) hC (by decide) dL_does_313 (fun c18 => ?_) (fun c18 => ?_)
                                    · replace h := gq_f c18 h
                                      refine g_iload_n hC 1 rfl rfl dL_does_325 ?_
                                      refine g_bipush (v := 18) hC (by decide) dL_does_326 ?_
                                      refine g_icmp_ne (tgt := 340) hC (by decide) dL_does_328 (fun c19 => ?_) (fun c19 => ?_)
                                      · replace h := gq_f c19 h
                                        refine g_iload_n hC 1 rfl rfl dL_does_340 ?_
                                        refine g_bipush (v := 19) hC (by decide) dL_does_341 ?_
                                        refine g_icmp_ne (tgt := 355) hC (by decide) dL_does_343 (fun c20 => ?_) (fun c20 => ?_)
                                        · replace h := gq_f c20 h
                                          refine g_aload_n hC 0 rfl rfl dL_does_355 ?_
                                          refine g_iload_n hC 2 rfl rfl dL_does_356 ?_
                                          rcases gq_c_i h with ⟨v21, Cv21, c22, h⟩ | ⟨v21, Cv21, c22, h⟩ | ⟨v21, Cv21, c22, h⟩ | ⟨v21, Cv21, c22, h⟩
                                          rotate_left
                                          · refine g_LXi (mt1 := mtC) (mt2 := mtA) (as := [.int a2]) hC hZ.1 (t_X9_loaded hl9 N _ _ _ _ _ c22) mV_X9_loaded wm_L_79 obC_0 rfl rfl (Nat.le_of_ble_eq_true rfl) ⟨Nat.le_of_ble_eq_true rfl, Nat.le_of_ble_eq_true rfl⟩ ⟨Nat.le_of_ble_eq_true rfl, Nat.le_of_ble_eq_true rfl⟩ dL_does_357 mtC_len (fun hx => absurd hx (by decide)) (fun _ => ?_)
                                            exact does_t1 hC hr hZ htab rfl rfl rfl h
                                          · refine g_LXi (mt1 := mtC) (mt2 := mtA) (as := [.int a2]) hC hZ.1 (t_X9_loaded hl9 N _ _ _ _ _ c22) mV_X9_loaded wm_L_79 obC_0 rfl rfl (Nat.le_of_ble_eq_true rfl) ⟨Nat.le_of_ble_eq_true rfl, Nat.le_of_ble_eq_true rfl⟩ ⟨Nat.le_of_ble_eq_true rfl, Nat.le_of_ble_eq_true rfl⟩ dL_does_357 mtC_len (fun hx => absurd hx (by decide)) (fun _ => ?_)
                                            exact does_t2 hC hr hZ htab rfl rfl rfl h
                                          · refine g_LXi (mt1 := mtC) (mt2 := mtA) (as := [.int a2]) hC hZ.1 (t_X9_loaded hl9 N _ _ _ _ _ c22) mV_X9_loaded wm_L_79 obC_0 rfl rfl (Nat.le_of_ble_eq_true rfl) ⟨Nat.le_of_ble_eq_true rfl, Nat.le_of_ble_eq_true rfl⟩ ⟨Nat.le_of_ble_eq_true rfl, Nat.le_of_ble_eq_true rfl⟩ dL_does_357 mtC_len (fun hx => absurd hx (by decide)) (fun _ => ?_)
                                            exact does_t3 hC hr hZ htab rfl rfl rfl h
                                          refine g_LXi (mt1 := mtC) (mt2 := mtA) (as := [.int a2]) hC hZ.1 (t_X9_loaded hl9 N _ _ _ _ _ c22) mV_X9_loaded wm_L_79 obC_0 rfl rfl (Nat.le_of_ble_eq_true rfl) ⟨Nat.le_of_ble_eq_true rfl, Nat.le_of_ble_eq_true rfl⟩ ⟨Nat.le_of_ble_eq_true rfl, Nat.le_of_ble_eq_true rfl⟩ dL_does_357 mtC_len (fun _ => ?_) (fun hx => absurd rfl hx)
                                          refine g_widen (kc2 := 0) (ks2 := 0) (Nat.le_refl _) (Nat.le_refl _) ?_
                                          refine g_topM (fun M23 hM23 => ?_)
                                          replace h := gq_l_i hM23 h
                                          exact g_weak [] rfl (t_L_does_360 hl9 hZ htab hC hr  v21 M23 h)
                                        · replace h := gq_t c20 h
                                          refine g_aload_n hC 0 rfl rfl dL_does_346 ?_
                                          refine g_iload_n hC 2 rfl rfl dL_does_347 ?_
                                          refine g_iload_n hC 3 rfl rfl dL_does_348 ?_
                                          rcases gq_c_i h with ⟨v24, Cv24, c25, h⟩ | ⟨v24, Cv24, c25, h⟩ | ⟨v24, Cv24, c25, h⟩ | ⟨v24, Cv24, c25, h⟩
                                          rotate_left
                                          · refine g_LXi (mt1 := mtC) (mt2 := mtA) (as := [.int a2, .int a3]) hC hZ.1 (t_X9_average hl9 N _ _ _ _ _ _ c25) mV_X9_average wm_L_76 obC_0 rfl rfl (Nat.le_of_ble_eq_true rfl) ⟨Nat.le_of_ble_eq_true rfl, Nat.le_of_ble_eq_true rfl⟩ ⟨Nat.le_of_ble_eq_true rfl, Nat.le_of_ble_eq_true rfl⟩ dL_does_349 mtC_len (fun hx => absurd hx (by decide)) (fun _ => ?_)
                                            exact does_t1 hC hr hZ htab rfl rfl rfl h
                                          · refine g_LXi (mt1 := mtC) (mt2 := mtA) (as := [.int a2, .int a3]) hC hZ.1 (t_X9_average hl9 N _ _ _ _ _ _ c25) mV_X9_average wm_L_76 obC_0 rfl rfl (Nat.le_of_ble_eq_true rfl) ⟨Nat.le_of_ble_eq_true rfl, Nat.le_of_ble_eq_true rfl⟩ ⟨Nat.le_of_ble_eq_true rfl, Nat.le_of_ble_eq_true rfl⟩ dL_does_349 mtC_len (fun hx => absurd hx (by decide)) (fun _ => ?_)
                                            exact does_t2 hC hr hZ htab rfl rfl rfl h
                                          · refine g_LXi (mt1 := mtC) (mt2 := mtA) (as := [.int a2, .int a3]) hC hZ.1 (t_X9_average hl9 N _ _ _ _ _ _ c25) mV_X9_average wm_L_76 obC_0 rfl rfl (Nat.le_of_ble_eq_true rfl) ⟨Nat.le_of_ble_eq_true rfl, Nat.le_of_ble_eq_true rfl⟩ ⟨Nat.le_of_ble_eq_true rfl, Nat.le_of_ble_eq_true rfl⟩ dL_does_349 mtC_len (fun hx => absurd hx (by decide)) (fun _ => ?_)
                                            exact does_t3 hC hr hZ htab rfl rfl rfl h
                                          refine g_LXi (mt1 := mtC) (mt2 := mtA) (as := [.int a2, .int a3]) hC hZ.1 (t_X9_average hl9 N _ _ _ _ _ _ c25) mV_X9_average wm_L_76 obC_0 rfl rfl (Nat.le_of_ble_eq_true rfl) ⟨Nat.le_of_ble_eq_true rfl, Nat.le_of_ble_eq_true rfl⟩ ⟨Nat.le_of_ble_eq_true rfl, Nat.le_of_ble_eq_true rfl⟩ dL_does_349 mtC_len (fun _ => ?_) (fun hx => absurd rfl hx)
                                          refine g_widen (kc2 := 0) (ks2 := 0) (Nat.le_refl _) (Nat.le_refl _) ?_
                                          refine g_topM (fun M26 hM26 => ?_)
                                          replace h := gq_l_i hM26 h
                                          refine g_goto (tgt := 360) hC (by decide) dL_does_352 ?_
                                          exact g_weak [] rfl (t_L_does_360 hl9 hZ htab hC hr  v24 M26 h)
                                      · replace h := gq_t c19 h
                                        refine g_aload_n hC 0 rfl rfl dL_does_331 ?_
                                        refine g_iload_n hC 2 rfl rfl dL_does_332 ?_
                                        refine g_iload_n hC 3 rfl rfl dL_does_333 ?_
                                        rcases gq_c_i h with ⟨v27, Cv27, c28, h⟩ | ⟨v27, Cv27, c28, h⟩ | ⟨v27, Cv27, c28, h⟩ | ⟨v27, Cv27, c28, h⟩
                                        rotate_left
                                        · refine g_LXi (mt1 := mtC) (mt2 := mtA) (as := [.int a2, .int a3]) hC hZ.1 (t_X9_lot hl9 N _ _ _ _ _ _ c28) mV_X9_lot wm_L_73 obC_0 rfl rfl (Nat.le_of_ble_eq_true rfl) ⟨Nat.le_of_ble_eq_true rfl, Nat.le_of_ble_eq_true rfl⟩ ⟨Nat.le_of_ble_eq_true rfl, Nat.le_of_ble_eq_true rfl⟩ dL_does_334 mtC_len (fun hx => absurd hx (by decide)) (fun _ => ?_)
                                          exact does_t1 hC hr hZ htab rfl rfl rfl h
                                        · refine g_LXi (mt1 := mtC) (mt2 := mtA) (as := [.int a2, .int a3]) hC hZ.1 (t_X9_lot hl9 N _ _ _ _ _ _ c28) mV_X9_lot wm_L_73 obC_0 rfl rfl (Nat.le_of_ble_eq_true rfl) ⟨Nat.le_of_ble_eq_true rfl, Nat.le_of_ble_eq_true rfl⟩ ⟨Nat.le_of_ble_eq_true rfl, Nat.le_of_ble_eq_true rfl⟩ dL_does_334 mtC_len (fun hx => absurd hx (by decide)) (fun _ => ?_)
                                          exact does_t2 hC hr hZ htab rfl rfl rfl h
                                        · refine g_LXi (mt1 := mtC) (mt2 := mtA) (as := [.int a2, .int a3]) hC hZ.1 (t_X9_lot hl9 N _ _ _ _ _ _ c28) mV_X9_lot wm_L_73 obC_0 rfl rfl (Nat.le_of_ble_eq_true rfl) ⟨Nat.le_of_ble_eq_true rfl, Nat.le_of_ble_eq_true rfl⟩ ⟨Nat.le_of_ble_eq_true rfl, Nat.le_of_ble_eq_true rfl⟩ dL_does_334 mtC_len (fun hx => absurd hx (by decide)) (fun _ => ?_)
                                          exact does_t3 hC hr hZ htab rfl rfl rfl h
                                        refine g_LXi (mt1 := mtC) (mt2 := mtA) (as := [.int a2, .int a3]) hC hZ.1 (t_X9_lot hl9 N _ _ _ _ _ _ c28) mV_X9_lot wm_L_73 obC_0 rfl rfl (Nat.le_of_ble_eq_true rfl) ⟨Nat.le_of_ble_eq_true rfl, Nat.le_of_ble_eq_true rfl⟩ ⟨Nat.le_of_ble_eq_true rfl, Nat.le_of_ble_eq_true rfl⟩ dL_does_334 mtC_len (fun _ => ?_) (fun hx => absurd rfl hx)
                                        refine g_widen (kc2 := 0) (ks2 := 0) (Nat.le_refl _) (Nat.le_refl _) ?_
                                        refine g_topM (fun M29 hM29 => ?_)
                                        replace h := gq_l_i hM29 h
                                        refine g_goto (tgt := 360) hC (by decide) dL_does_337 ?_
                                        exact g_weak [] rfl (t_L_does_360 hl9 hZ htab hC hr  v27 M29 h)
                                    · replace h := gq_t c18 h
                                      refine g_aload_n hC 0 rfl rfl dL_does_316 ?_
                                      refine g_iload_n hC 2 rfl rfl dL_does_317 ?_
                                      refine g_iload_n hC 3 rfl rfl dL_does_318 ?_
                                      rcases gq_c_i h with ⟨v30, Cv30, c31, h⟩ | ⟨v30, Cv30, c31, h⟩ | ⟨v30, Cv30, c31, h⟩ | ⟨v30, Cv30, c31, h⟩
                                      rotate_left
                                      · refine g_LXi (mt1 := mtC) (mt2 := mtA) (as := [.int a2, .int a3]) hC hZ.1 (t_X9_told hl9 N _ _ _ _ _ _ c31) mV_X9_told wm_L_71 obC_0 rfl rfl (Nat.le_of_ble_eq_true rfl) ⟨Nat.le_of_ble_eq_true rfl, Nat.le_of_ble_eq_true rfl⟩ ⟨Nat.le_of_ble_eq_true rfl, Nat.le_of_ble_eq_true rfl⟩ dL_does_319 mtC_len (fun hx => absurd hx (by decide)) (fun _ => ?_)
                                        exact does_t1 hC hr hZ htab rfl rfl rfl h
                                      · refine g_LXi (mt1 := mtC) (mt2 := mtA) (as := [.int a2, .int a3]) hC hZ.1 (t_X9_told hl9 N _ _ _ _ _ _ c31) mV_X9_told wm_L_71 obC_0 rfl rfl (Nat.le_of_ble_eq_true rfl) ⟨Nat.le_of_ble_eq_true rfl, Nat.le_of_ble_eq_true rfl⟩ ⟨Nat.le_of_ble_eq_true rfl, Nat.le_of_ble_eq_true rfl⟩ dL_does_319 mtC_len (fun hx => absurd hx (by decide)) (fun _ => ?_)
                                        exact does_t2 hC hr hZ htab rfl rfl rfl h
                                      · refine g_LXi (mt1 := mtC) (mt2 := mtA) (as := [.int a2, .int a3]) hC hZ.1 (t_X9_told hl9 N _ _ _ _ _ _ c31) mV_X9_told wm_L_71 obC_0 rfl rfl (Nat.le_of_ble_eq_true rfl) ⟨Nat.le_of_ble_eq_true rfl, Nat.le_of_ble_eq_true rfl⟩ ⟨Nat.le_of_ble_eq_true rfl, Nat.le_of_ble_eq_true rfl⟩ dL_does_319 mtC_len (fun hx => absurd hx (by decide)) (fun _ => ?_)
                                        exact does_t3 hC hr hZ htab rfl rfl rfl h
                                      refine g_LXi (mt1 := mtC) (mt2 := mtA) (as := [.int a2, .int a3]) hC hZ.1 (t_X9_told hl9 N _ _ _ _ _ _ c31) mV_X9_told wm_L_71 obC_0 rfl rfl (Nat.le_of_ble_eq_true rfl) ⟨Nat.le_of_ble_eq_true rfl, Nat.le_of_ble_eq_true rfl⟩ ⟨Nat.le_of_ble_eq_true rfl, Nat.le_of_ble_eq_true rfl⟩ dL_does_319 mtC_len (fun _ => ?_) (fun hx => absurd rfl hx)
                                      refine g_widen (kc2 := 0) (ks2 := 0) (Nat.le_refl _) (Nat.le_refl _) ?_
                                      refine g_topM (fun M32 hM32 => ?_)
                                      replace h := gq_l_i hM32 h
                                      refine g_goto (tgt := 360) hC (by decide) dL_does_322 ?_
                                      exact g_weak [] rfl (t_L_does_360 hl9 hZ htab hC hr  v30 M32 h)
                                  · replace h := gq_t c17 h
                                    refine g_aload_n hC 0 rfl rfl dL_does_302 ?_
                                    refine g_iload_n hC 2 rfl rfl dL_does_303 ?_
                                    rcases gq_c_i h with ⟨v33, Cv33, c34, h⟩ | ⟨v33, Cv33, c34, h⟩ | ⟨v33, Cv33, c34, h⟩ | ⟨v33, Cv33, c34, h⟩
                                    rotate_left
                                    · refine g_LXi (mt1 := mtC) (mt2 := mtA) (as := [.int a2]) hC hZ.1 (t_X9_pass hl9 N _ _ _ _ _ c34) mV_X9_pass wm_L_67 obC_0 rfl rfl (Nat.le_of_ble_eq_true rfl) ⟨Nat.le_of_ble_eq_true rfl, Nat.le_of_ble_eq_true rfl⟩ ⟨Nat.le_of_ble_eq_true rfl, Nat.le_of_ble_eq_true rfl⟩ dL_does_304 mtC_len (fun hx => absurd hx (by decide)) (fun _ => ?_)
                                      exact does_t1 hC hr hZ htab rfl rfl rfl h
                                    · refine g_LXi (mt1 := mtC) (mt2 := mtA) (as := [.int a2]) hC hZ.1 (t_X9_pass hl9 N _ _ _ _ _ c34) mV_X9_pass wm_L_67 obC_0 rfl rfl (Nat.le_of_ble_eq_true rfl) ⟨Nat.le_of_ble_eq_true rfl, Nat.le_of_ble_eq_true rfl⟩ ⟨Nat.le_of_ble_eq_true rfl, Nat.le_of_ble_eq_true rfl⟩ dL_does_304 mtC_len (fun hx => absurd hx (by decide)) (fun _ => ?_)
                                      exact does_t2 hC hr hZ htab rfl rfl rfl h
                                    · refine g_LXi (mt1 := mtC) (mt2 := mtA) (as := [.int a2]) hC hZ.1 (t_X9_pass hl9 N _ _ _ _ _ c34) mV_X9_pass wm_L_67 obC_0 rfl rfl (Nat.le_of_ble_eq_true rfl) ⟨Nat.le_of_ble_eq_true rfl, Nat.le_of_ble_eq_true rfl⟩ ⟨Nat.le_of_ble_eq_true rfl, Nat.le_of_ble_eq_true rfl⟩ dL_does_304 mtC_len (fun hx => absurd hx (by decide)) (fun _ => ?_)
                                      exact does_t3 hC hr hZ htab rfl rfl rfl h
                                    refine g_LXi (mt1 := mtC) (mt2 := mtA) (as := [.int a2]) hC hZ.1 (t_X9_pass hl9 N _ _ _ _ _ c34) mV_X9_pass wm_L_67 obC_0 rfl rfl (Nat.le_of_ble_eq_true rfl) ⟨Nat.le_of_ble_eq_true rfl, Nat.le_of_ble_eq_true rfl⟩ ⟨Nat.le_of_ble_eq_true rfl, Nat.le_of_ble_eq_true rfl⟩ dL_does_304 mtC_len (fun _ => ?_) (fun hx => absurd rfl hx)
                                    refine g_widen (kc2 := 0) (ks2 := 0) (Nat.le_refl _) (Nat.le_refl _) ?_
                                    refine g_topM (fun M35 hM35 => ?_)
                                    replace h := gq_l_i hM35 h
                                    refine g_goto (tgt := 360) hC (by decide) dL_does_307 ?_
                                    exact g_weak [] rfl (t_L_does_360 hl9 hZ htab hC hr  v33 M35 h)
                                · replace h := gq_t c16 h
                                  refine g_aload_n hC 0 rfl rfl dL_does_285 ?_
                                  refine g_iload_n hC 2 rfl rfl dL_does_286 ?_
                                  refine g_iload_n hC 3 rfl rfl dL_does_287 ?_
                                  refine g_iload hC 4 rfl dL_does_288 ?_
                                  rcases gq_c_i h with ⟨v36, Cv36, c37, h⟩ | ⟨v36, Cv36, c37, h⟩ | ⟨v36, Cv36, c37, h⟩ | ⟨v36, Cv36, c37, h⟩
                                  rotate_left
                                  · refine g_LXi (mt1 := mtC) (mt2 := mtA) (as := [.int a2, .int a3, .int a4]) hC hZ.1 (t_X9_settle hl9 N _ _ _ _ _ _ _ c37) mV_X9_settle wm_L_64 obC_0 rfl rfl (Nat.le_of_ble_eq_true rfl) ⟨Nat.le_of_ble_eq_true rfl, Nat.le_of_ble_eq_true rfl⟩ ⟨Nat.le_of_ble_eq_true rfl, Nat.le_of_ble_eq_true rfl⟩ dL_does_290 mtC_len (fun hx => absurd hx (by decide)) (fun _ => ?_)
                                    exact does_t1 hC hr hZ htab rfl rfl rfl h
                                  · refine g_LXi (mt1 := mtC) (mt2 := mtA) (as := [.int a2, .int a3, .int a4]) hC hZ.1 (t_X9_settle hl9 N _ _ _ _ _ _ _ c37) mV_X9_settle wm_L_64 obC_0 rfl rfl (Nat.le_of_ble_eq_true rfl) ⟨Nat.le_of_ble_eq_true rfl, Nat.le_of_ble_eq_true rfl⟩ ⟨Nat.le_of_ble_eq_true rfl, Nat.le_of_ble_eq_true rfl⟩ dL_does_290 mtC_len (fun hx => absurd hx (by decide)) (fun _ => ?_)
                                    exact does_t2 hC hr hZ htab rfl rfl rfl h
                                  · refine g_LXi (mt1 := mtC) (mt2 := mtA) (as := [.int a2, .int a3, .int a4]) hC hZ.1 (t_X9_settle hl9 N _ _ _ _ _ _ _ c37) mV_X9_settle wm_L_64 obC_0 rfl rfl (Nat.le_of_ble_eq_true rfl) ⟨Nat.le_of_ble_eq_true rfl, Nat.le_of_ble_eq_true rfl⟩ ⟨Nat.le_of_ble_eq_true rfl, Nat.le_of_ble_eq_true rfl⟩ dL_does_290 mtC_len (fun hx => absurd hx (by decide)) (fun _ => ?_)
                                    exact does_t3 hC hr hZ htab rfl rfl rfl h
                                  refine g_LXi (mt1 := mtC) (mt2 := mtA) (as := [.int a2, .int a3, .int a4]) hC hZ.1 (t_X9_settle hl9 N _ _ _ _ _ _ _ c37) mV_X9_settle wm_L_64 obC_0 rfl rfl (Nat.le_of_ble_eq_true rfl) ⟨Nat.le_of_ble_eq_true rfl, Nat.le_of_ble_eq_true rfl⟩ ⟨Nat.le_of_ble_eq_true rfl, Nat.le_of_ble_eq_true rfl⟩ dL_does_290 mtC_len (fun _ => ?_) (fun hx => absurd rfl hx)
                                  refine g_widen (kc2 := 0) (ks2 := 0) (Nat.le_refl _) (Nat.le_refl _) ?_
                                  refine g_topM (fun M38 hM38 => ?_)
                                  replace h := gq_l_i hM38 h
                                  refine g_goto (tgt := 360) hC (by decide) dL_does_293 ?_
                                  exact g_weak [] rfl (t_L_does_360 hl9 hZ htab hC hr  v36 M38 h)
                              · replace h := gq_t c15 h
                                refine g_aload_n hC 0 rfl rfl dL_does_270 ?_
                                refine g_iload_n hC 2 rfl rfl dL_does_271 ?_
                                refine g_iload_n hC 3 rfl rfl dL_does_272 ?_
                                rcases gq_c_i h with ⟨v39, Cv39, c40, h⟩ | ⟨v39, Cv39, c40, h⟩ | ⟨v39, Cv39, c40, h⟩ | ⟨v39, Cv39, c40, h⟩
                                rotate_left
                                · refine g_LXi (mt1 := mtC) (mt2 := mtA) (as := [.int a2, .int a3]) hC hZ.1 (t_X9_claim hl9 N _ _ _ _ _ _ c40) mV_X9_claim wm_L_61 obC_0 rfl rfl (Nat.le_of_ble_eq_true rfl) ⟨Nat.le_of_ble_eq_true rfl, Nat.le_of_ble_eq_true rfl⟩ ⟨Nat.le_of_ble_eq_true rfl, Nat.le_of_ble_eq_true rfl⟩ dL_does_273 mtC_len (fun hx => absurd hx (by decide)) (fun _ => ?_)
                                  exact does_t1 hC hr hZ htab rfl rfl rfl h
                                · refine g_LXi (mt1 := mtC) (mt2 := mtA) (as := [.int a2, .int a3]) hC hZ.1 (t_X9_claim hl9 N _ _ _ _ _ _ c40) mV_X9_claim wm_L_61 obC_0 rfl rfl (Nat.le_of_ble_eq_true rfl) ⟨Nat.le_of_ble_eq_true rfl, Nat.le_of_ble_eq_true rfl⟩ ⟨Nat.le_of_ble_eq_true rfl, Nat.le_of_ble_eq_true rfl⟩ dL_does_273 mtC_len (fun hx => absurd hx (by decide)) (fun _ => ?_)
                                  exact does_t2 hC hr hZ htab rfl rfl rfl h
                                · refine g_LXi (mt1 := mtC) (mt2 := mtA) (as := [.int a2, .int a3]) hC hZ.1 (t_X9_claim hl9 N _ _ _ _ _ _ c40) mV_X9_claim wm_L_61 obC_0 rfl rfl (Nat.le_of_ble_eq_true rfl) ⟨Nat.le_of_ble_eq_true rfl, Nat.le_of_ble_eq_true rfl⟩ ⟨Nat.le_of_ble_eq_true rfl, Nat.le_of_ble_eq_true rfl⟩ dL_does_273 mtC_len (fun hx => absurd hx (by decide)) (fun _ => ?_)
                                  exact does_t3 hC hr hZ htab rfl rfl rfl h
                                refine g_LXi (mt1 := mtC) (mt2 := mtA) (as := [.int a2, .int a3]) hC hZ.1 (t_X9_claim hl9 N _ _ _ _ _ _ c40) mV_X9_claim wm_L_61 obC_0 rfl rfl (Nat.le_of_ble_eq_true rfl) ⟨Nat.le_of_ble_eq_true rfl, Nat.le_of_ble_eq_true rfl⟩ ⟨Nat.le_of_ble_eq_true rfl, Nat.le_of_ble_eq_true rfl⟩ dL_does_273 mtC_len (fun _ => ?_) (fun hx => absurd rfl hx)
                                refine g_widen (kc2 := 0) (ks2 := 0) (Nat.le_refl _) (Nat.le_refl _) ?_
                                refine g_topM (fun M41 hM41 => ?_)
                                replace h := gq_l_i hM41 h
                                refine g_goto (tgt := 360) hC (by decide) dL_does_276 ?_
                                exact g_weak [] rfl (t_L_does_360 hl9 hZ htab hC hr  v39 M41 h)
                            · replace h := gq_t c14 h
                              refine g_aload_n hC 0 rfl rfl dL_does_255 ?_
                              refine g_iload_n hC 2 rfl rfl dL_does_256 ?_
                              refine g_iload_n hC 3 rfl rfl dL_does_257 ?_
                              rcases gq_c_i h with ⟨v42, Cv42, c43, h⟩ | ⟨v42, Cv42, c43, h⟩ | ⟨v42, Cv42, c43, h⟩ | ⟨v42, Cv42, c43, h⟩
                              rotate_left
                              · refine g_LXi (mt1 := mtC) (mt2 := mtA) (as := [.int a2, .int a3]) hC hZ.1 (t_X9_pay hl9 N _ _ _ _ _ _ c43) mV_X9_pay wm_L_58 obC_0 rfl rfl (Nat.le_of_ble_eq_true rfl) ⟨Nat.le_of_ble_eq_true rfl, Nat.le_of_ble_eq_true rfl⟩ ⟨Nat.le_of_ble_eq_true rfl, Nat.le_of_ble_eq_true rfl⟩ dL_does_258 mtC_len (fun hx => absurd hx (by decide)) (fun _ => ?_)
                                exact does_t1 hC hr hZ htab rfl rfl rfl h
                              · refine g_LXi (mt1 := mtC) (mt2 := mtA) (as := [.int a2, .int a3]) hC hZ.1 (t_X9_pay hl9 N _ _ _ _ _ _ c43) mV_X9_pay wm_L_58 obC_0 rfl rfl (Nat.le_of_ble_eq_true rfl) ⟨Nat.le_of_ble_eq_true rfl, Nat.le_of_ble_eq_true rfl⟩ ⟨Nat.le_of_ble_eq_true rfl, Nat.le_of_ble_eq_true rfl⟩ dL_does_258 mtC_len (fun hx => absurd hx (by decide)) (fun _ => ?_)
                                exact does_t2 hC hr hZ htab rfl rfl rfl h
                              · refine g_LXi (mt1 := mtC) (mt2 := mtA) (as := [.int a2, .int a3]) hC hZ.1 (t_X9_pay hl9 N _ _ _ _ _ _ c43) mV_X9_pay wm_L_58 obC_0 rfl rfl (Nat.le_of_ble_eq_true rfl) ⟨Nat.le_of_ble_eq_true rfl, Nat.le_of_ble_eq_true rfl⟩ ⟨Nat.le_of_ble_eq_true rfl, Nat.le_of_ble_eq_true rfl⟩ dL_does_258 mtC_len (fun hx => absurd hx (by decide)) (fun _ => ?_)
                                exact does_t3 hC hr hZ htab rfl rfl rfl h
                              refine g_LXi (mt1 := mtC) (mt2 := mtA) (as := [.int a2, .int a3]) hC hZ.1 (t_X9_pay hl9 N _ _ _ _ _ _ c43) mV_X9_pay wm_L_58 obC_0 rfl rfl (Nat.le_of_ble_eq_true rfl) ⟨Nat.le_of_ble_eq_true rfl, Nat.le_of_ble_eq_true rfl⟩ ⟨Nat.le_of_ble_eq_true rfl, Nat.le_of_ble_eq_true rfl⟩ dL_does_258 mtC_len (fun _ => ?_) (fun hx => absurd rfl hx)
                              refine g_widen (kc2 := 0) (ks2 := 0) (Nat.le_refl _) (Nat.le_refl _) ?_
                              refine g_topM (fun M44 hM44 => ?_)
                              replace h := gq_l_i hM44 h
                              refine g_goto (tgt := 360) hC (by decide) dL_does_261 ?_
                              exact g_weak [] rfl (t_L_does_360 hl9 hZ htab hC hr  v42 M44 h)
                          · replace h := gq_t c13 h
                            refine g_aload_n hC 0 rfl rfl dL_does_238 ?_
                            refine g_iload_n hC 2 rfl rfl dL_does_239 ?_
                            refine g_iload_n hC 3 rfl rfl dL_does_240 ?_
                            refine g_iload hC 4 rfl dL_does_241 ?_
                            rcases gq_c_i h with ⟨v45, Cv45, c46, h⟩ | ⟨v45, Cv45, c46, h⟩ | ⟨v45, Cv45, c46, h⟩ | ⟨v45, Cv45, c46, h⟩
                            rotate_left
                            · refine g_LXi (mt1 := mtC) (mt2 := mtA) (as := [.int a2, .int a3, .int a4]) hC hZ.1 (t_X9_lorry hl9 N _ _ _ _ _ _ _ c46) mV_X9_lorry wm_L_55 obC_0 rfl rfl (Nat.le_of_ble_eq_true rfl) ⟨Nat.le_of_ble_eq_true rfl, Nat.le_of_ble_eq_true rfl⟩ ⟨Nat.le_of_ble_eq_true rfl, Nat.le_of_ble_eq_true rfl⟩ dL_does_243 mtC_len (fun hx => absurd hx (by decide)) (fun _ => ?_)
                              exact does_t1 hC hr hZ htab rfl rfl rfl h
                            · refine g_LXi (mt1 := mtC) (mt2 := mtA) (as := [.int a2, .int a3, .int a4]) hC hZ.1 (t_X9_lorry hl9 N _ _ _ _ _ _ _ c46) mV_X9_lorry wm_L_55 obC_0 rfl rfl (Nat.le_of_ble_eq_true rfl) ⟨Nat.le_of_ble_eq_true rfl, Nat.le_of_ble_eq_true rfl⟩ ⟨Nat.le_of_ble_eq_true rfl, Nat.le_of_ble_eq_true rfl⟩ dL_does_243 mtC_len (fun hx => absurd hx (by decide)) (fun _ => ?_)
                              exact does_t2 hC hr hZ htab rfl rfl rfl h
                            · refine g_LXi (mt1 := mtC) (mt2 := mtA) (as := [.int a2, .int a3, .int a4]) hC hZ.1 (t_X9_lorry hl9 N _ _ _ _ _ _ _ c46) mV_X9_lorry wm_L_55 obC_0 rfl rfl (Nat.le_of_ble_eq_true rfl) ⟨Nat.le_of_ble_eq_true rfl, Nat.le_of_ble_eq_true rfl⟩ ⟨Nat.le_of_ble_eq_true rfl, Nat.le_of_ble_eq_true rfl⟩ dL_does_243 mtC_len (fun hx => absurd hx (by decide)) (fun _ => ?_)
                              exact does_t3 hC hr hZ htab rfl rfl rfl h
                            refine g_LXi (mt1 := mtC) (mt2 := mtA) (as := [.int a2, .int a3, .int a4]) hC hZ.1 (t_X9_lorry hl9 N _ _ _ _ _ _ _ c46) mV_X9_lorry wm_L_55 obC_0 rfl rfl (Nat.le_of_ble_eq_true rfl) ⟨Nat.le_of_ble_eq_true rfl, Nat.le_of_ble_eq_true rfl⟩ ⟨Nat.le_of_ble_eq_true rfl, Nat.le_of_ble_eq_true rfl⟩ dL_does_243 mtC_len (fun _ => ?_) (fun hx => absurd rfl hx)
                            refine g_widen (kc2 := 0) (ks2 := 0) (Nat.le_refl _) (Nat.le_refl _) ?_
                            refine g_topM (fun M47 hM47 => ?_)
                            replace h := gq_l_i hM47 h
                            refine g_goto (tgt := 360) hC (by decide) dL_does_246 ?_
                            exact g_weak [] rfl (t_L_does_360 hl9 hZ htab hC hr  v45 M47 h)
                        · replace h := gq_t c12 h
                          refine g_aload_n hC 0 rfl rfl dL_does_221 ?_
                          refine g_iload_n hC 2 rfl rfl dL_does_222 ?_
                          refine g_iload_n hC 3 rfl rfl dL_does_223 ?_
                          refine g_iload hC 4 rfl dL_does_224 ?_
                          rcases gq_c_i h with ⟨v48, Cv48, c49, h⟩ | ⟨v48, Cv48, c49, h⟩ | ⟨v48, Cv48, c49, h⟩ | ⟨v48, Cv48, c49, h⟩
                          rotate_left
                          · refine g_LXi (mt1 := mtC) (mt2 := mtA) (as := [.int a2, .int a3, .int a4]) hC hZ.1 (t_X9_take hl9 N _ _ _ _ _ _ _ c49) mV_X9_take wm_L_52 obC_0 rfl rfl (Nat.le_of_ble_eq_true rfl) ⟨Nat.le_of_ble_eq_true rfl, Nat.le_of_ble_eq_true rfl⟩ ⟨Nat.le_of_ble_eq_true rfl, Nat.le_of_ble_eq_true rfl⟩ dL_does_226 mtC_len (fun hx => absurd hx (by decide)) (fun _ => ?_)
                            exact does_t1 hC hr hZ htab rfl rfl rfl h
                          · refine g_LXi (mt1 := mtC) (mt2 := mtA) (as := [.int a2, .int a3, .int a4]) hC hZ.1 (t_X9_take hl9 N _ _ _ _ _ _ _ c49) mV_X9_take wm_L_52 obC_0 rfl rfl (Nat.le_of_ble_eq_true rfl) ⟨Nat.le_of_ble_eq_true rfl, Nat.le_of_ble_eq_true rfl⟩ ⟨Nat.le_of_ble_eq_true rfl, Nat.le_of_ble_eq_true rfl⟩ dL_does_226 mtC_len (fun hx => absurd hx (by decide)) (fun _ => ?_)
                            exact does_t2 hC hr hZ htab rfl rfl rfl h
                          · refine g_LXi (mt1 := mtC) (mt2 := mtA) (as := [.int a2, .int a3, .int a4]) hC hZ.1 (t_X9_take hl9 N _ _ _ _ _ _ _ c49) mV_X9_take wm_L_52 obC_0 rfl rfl (Nat.le_of_ble_eq_true rfl) ⟨Nat.le_of_ble_eq_true rfl, Nat.le_of_ble_eq_true rfl⟩ ⟨Nat.le_of_ble_eq_true rfl, Nat.le_of_ble_eq_true rfl⟩ dL_does_226 mtC_len (fun hx => absurd hx (by decide)) (fun _ => ?_)
                            exact does_t3 hC hr hZ htab rfl rfl rfl h
                          refine g_LXi (mt1 := mtC) (mt2 := mtA) (as := [.int a2, .int a3, .int a4]) hC hZ.1 (t_X9_take hl9 N _ _ _ _ _ _ _ c49) mV_X9_take wm_L_52 obC_0 rfl rfl (Nat.le_of_ble_eq_true rfl) ⟨Nat.le_of_ble_eq_true rfl, Nat.le_of_ble_eq_true rfl⟩ ⟨Nat.le_of_ble_eq_true rfl, Nat.le_of_ble_eq_true rfl⟩ dL_does_226 mtC_len (fun _ => ?_) (fun hx => absurd rfl hx)
                          refine g_widen (kc2 := 0) (ks2 := 0) (Nat.le_refl _) (Nat.le_refl _) ?_
                          refine g_topM (fun M50 hM50 => ?_)
                          replace h := gq_l_i hM50 h
                          refine g_goto (tgt := 360) hC (by decide) dL_does_229 ?_
                          exact g_weak [] rfl (t_L_does_360 hl9 hZ htab hC hr  v48 M50 h)
                      · replace h := gq_t c11 h
                        refine g_aload_n hC 0 rfl rfl dL_does_206 ?_
                        refine g_iload_n hC 2 rfl rfl dL_does_207 ?_
                        refine g_iload_n hC 3 rfl rfl dL_does_208 ?_
                        rcases gq_c_i h with ⟨v51, Cv51, c52, h⟩ | ⟨v51, Cv51, c52, h⟩ | ⟨v51, Cv51, c52, h⟩ | ⟨v51, Cv51, c52, h⟩
                        rotate_left
                        · refine g_LXi (mt1 := mtC) (mt2 := mtA) (as := [.int a2, .int a3]) hC hZ.1 (t_X9_press hl9 N _ _ _ _ _ _ c52) mV_X9_press wm_L_49 obC_0 rfl rfl (Nat.le_of_ble_eq_true rfl) ⟨Nat.le_of_ble_eq_true rfl, Nat.le_of_ble_eq_true rfl⟩ ⟨Nat.le_of_ble_eq_true rfl, Nat.le_of_ble_eq_true rfl⟩ dL_does_209 mtC_len (fun hx => absurd hx (by decide)) (fun _ => ?_)
                          exact does_t1 hC hr hZ htab rfl rfl rfl h
                        · refine g_LXi (mt1 := mtC) (mt2 := mtA) (as := [.int a2, .int a3]) hC hZ.1 (t_X9_press hl9 N _ _ _ _ _ _ c52) mV_X9_press wm_L_49 obC_0 rfl rfl (Nat.le_of_ble_eq_true rfl) ⟨Nat.le_of_ble_eq_true rfl, Nat.le_of_ble_eq_true rfl⟩ ⟨Nat.le_of_ble_eq_true rfl, Nat.le_of_ble_eq_true rfl⟩ dL_does_209 mtC_len (fun hx => absurd hx (by decide)) (fun _ => ?_)
                          exact does_t2 hC hr hZ htab rfl rfl rfl h
                        · refine g_LXi (mt1 := mtC) (mt2 := mtA) (as := [.int a2, .int a3]) hC hZ.1 (t_X9_press hl9 N _ _ _ _ _ _ c52) mV_X9_press wm_L_49 obC_0 rfl rfl (Nat.le_of_ble_eq_true rfl) ⟨Nat.le_of_ble_eq_true rfl, Nat.le_of_ble_eq_true rfl⟩ ⟨Nat.le_of_ble_eq_true rfl, Nat.le_of_ble_eq_true rfl⟩ dL_does_209 mtC_len (fun hx => absurd hx (by decide)) (fun _ => ?_)
                          exact does_t3 hC hr hZ htab rfl rfl rfl h
                        refine g_LXi (mt1 := mtC) (mt2 := mtA) (as := [.int a2, .int a3]) hC hZ.1 (t_X9_press hl9 N _ _ _ _ _ _ c52) mV_X9_press wm_L_49 obC_0 rfl rfl (Nat.le_of_ble_eq_true rfl) ⟨Nat.le_of_ble_eq_true rfl, Nat.le_of_ble_eq_true rfl⟩ ⟨Nat.le_of_ble_eq_true rfl, Nat.le_of_ble_eq_true rfl⟩ dL_does_209 mtC_len (fun _ => ?_) (fun hx => absurd rfl hx)
                        refine g_widen (kc2 := 0) (ks2 := 0) (Nat.le_refl _) (Nat.le_refl _) ?_
                        refine g_topM (fun M53 hM53 => ?_)
                        replace h := gq_l_i hM53 h
                        refine g_goto (tgt := 360) hC (by decide) dL_does_212 ?_
                        exact g_weak [] rfl (t_L_does_360 hl9 hZ htab hC hr  v51 M53 h)
                    · replace h := gq_t c10 h
                      refine g_aload_n hC 0 rfl rfl dL_does_193 ?_
                      rcases gq_c_i h with ⟨v54, Cv54, c55, h⟩ | ⟨v54, Cv54, c55, h⟩ | ⟨v54, Cv54, c55, h⟩ | ⟨v54, Cv54, c55, h⟩
                      rotate_left
                      · refine g_LXi (mt1 := mtC) (mt2 := mtA) (as := []) hC hZ.1 (t_X9_end hl9 N _ _ _ _ c55) mV_X9_end wm_L_46 obC_0 rfl rfl (Nat.le_of_ble_eq_true rfl) ⟨Nat.le_of_ble_eq_true rfl, Nat.le_of_ble_eq_true rfl⟩ ⟨Nat.le_of_ble_eq_true rfl, Nat.le_of_ble_eq_true rfl⟩ dL_does_194 mtC_len (fun hx => absurd hx (by decide)) (fun _ => ?_)
                        exact does_t1 hC hr hZ htab rfl rfl rfl h
                      · refine g_LXi (mt1 := mtC) (mt2 := mtA) (as := []) hC hZ.1 (t_X9_end hl9 N _ _ _ _ c55) mV_X9_end wm_L_46 obC_0 rfl rfl (Nat.le_of_ble_eq_true rfl) ⟨Nat.le_of_ble_eq_true rfl, Nat.le_of_ble_eq_true rfl⟩ ⟨Nat.le_of_ble_eq_true rfl, Nat.le_of_ble_eq_true rfl⟩ dL_does_194 mtC_len (fun hx => absurd hx (by decide)) (fun _ => ?_)
                        exact does_t2 hC hr hZ htab rfl rfl rfl h
                      · refine g_LXi (mt1 := mtC) (mt2 := mtA) (as := []) hC hZ.1 (t_X9_end hl9 N _ _ _ _ c55) mV_X9_end wm_L_46 obC_0 rfl rfl (Nat.le_of_ble_eq_true rfl) ⟨Nat.le_of_ble_eq_true rfl, Nat.le_of_ble_eq_true rfl⟩ ⟨Nat.le_of_ble_eq_true rfl, Nat.le_of_ble_eq_true rfl⟩ dL_does_194 mtC_len (fun hx => absurd hx (by decide)) (fun _ => ?_)
                        exact does_t3 hC hr hZ htab rfl rfl rfl h
                      refine g_LXi (mt1 := mtC) (mt2 := mtA) (as := []) hC hZ.1 (t_X9_end hl9 N _ _ _ _ c55) mV_X9_end wm_L_46 obC_0 rfl rfl (Nat.le_of_ble_eq_true rfl) ⟨Nat.le_of_ble_eq_true rfl, Nat.le_of_ble_eq_true rfl⟩ ⟨Nat.le_of_ble_eq_true rfl, Nat.le_of_ble_eq_true rfl⟩ dL_does_194 mtC_len (fun _ => ?_) (fun hx => absurd rfl hx)
                      refine g_widen (kc2 := 0) (ks2 := 0) (Nat.le_refl _) (Nat.le_refl _) ?_
                      refine g_topM (fun M56 hM56 => ?_)
                      replace h := gq_l_i hM56 h
                      refine g_goto (tgt := 360) hC (by decide) dL_does_197 ?_
                      exact g_weak [] rfl (t_L_does_360 hl9 hZ htab hC hr  v54 M56 h)
                  · replace h := gq_t c9 h
                    refine g_aload_n hC 0 rfl rfl dL_does_180 ?_
                    rcases gq_c_i h with ⟨v57, Cv57, c58, h⟩ | ⟨v57, Cv57, c58, h⟩ | ⟨v57, Cv57, c58, h⟩ | ⟨v57, Cv57, c58, h⟩
                    rotate_left
                    · refine g_LXi (mt1 := mtC) (mt2 := mtA) (as := []) hC hZ.1 (t_X9_open hl9 N _ _ _ _ c58) mV_X9_open wm_L_42 obC_0 rfl rfl (Nat.le_of_ble_eq_true rfl) ⟨Nat.le_of_ble_eq_true rfl, Nat.le_of_ble_eq_true rfl⟩ ⟨Nat.le_of_ble_eq_true rfl, Nat.le_of_ble_eq_true rfl⟩ dL_does_181 mtC_len (fun hx => absurd hx (by decide)) (fun _ => ?_)
                      exact does_t1 hC hr hZ htab rfl rfl rfl h
                    · refine g_LXi (mt1 := mtC) (mt2 := mtA) (as := []) hC hZ.1 (t_X9_open hl9 N _ _ _ _ c58) mV_X9_open wm_L_42 obC_0 rfl rfl (Nat.le_of_ble_eq_true rfl) ⟨Nat.le_of_ble_eq_true rfl, Nat.le_of_ble_eq_true rfl⟩ ⟨Nat.le_of_ble_eq_true rfl, Nat.le_of_ble_eq_true rfl⟩ dL_does_181 mtC_len (fun hx => absurd hx (by decide)) (fun _ => ?_)
                      exact does_t2 hC hr hZ htab rfl rfl rfl h
                    · refine g_LXi (mt1 := mtC) (mt2 := mtA) (as := []) hC hZ.1 (t_X9_open hl9 N _ _ _ _ c58) mV_X9_open wm_L_42 obC_0 rfl rfl (Nat.le_of_ble_eq_true rfl) ⟨Nat.le_of_ble_eq_true rfl, Nat.le_of_ble_eq_true rfl⟩ ⟨Nat.le_of_ble_eq_true rfl, Nat.le_of_ble_eq_true rfl⟩ dL_does_181 mtC_len (fun hx => absurd hx (by decide)) (fun _ => ?_)
                      exact does_t3 hC hr hZ htab rfl rfl rfl h
                    refine g_LXi (mt1 := mtC) (mt2 := mtA) (as := []) hC hZ.1 (t_X9_open hl9 N _ _ _ _ c58) mV_X9_open wm_L_42 obC_0 rfl rfl (Nat.le_of_ble_eq_true rfl) ⟨Nat.le_of_ble_eq_true rfl, Nat.le_of_ble_eq_true rfl⟩ ⟨Nat.le_of_ble_eq_true rfl, Nat.le_of_ble_eq_true rfl⟩ dL_does_181 mtC_len (fun _ => ?_) (fun hx => absurd rfl hx)
                    refine g_widen (kc2 := 0) (ks2 := 0) (Nat.le_refl _) (Nat.le_refl _) ?_
                    refine g_topM (fun M59 hM59 => ?_)
                    replace h := gq_l_i hM59 h
                    refine g_goto (tgt := 360) hC (by decide) dL_does_184 ?_
                    exact g_weak [] rfl (t_L_does_360 hl9 hZ htab hC hr  v57 M59 h)
                · replace h := gq_t c8 h
                  refine g_aload_n hC 0 rfl rfl dL_does_157 ?_
                  refine g_iload_n hC 2 rfl rfl dL_does_158 ?_
                  refine g_iload_n hC 3 rfl rfl dL_does_159 ?_
                  refine g_iload hC 4 rfl dL_does_160 ?_
                  refine g_iload hC 5 rfl dL_does_162 ?_
                  refine g_iload hC 6 rfl dL_does_164 ?_
                  refine g_iload hC 7 rfl dL_does_166 ?_
                  rcases gq_c_i h with ⟨v60, Cv60, c61, h⟩ | ⟨v60, Cv60, c61, h⟩ | ⟨v60, Cv60, c61, h⟩ | ⟨v60, Cv60, c61, h⟩
                  rotate_left
                  · refine g_LXi (mt1 := mtC) (mt2 := mtA) (as := [.int a2, .int a3, .int a4, .int a5, .int a6, .int a7]) hC hZ.1 (t_X9_land hl9 N _ _ _ _ _ _ _ _ _ _ c61) mV_X9_land wm_L_38 obC_0 rfl rfl (Nat.le_of_ble_eq_true rfl) ⟨Nat.le_of_ble_eq_true rfl, Nat.le_of_ble_eq_true rfl⟩ ⟨Nat.le_of_ble_eq_true rfl, Nat.le_of_ble_eq_true rfl⟩ dL_does_168 mtC_len (fun hx => absurd hx (by decide)) (fun _ => ?_)
                    exact does_t1 hC hr hZ htab rfl rfl rfl h
                  · refine g_LXi (mt1 := mtC) (mt2 := mtA) (as := [.int a2, .int a3, .int a4, .int a5, .int a6, .int a7]) hC hZ.1 (t_X9_land hl9 N _ _ _ _ _ _ _ _ _ _ c61) mV_X9_land wm_L_38 obC_0 rfl rfl (Nat.le_of_ble_eq_true rfl) ⟨Nat.le_of_ble_eq_true rfl, Nat.le_of_ble_eq_true rfl⟩ ⟨Nat.le_of_ble_eq_true rfl, Nat.le_of_ble_eq_true rfl⟩ dL_does_168 mtC_len (fun hx => absurd hx (by decide)) (fun _ => ?_)
                    exact does_t2 hC hr hZ htab rfl rfl rfl h
                  · refine g_LXi (mt1 := mtC) (mt2 := mtA) (as := [.int a2, .int a3, .int a4, .int a5, .int a6, .int a7]) hC hZ.1 (t_X9_land hl9 N _ _ _ _ _ _ _ _ _ _ c61) mV_X9_land wm_L_38 obC_0 rfl rfl (Nat.le_of_ble_eq_true rfl) ⟨Nat.le_of_ble_eq_true rfl, Nat.le_of_ble_eq_true rfl⟩ ⟨Nat.le_of_ble_eq_true rfl, Nat.le_of_ble_eq_true rfl⟩ dL_does_168 mtC_len (fun hx => absurd hx (by decide)) (fun _ => ?_)
                    exact does_t3 hC hr hZ htab rfl rfl rfl h
                  refine g_LXi (mt1 := mtC) (mt2 := mtA) (as := [.int a2, .int a3, .int a4, .int a5, .int a6, .int a7]) hC hZ.1 (t_X9_land hl9 N _ _ _ _ _ _ _ _ _ _ c61) mV_X9_land wm_L_38 obC_0 rfl rfl (Nat.le_of_ble_eq_true rfl) ⟨Nat.le_of_ble_eq_true rfl, Nat.le_of_ble_eq_true rfl⟩ ⟨Nat.le_of_ble_eq_true rfl, Nat.le_of_ble_eq_true rfl⟩ dL_does_168 mtC_len (fun _ => ?_) (fun hx => absurd rfl hx)
                  refine g_widen (kc2 := 0) (ks2 := 0) (Nat.le_refl _) (Nat.le_refl _) ?_
                  refine g_topM (fun M62 hM62 => ?_)
                  replace h := gq_l_i hM62 h
                  refine g_goto (tgt := 360) hC (by decide) dL_does_171 ?_
                  exact g_weak [] rfl (t_L_does_360 hl9 hZ htab hC hr  v60 M62 h)
              · replace h := gq_t c7 h
                refine g_aload_n hC 0 rfl rfl dL_does_125 ?_
                refine g_iload_n hC 2 rfl rfl dL_does_126 ?_
                refine g_iload_n hC 3 rfl rfl dL_does_127 ?_
                refine g_iconst (v := 1) hC (by decide) dL_does_128 ?_
                refine g_icmp_ne (tgt := 136) hC (by decide) dL_does_129 (fun c63 => ?_) (fun c63 => ?_)
                · replace h := gq_f c63 h
                  refine g_iconst (v := 0) hC (by decide) dL_does_136 ?_
                  exact g_weak [] rfl (t_L_does_137 hl9 hZ htab hC hr  a2 0 M h)
                · replace h := gq_t c63 h
                  refine g_iconst (v := 1) hC (by decide) dL_does_132 ?_
                  refine g_goto (tgt := 137) hC (by decide) dL_does_133 ?_
                  exact g_weak [] rfl (t_L_does_137 hl9 hZ htab hC hr  a2 1 M h)
            · replace h := gq_t c6 h
              refine g_aload_n hC 0 rfl rfl dL_does_93 ?_
              refine g_iload_n hC 2 rfl rfl dL_does_94 ?_
              refine g_iload_n hC 3 rfl rfl dL_does_95 ?_
              refine g_iconst (v := 1) hC (by decide) dL_does_96 ?_
              refine g_icmp_ne (tgt := 104) hC (by decide) dL_does_97 (fun c64 => ?_) (fun c64 => ?_)
              · replace h := gq_f c64 h
                refine g_iconst (v := 0) hC (by decide) dL_does_104 ?_
                exact g_weak [] rfl (t_L_does_105 hl9 hZ htab hC hr  a2 0 M h)
              · replace h := gq_t c64 h
                refine g_iconst (v := 1) hC (by decide) dL_does_100 ?_
                refine g_goto (tgt := 105) hC (by decide) dL_does_101 ?_
                exact g_weak [] rfl (t_L_does_105 hl9 hZ htab hC hr  a2 1 M h)
          · replace h := gq_t c5 h
            refine g_aload_n hC 0 rfl rfl dL_does_77 ?_
            refine g_iload_n hC 2 rfl rfl dL_does_78 ?_
            refine g_iload_n hC 3 rfl rfl dL_does_79 ?_
            refine g_iload hC 4 rfl dL_does_80 ?_
            rcases gq_c_i h with ⟨v65, Cv65, c66, h⟩ | ⟨v65, Cv65, c66, h⟩ | ⟨v65, Cv65, c66, h⟩ | ⟨v65, Cv65, c66, h⟩
            rotate_left
            · refine g_LXi (mt1 := mtC) (mt2 := mtA) (as := [.int a2, .int a3, .int a4]) hC hZ.1 (t_X9_buyer hl9 N _ _ _ _ _ _ _ c66) mV_X9_buyer wm_L_28 obC_0 rfl rfl (Nat.le_of_ble_eq_true rfl) ⟨Nat.le_of_ble_eq_true rfl, Nat.le_of_ble_eq_true rfl⟩ ⟨Nat.le_of_ble_eq_true rfl, Nat.le_of_ble_eq_true rfl⟩ dL_does_82 mtC_len (fun hx => absurd hx (by decide)) (fun _ => ?_)
              exact does_t1 hC hr hZ htab rfl rfl rfl h
            · refine g_LXi (mt1 := mtC) (mt2 := mtA) (as := [.int a2, .int a3, .int a4]) hC hZ.1 (t_X9_buyer hl9 N _ _ _ _ _ _ _ c66) mV_X9_buyer wm_L_28 obC_0 rfl rfl (Nat.le_of_ble_eq_true rfl) ⟨Nat.le_of_ble_eq_true rfl, Nat.le_of_ble_eq_true rfl⟩ ⟨Nat.le_of_ble_eq_true rfl, Nat.le_of_ble_eq_true rfl⟩ dL_does_82 mtC_len (fun hx => absurd hx (by decide)) (fun _ => ?_)
              exact does_t2 hC hr hZ htab rfl rfl rfl h
            · refine g_LXi (mt1 := mtC) (mt2 := mtA) (as := [.int a2, .int a3, .int a4]) hC hZ.1 (t_X9_buyer hl9 N _ _ _ _ _ _ _ c66) mV_X9_buyer wm_L_28 obC_0 rfl rfl (Nat.le_of_ble_eq_true rfl) ⟨Nat.le_of_ble_eq_true rfl, Nat.le_of_ble_eq_true rfl⟩ ⟨Nat.le_of_ble_eq_true rfl, Nat.le_of_ble_eq_true rfl⟩ dL_does_82 mtC_len (fun hx => absurd hx (by decide)) (fun _ => ?_)
              exact does_t3 hC hr hZ htab rfl rfl rfl h
            refine g_LXi (mt1 := mtC) (mt2 := mtA) (as := [.int a2, .int a3, .int a4]) hC hZ.1 (t_X9_buyer hl9 N _ _ _ _ _ _ _ c66) mV_X9_buyer wm_L_28 obC_0 rfl rfl (Nat.le_of_ble_eq_true rfl) ⟨Nat.le_of_ble_eq_true rfl, Nat.le_of_ble_eq_true rfl⟩ ⟨Nat.le_of_ble_eq_true rfl, Nat.le_of_ble_eq_true rfl⟩ dL_does_82 mtC_len (fun _ => ?_) (fun hx => absurd rfl hx)
            refine g_widen (kc2 := 0) (ks2 := 0) (Nat.le_refl _) (Nat.le_refl _) ?_
            refine g_topM (fun M67 hM67 => ?_)
            replace h := gq_l_i hM67 h
            refine g_goto (tgt := 360) hC (by decide) dL_does_85 ?_
            exact g_weak [] rfl (t_L_does_360 hl9 hZ htab hC hr  v65 M67 h)
        · replace h := gq_t c4 h
          refine g_aload_n hC 0 rfl rfl dL_does_63 ?_
          refine g_iload_n hC 2 rfl rfl dL_does_64 ?_
          refine g_iload_n hC 3 rfl rfl dL_does_65 ?_
          rcases gq_c_i h with ⟨v68, Cv68, c69, h⟩ | ⟨v68, Cv68, c69, h⟩ | ⟨v68, Cv68, c69, h⟩ | ⟨v68, Cv68, c69, h⟩
          rotate_left
          · refine g_LXi (mt1 := mtC) (mt2 := mtA) (as := [.int a2, .int a3]) hC hZ.1 (t_X9_step hl9 N _ _ _ _ _ _ c69) mV_X9_step wm_L_24 obC_0 rfl rfl (Nat.le_of_ble_eq_true rfl) ⟨Nat.le_of_ble_eq_true rfl, Nat.le_of_ble_eq_true rfl⟩ ⟨Nat.le_of_ble_eq_true rfl, Nat.le_of_ble_eq_true rfl⟩ dL_does_66 mtC_len (fun hx => absurd hx (by decide)) (fun _ => ?_)
            exact does_t1 hC hr hZ htab rfl rfl rfl h
          · refine g_LXi (mt1 := mtC) (mt2 := mtA) (as := [.int a2, .int a3]) hC hZ.1 (t_X9_step hl9 N _ _ _ _ _ _ c69) mV_X9_step wm_L_24 obC_0 rfl rfl (Nat.le_of_ble_eq_true rfl) ⟨Nat.le_of_ble_eq_true rfl, Nat.le_of_ble_eq_true rfl⟩ ⟨Nat.le_of_ble_eq_true rfl, Nat.le_of_ble_eq_true rfl⟩ dL_does_66 mtC_len (fun hx => absurd hx (by decide)) (fun _ => ?_)
            exact does_t2 hC hr hZ htab rfl rfl rfl h
          · refine g_LXi (mt1 := mtC) (mt2 := mtA) (as := [.int a2, .int a3]) hC hZ.1 (t_X9_step hl9 N _ _ _ _ _ _ c69) mV_X9_step wm_L_24 obC_0 rfl rfl (Nat.le_of_ble_eq_true rfl) ⟨Nat.le_of_ble_eq_true rfl, Nat.le_of_ble_eq_true rfl⟩ ⟨Nat.le_of_ble_eq_true rfl, Nat.le_of_ble_eq_true rfl⟩ dL_does_66 mtC_len (fun hx => absurd hx (by decide)) (fun _ => ?_)
            exact does_t3 hC hr hZ htab rfl rfl rfl h
          refine g_LXi (mt1 := mtC) (mt2 := mtA) (as := [.int a2, .int a3]) hC hZ.1 (t_X9_step hl9 N _ _ _ _ _ _ c69) mV_X9_step wm_L_24 obC_0 rfl rfl (Nat.le_of_ble_eq_true rfl) ⟨Nat.le_of_ble_eq_true rfl, Nat.le_of_ble_eq_true rfl⟩ ⟨Nat.le_of_ble_eq_true rfl, Nat.le_of_ble_eq_true rfl⟩ dL_does_66 mtC_len (fun _ => ?_) (fun hx => absurd rfl hx)
          refine g_widen (kc2 := 0) (ks2 := 0) (Nat.le_refl _) (Nat.le_refl _) ?_
          refine g_topM (fun M70 hM70 => ?_)
          replace h := gq_l_i hM70 h
          refine g_goto (tgt := 360) hC (by decide) dL_does_69 ?_
          exact g_weak [] rfl (t_L_does_360 hl9 hZ htab hC hr  v68 M70 h)
      · replace h := gq_t c3 h
        refine g_aload_n hC 0 rfl rfl dL_does_45 ?_
        refine g_iload_n hC 2 rfl rfl dL_does_46 ?_
        refine g_iload_n hC 3 rfl rfl dL_does_47 ?_
        refine g_iload hC 4 rfl dL_does_48 ?_
        refine g_iload hC 5 rfl dL_does_50 ?_
        rcases gq_c_i h with ⟨v71, Cv71, c72, h⟩ | ⟨v71, Cv71, c72, h⟩ | ⟨v71, Cv71, c72, h⟩ | ⟨v71, Cv71, c72, h⟩
        rotate_left
        · refine g_LSXi (as := [.ref (ad 0), .int a2, .int a3, .int a4, .int a5]) hC hZ.1 (t_L_told hl9 N _ _ _ _ _ _ _ _ c72) mS_L_told wm_L_18 rfl rfl (Nat.le_of_ble_eq_true rfl) ⟨Nat.le_of_ble_eq_true rfl, Nat.le_of_ble_eq_true rfl⟩ ⟨Nat.le_of_ble_eq_true rfl, Nat.le_of_ble_eq_true rfl⟩ dL_does_52 (fun hx => absurd hx (by decide)) (fun _ => ?_)
          exact does_t1 hC hr hZ htab rfl rfl rfl h
        · refine g_LSXi (as := [.ref (ad 0), .int a2, .int a3, .int a4, .int a5]) hC hZ.1 (t_L_told hl9 N _ _ _ _ _ _ _ _ c72) mS_L_told wm_L_18 rfl rfl (Nat.le_of_ble_eq_true rfl) ⟨Nat.le_of_ble_eq_true rfl, Nat.le_of_ble_eq_true rfl⟩ ⟨Nat.le_of_ble_eq_true rfl, Nat.le_of_ble_eq_true rfl⟩ dL_does_52 (fun hx => absurd hx (by decide)) (fun _ => ?_)
          exact does_t2 hC hr hZ htab rfl rfl rfl h
        · refine g_LSXi (as := [.ref (ad 0), .int a2, .int a3, .int a4, .int a5]) hC hZ.1 (t_L_told hl9 N _ _ _ _ _ _ _ _ c72) mS_L_told wm_L_18 rfl rfl (Nat.le_of_ble_eq_true rfl) ⟨Nat.le_of_ble_eq_true rfl, Nat.le_of_ble_eq_true rfl⟩ ⟨Nat.le_of_ble_eq_true rfl, Nat.le_of_ble_eq_true rfl⟩ dL_does_52 (fun hx => absurd hx (by decide)) (fun _ => ?_)
          exact does_t3 hC hr hZ htab rfl rfl rfl h
        refine g_LSXi (as := [.ref (ad 0), .int a2, .int a3, .int a4, .int a5]) hC hZ.1 (t_L_told hl9 N _ _ _ _ _ _ _ _ c72) mS_L_told wm_L_18 rfl rfl (Nat.le_of_ble_eq_true rfl) ⟨Nat.le_of_ble_eq_true rfl, Nat.le_of_ble_eq_true rfl⟩ ⟨Nat.le_of_ble_eq_true rfl, Nat.le_of_ble_eq_true rfl⟩ dL_does_52 (fun _ => ?_) (fun hx => absurd rfl hx)
        refine g_widen (kc2 := 0) (ks2 := 0) (Nat.le_refl _) (Nat.le_refl _) ?_
        refine g_goto (tgt := 360) hC (by decide) dL_does_55 ?_
        exact g_weak [] rfl (t_L_does_360 hl9 hZ htab hC hr  v71 Cv71 h)
    · replace h := gq_t c2 h
      refine g_aload_n hC 0 rfl rfl dL_does_20 ?_
      refine g_iload_n hC 2 rfl rfl dL_does_21 ?_
      refine g_iload_n hC 3 rfl rfl dL_does_22 ?_
      refine g_iload hC 4 rfl dL_does_23 ?_
      refine g_iconst (v := 1) hC (by decide) dL_does_25 ?_
      refine g_icmp_ne (tgt := 33) hC (by decide) dL_does_26 (fun c73 => ?_) (fun c73 => ?_)
      · replace h := gq_f c73 h
        refine g_iconst (v := 0) hC (by decide) dL_does_33 ?_
        exact g_weak [] rfl (t_L_does_34 hl9 hZ htab hC hr  a2 a3 0 M h)
      · replace h := gq_t c73 h
        refine g_iconst (v := 1) hC (by decide) dL_does_29 ?_
        refine g_goto (tgt := 34) hC (by decide) dL_does_30 ?_
        exact g_weak [] rfl (t_L_does_34 hl9 hZ htab hC hr  a2 a3 1 M h)
  · replace h := gq_t c1 h
    refine g_aload_n hC 0 rfl rfl dL_does_4 ?_
    refine g_iload_n hC 2 rfl rfl dL_does_5 ?_
    refine g_iload_n hC 3 rfl rfl dL_does_6 ?_
    refine g_iload hC 4 rfl dL_does_7 ?_
    rcases gq_c_i h with ⟨v74, Cv74, c75, h⟩ | ⟨v74, Cv74, c75, h⟩ | ⟨v74, Cv74, c75, h⟩ | ⟨v74, Cv74, c75, h⟩
    rotate_left
    · refine g_LXi (mt1 := mtC) (mt2 := mtA) (as := [.int a2, .int a3, .int a4]) hC hZ.1 (t_X9_quota hl9 N _ _ _ _ _ _ _ c75) mV_X9_quota wm_L_8 obC_0 rfl rfl (Nat.le_of_ble_eq_true rfl) ⟨Nat.le_of_ble_eq_true rfl, Nat.le_of_ble_eq_true rfl⟩ ⟨Nat.le_of_ble_eq_true rfl, Nat.le_of_ble_eq_true rfl⟩ dL_does_9 mtC_len (fun hx => absurd hx (by decide)) (fun _ => ?_)
      exact does_t1 hC hr hZ htab rfl rfl rfl h
    · refine g_LXi (mt1 := mtC) (mt2 := mtA) (as := [.int a2, .int a3, .int a4]) hC hZ.1 (t_X9_quota hl9 N _ _ _ _ _ _ _ c75) mV_X9_quota wm_L_8 obC_0 rfl rfl (Nat.le_of_ble_eq_true rfl) ⟨Nat.le_of_ble_eq_true rfl, Nat.le_of_ble_eq_true rfl⟩ ⟨Nat.le_of_ble_eq_true rfl, Nat.le_of_ble_eq_true rfl⟩ dL_does_9 mtC_len (fun hx => absurd hx (by decide)) (fun _ => ?_)
      exact does_t2 hC hr hZ htab rfl rfl rfl h
    · refine g_LXi (mt1 := mtC) (mt2 := mtA) (as := [.int a2, .int a3, .int a4]) hC hZ.1 (t_X9_quota hl9 N _ _ _ _ _ _ _ c75) mV_X9_quota wm_L_8 obC_0 rfl rfl (Nat.le_of_ble_eq_true rfl) ⟨Nat.le_of_ble_eq_true rfl, Nat.le_of_ble_eq_true rfl⟩ ⟨Nat.le_of_ble_eq_true rfl, Nat.le_of_ble_eq_true rfl⟩ dL_does_9 mtC_len (fun hx => absurd hx (by decide)) (fun _ => ?_)
      exact does_t3 hC hr hZ htab rfl rfl rfl h
    refine g_LXi (mt1 := mtC) (mt2 := mtA) (as := [.int a2, .int a3, .int a4]) hC hZ.1 (t_X9_quota hl9 N _ _ _ _ _ _ _ c75) mV_X9_quota wm_L_8 obC_0 rfl rfl (Nat.le_of_ble_eq_true rfl) ⟨Nat.le_of_ble_eq_true rfl, Nat.le_of_ble_eq_true rfl⟩ ⟨Nat.le_of_ble_eq_true rfl, Nat.le_of_ble_eq_true rfl⟩ dL_does_9 mtC_len (fun _ => ?_) (fun hx => absurd rfl hx)
    refine g_widen (kc2 := 0) (ks2 := 0) (Nat.le_refl _) (Nat.le_refl _) ?_
    refine g_topM (fun M76 hM76 => ?_)
    replace h := gq_l_i hM76 h
    refine g_goto (tgt := 360) hC (by decide) dL_does_12 ?_
    exact g_weak [] rfl (t_L_does_360 hl9 hZ htab hC hr  v74 M76 h)
end
