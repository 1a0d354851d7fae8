/-! the law from its entry -/
section GL
variable {p : Program} {l : Launch} {e : Env} {R : Room} {s : State} {m : MethodId} {args : Array Value} {below : List Frame} {meth : Method} {c : Code} {Q : State → Prop}
variable {D : va_G} {A : Nat → Prop} {cI cZ cL : ClassId} {own : String} {cc : ByteArray} {nL : Nat}
variable {pc : Nat} {L : List (Nat × Value)} {st : List Value} {kc ks : Nat} {ws : va_W}
theorem gl_astore_n (hC : gc_C p s m args meth c D A cI cZ own cc nL) {k : Fin 4} {i : Nat} {x : Nat} {L2 : List (Nat × Value)} (hi : (k : Nat) = i) (hn : i < nL) (hl2 : (i, Value.ref x) :: L.filter (fun q => !(q.1 == i) && !(q.1 + 1 == i && q.2.category == 2)) = L2) (d : decode cc pc = .ok (.astore_n k, 1)) (kk : gc_W p l e R s m args below meth c D A nL Q ws (pc + 1) L2 st kc ks) : gc_W p l e R s m args below meth c D A nL Q ws pc L (.ref x :: st) kc ks := fun H locs ls hP hD hS hl => lv_astore_n hC.1 hC.2.1 d hi hl hn hl2 (fun ls hl => (kk H locs ls hP hD hS hl))
theorem gl_astore (hC : gc_C p s m args meth c D A cI cZ own cc nL) {i : Nat} {x : Nat} {L2 : List (Nat × Value)} (hn : i < nL) (hl2 : (i, Value.ref x) :: L.filter (fun q => !(q.1 == i) && !(q.1 + 1 == i && q.2.category == 2)) = L2) (d : decode cc pc = .ok (.astore i, 2)) (kk : gc_W p l e R s m args below meth c D A nL Q ws (pc + 2) L2 st kc ks) : gc_W p l e R s m args below meth c D A nL Q ws pc L (.ref x :: st) kc ks := fun H locs ls hP hD hS hl => lv_astore hC.1 hC.2.1 d hl hn hl2 (fun ls hl => (kk H locs ls hP hD hS hl))
end GL
theorem lw_noTrace {l : Launch} (hflags : l.flags = flags0) : l.stackTraces = false := by
  unfold Launch.stackTraces
  rw [hflags]
  decide +kernel
theorem gl_arr {args : Array Value} {s : State} {ty : FieldType} (h : (Cond.arrayClass ty).before args s = true) : ∃ cA : ClassId, ArrOfT s cA ty ∧ s.vm.findClass ("[" ++ ty.toString) = some cA := by
  obtain ⟨cA, kA, comp, h1, h2, h3⟩ := Cond.arrayClass_spec h
  exact ⟨cA, fun n z => ⟨fun k h => (by cases h), kA, h2, comp, h3⟩, h1⟩
theorem gl_str {args : Array Value} {s : State} {k : Nat} {tx : String} (h1 : (Cond.stringRef RX9 k tx).before args s = true) (h2 : (Cond.exactly (.string RX9 k) "java/lang/String").before args s = true) : ∃ sa, vk_R RX9 k tx sa s := by
  obtain ⟨a, c, cA, kA, q1, -⟩ := Cond.exactly_spec (args := args) (first := s) (o := none) (s := s) (idx := []) (t := .string RX9 k) (cls := "java/lang/String") h2
  exact ⟨a, vk_R.of h1 q1⟩
set_option maxHeartbeats 1000000 in
set_option maxRecDepth 20000 in
theorem lw_world {s : State} {b : Nat} (hts : ∀ w ∈ lw_tbl, w.before #[Value.ref b] s = true) (hgv : (Jvm.Cond.and given_1 narrow_1).before #[Value.ref b] s = true) : (∃ (D : va_G) (cI : ClassId), gq_K D cI cI s) ∧ gq_Zn (lw_A s) s ∧ ∀ w ∈ gc_nest, va_Nw w s := by
  have htsG : ∀ w ∈ gT, w.before #[Value.ref b] s = true := fun w h => hts w (gT_in w h)
  have hfl := flat_of_before _ hgv
  have hA : ∀ a : Nat, a < s.heap.size → ¬ (fun q : Nat => s.heap.size ≤ q) a := fun a h => Nat.not_le.mpr h
  refine ⟨?_, ⟨⟨vx_Zqof (hts _ (lw_2 159 rfl)) (hts _ (lw_1 11 rfl)) (hfl _ (by decide +kernel)) hA, vx_Zqof (hts _ (lw_2 161 rfl)) (hts _ (lw_1 11 rfl)) (hfl _ (by decide +kernel)) hA, ?_, ?_⟩, ?_⟩, fun w hw => va_Nw.of (gc_nest_ok w hw).1 (hts w (gc_nest_in w hw))⟩
  · obtain ⟨cI, hI1, hI2⟩ := gl_arr (htsG _ wa_int)
    obtain ⟨cX0, iX0, hkX0⟩ := u_known (C := RX0) (T := TX0) (N := 7) (n := 7) htsG inX0 (htsG (.instantiable RX0 7) wj_X0)
    obtain ⟨cX1, iX1, hkX1⟩ := u_known (C := RX1) (T := TX1) (N := 14) (n := 14) htsG inX1 (htsG (.instantiable RX1 14) wj_X1)
    obtain ⟨cX2, iX2, hkX2⟩ := u_known (C := RX2) (T := TX2) (N := 5) (n := 5) htsG inX2 (htsG (.instantiable RX2 5) wj_X2)
    obtain ⟨cX3, iX3, hkX3⟩ := u_known (C := RX3) (T := TX3) (N := 8) (n := 8) htsG inX3 (htsG (.instantiable RX3 8) wj_X3)
    obtain ⟨cX4, iX4, hkX4⟩ := u_known (C := RX4) (T := TX4) (N := 3) (n := 3) htsG inX4 (htsG (.instantiable RX4 3) wj_X4)
    obtain ⟨cX5, iX5, hkX5⟩ := u_known (C := RX5) (T := TX5) (N := 5) (n := 5) htsG inX5 (htsG (.instantiable RX5 5) wj_X5)
    obtain ⟨cX6, iX6, hkX6⟩ := u_known (C := RX6) (T := TX6) (N := 9) (n := 9) htsG inX6 (htsG (.instantiable RX6 9) wj_X6)
    obtain ⟨cX7, iX7, hkX7⟩ := u_known (C := RX7) (T := TX7) (N := 3) (n := 3) htsG inX7 (htsG (.instantiable RX7 3) wj_X7)
    obtain ⟨cX8, iX8, hkX8⟩ := u_known (C := RX8) (T := TX8) (N := 1) (n := 1) htsG inX8 (htsG (.instantiable RX8 1) wj_X8)
    obtain ⟨cX9, iX9, hkX9⟩ := u_known (C := RX9) (T := TX9) (N := 12) (n := 12) htsG inX9 (htsG (.instantiable RX9 12) wj_X9)
    refine ⟨(fun k => if k = 0 then cX0 else if k = 1 then cX1 else if k = 2 then cX2 else if k = 3 then cX3 else if k = 4 then cX4 else if k = 5 then cX5 else if k = 6 then cX6 else if k = 7 then cX7 else if k = 8 then cX8 else cX9, fun k => if k = 0 then iX0 else if k = 1 then iX1 else if k = 2 then iX2 else if k = 3 then iX3 else if k = 4 then iX4 else if k = 5 then iX5 else if k = 6 then iX6 else if k = 7 then iX7 else if k = 8 then iX8 else iX9), cI, fun k q hq => ?_, fun k q hq => ?_⟩
    · match k, hq with
      | 0, hq => cases hq; exact hkX0
      | 1, hq => cases hq; exact hkX1
      | 2, hq => cases hq; exact hkX2
      | 3, hq => cases hq; exact hkX3
      | 4, hq => cases hq; exact hkX4
      | 5, hq => cases hq; exact hkX5
      | 6, hq => cases hq; exact hkX6
      | 7, hq => cases hq; exact hkX7
      | 8, hq => cases hq; exact hkX8
      | 9, hq => cases hq; exact hkX9
      | k + 10, hq => simp [vwCl] at hq
    · match k, hq with
      | 0, hq => cases hq; exact ⟨hI1, hI2⟩
      | 1, hq => cases hq; exact ⟨hI1, hI2⟩
      | k + 2, hq => simp at hq
  · exact List.forall_mem_cons.mpr ⟨va_Nw.of rfl (hts _ (lw_2 134 rfl)), List.forall_mem_cons.mpr ⟨va_Nw.of rfl (hts _ (lw_2 206 rfl)), List.forall_mem_cons.mpr ⟨va_Nw.of rfl (hts _ (lw_3 30 rfl)), List.forall_mem_cons.mpr ⟨va_Nw.of rfl (hts _ (lw_2 136 rfl)), List.forall_mem_cons.mpr ⟨va_Nw.of rfl (hts _ (lw_2 138 rfl)), List.forall_mem_cons.mpr ⟨va_Nw.of rfl (hts _ (lw_2 140 rfl)), fun _ h => absurd h List.not_mem_nil⟩⟩⟩⟩⟩⟩
  · exact List.forall_mem_cons.mpr ⟨gl_str (hts _ (lw_2 173 rfl)) (hfl _ (by decide +kernel)), List.forall_mem_cons.mpr ⟨gl_str (hts _ (lw_2 213 rfl)) (hfl _ (by decide +kernel)), List.forall_mem_cons.mpr ⟨gl_str (hts _ (lw_3 37 rfl)) (hfl _ (by decide +kernel)), fun _ h => absurd h List.not_mem_nil⟩⟩⟩
  · intro a b2 h1 h2 h3 h4 h5
    have q12 : va_Nc (gq_exn 1) (gq_exn 2) s := va_Nc.of (hfl _ (by decide +kernel))
    have q13 : va_Nc (gq_exn 1) (gq_exn 3) s := va_Nc.of (hfl _ (by decide +kernel))
    have q21 : va_Nc (gq_exn 2) (gq_exn 1) s := va_Nc.of (hfl _ (by decide +kernel))
    have q23 : va_Nc (gq_exn 2) (gq_exn 3) s := va_Nc.of (hfl _ (by decide +kernel))
    have q31 : va_Nc (gq_exn 3) (gq_exn 1) s := va_Nc.of (hfl _ (by decide +kernel))
    have q32 : va_Nc (gq_exn 3) (gq_exn 2) s := va_Nc.of (hfl _ (by decide +kernel))
    rcases (by omega : a = 1 ∨ a = 2 ∨ a = 3) with rfl | rfl | rfl <;> rcases (by omega : b2 = 1 ∨ b2 = 2 ∨ b2 = 3) with rfl | rfl | rfl <;> first | assumption | exact absurd rfl h5
/-- the class itself is made: a call with the nest's words -/
theorem gc_callNN {p : Program} {l : Launch} {e : Env} {R : Room} {s : State} {m : MethodId} {args : Array Value} {below : List Frame} {meth : Method} {c : Code} {Q : State → Prop} {D : va_G} {A : Nat → Prop} {cI cZ : ClassId} {own : String} {cc : ByteArray} {nL pc : Nat} {L : List (Nat × Value)} {st : List Value} {kc ks : Nat} {ws : va_W} {y : MethodName} {bytes : ByteArray} {maxL : Nat} {dm mc ms : Nat} {index h0 n : Nat} {as stk : List Value}
    {S : Type} {X wc : va_W} {wf : S → va_W} (hC : gc_C p s m args meth c D A cI cZ own cc nL) (hNe : ∀ w ∈ gc_nest, va_Nw w s) (hc : gc_CtN l D cI cZ y bytes maxL dm mc ms (.ref h0 :: as) wc wf) (hm : gc_MI y bytes maxL n) (hl2 : Cond.methodLink own index y ∈ gT) (hn : as.length = n) (hst : stk = as.reverse ++ .ref h0 :: st) (hw : ws = X ++ wc) (hW : (st.map fun v => v.category).sum ≤ 8) (hR : dm + 1 ≤ R.frames ∧ 8 + (maxL + 11) + 48 * dm ≤ R.locals) (hk : kc + mc ≤ R.cells ∧ ks + ms ≤ R.slots) (d : decode cc pc = .ok (.invokespecial index, 3))
    (kk : ∀ u : S, gc_W p l e R s m args below meth c D A nL Q (X ++ wf u) (pc + 3) L st (kc + mc) (ks + ms)) : gc_W p l e R s m args below meth c D A nL Q ws pc L stk kc ks := by
  subst hst hw
  intro H locs ls hP hD hS hl
  have hPc : va_P D vwCl wc H := fun k x hx => hP (X.length + k) x (by rw [List.getElem?_append_right (by omega), Nat.add_sub_cancel_left]; exact hx)
  have hDc : va_D (fun _ => True) wc := ⟨fun i j x z hx hz h => by
    have := hD.1 (X.length + i) (X.length + j) x z (by rw [List.getElem?_append_right (by omega), Nat.add_sub_cancel_left]; exact hx) (by rw [List.getElem?_append_right (by omega), Nat.add_sub_cancel_left]; exact hz) h
    omega, fun _ _ _ => trivial⟩
  have hF := gc_freeA hD hS hC.2.2.2.2.2.2.2
  refine va_callv (va_runI (As := as) (rest := st) ⟨hC.1, hC.2.1, hC.2.2.1, hC.2.2.2.1, hC.2.2.2.2.1⟩ (hc H.size) ⟨callB_of n hC.2.2.2.2.1 (gq_goodC hm.1) rfl rfl rfl (hC.2.2.2.2.1 _ hm.2.1) (hC.2.2.2.2.1 _ hl2) hm.2.2.2.2 hR, hm.2.2.2.1, hC.2.2.2.2.1 _ hm.2.2.1⟩ ⟨fun a U g mk q => ⟨gc_blind a U g mk q.1, fun w hw => va_Nw.same (u := U) (U := U.calling g mk a) (gc_nest_ok w hw).1 rfl (q.2 w hw)⟩, fun U hU hW => ⟨⟨rfl, by rw [hU], by rw [hU]; exact hPc, va_K.moved hW.alike hC.2.2.2.2.2.1, hDc⟩, fun w hw => (gc_nest_ok w hw).2 s U hW (hNe w hw)⟩⟩ rfl hn hl.1 rfl (lv_room (pc := pc) (ls := ls) (rest := st) (m := m) hW) d hk) hS (fun q _ h => hF q h) hF (fun u t H1 locs1 ht hvm hw hB hz hk1 hS1 => ?_)
  obtain ⟨hP1, hK1, hD1⟩ := hB
  rw [ht] at hP1
  obtain ⟨hP2, hD2⟩ := gc_frame hP hD hk1 hF hP1 hD1
  exact kk u H1 locs1 ls hP2 hD2 hS1 hl
/-- what the law begins with -/
def ML0 : gq_M := fun k => if k < 109 then MC0 k else fun _ => 0
def adL (ad : Nat → Nat) (us : List Nat) : Nat → Nat := fun k => if k < 109 then ad k else us.getD (k - 109) 0
set_option maxHeartbeats 4000000 in
set_option maxRecDepth 20000 in
theorem whole_start_open (hlaw : ∀ (sl : Nat) (xs : Nat → Int32), sl ≤ 260 → ∃ M9, f_L_law_90 sl xs 600 ML0 = some (1, M9)) {p : Program} {e : Env} {s : State} {m : MethodId} {below : List Frame} {meth : Method} {c : Code} (l : Launch) (hflags : l.flags = flags0) {b L : Nat} {xs : Nat → Int32} (hL : L ≤ 260) (C0 : lw_At p s m meth c b L xs) : W p l e room_1 s m #[Value.ref b] below meth c s.heap [] 0 0 (lw_Z below #[Value.ref b] s) (entryFrame m ([Value.ref b] : List Value).toArray 23) := by
  obtain ⟨hx, hb, hr, hml, hown, hts, hX, hbl, hlocks, hgv⟩ := C0
  obtain ⟨⟨D, cI, hK⟩, hZ, hNe⟩ := lw_world hts hgv
  have hC : gc_C p s m #[Value.ref b] meth c D (lw_A s) cI cI RL cL_law 23 := ⟨hx, hb, hml, hown, fun w h => hts w (gT_in w h), hK, hlocks, fun _ h => h⟩
  have hl := lv_entry ([.ref b]) (n := 23) (Nat.le_of_ble_eq_true rfl)
  rw [lg_entry_eq]
  suffices hh : gc_W p l e room_1 s m #[Value.ref b] below meth c D (lw_A s) 23 (lw_Z below #[Value.ref b] s) [] 0 [(0, .ref b)] [] 0 0 from hh s.heap [] _ (fun k q h => by simp at h) ⟨fun i j p q h => by simp at h, fun k q h => by simp at h⟩ va_S.rf hl
  refine gc_new (ci := 9) hC tyX9 (fs := [.null, .null, .null, .null, .null, .null, .null, .null, .int 0, .int 0, .int 0, .int 0]) rfl inX9 tyX9_ok wl_L_9 wj_X9 wn_X9 (fun j hj => by match j, hj with | 0, _ => rfl | 1, _ => rfl | 2, _ => rfl | 3, _ => rfl | 4, _ => rfl | 5, _ => rfl | 6, _ => rfl | 7, _ => rfl | 8, _ => rfl | 9, _ => rfl | 10, _ => rfl | 11, _ => rfl | j + 12, h => exact absurd h (by omega)) (by decide) (by decide) dL_law_0 (fun qx => ?_)
  refine gc_dup hC rfl dL_law_3 ?_
  refine gc_callNN (X := []) hC hNe (k_X9 qx) mI_X9_init wm_L_207 rfl rfl rfl (Nat.le_of_ble_eq_true rfl) ⟨by decide, by decide⟩ ⟨by decide, by decide⟩ dL_law_4 (fun uC => ?_)
  refine gl_astore_n (L2 := [(1, .ref qx), (0, .ref b)]) hC rfl (by decide) rfl dL_law_7 ?_
  refine gc_bipush (v := 40) hC (by decide) dL_law_8 ?_
  refine gc_newaI (n := 40) hC wa_int (by decide) (by decide) (by decide) (by show _ ≤ 600074; decide) (by show _ ≤ 7301550; decide) dL_law_10 (fun r0 => ?_)
  refine gl_astore_n (L2 := [(2, .ref r0), (1, .ref qx), (0, .ref b)]) hC rfl (by decide) rfl dL_law_12 ?_
  refine gc_bipush (v := 40) hC (by decide) dL_law_13 ?_
  refine gc_newaI (n := 40) hC wa_int (by decide) (by decide) (by decide) (by show _ ≤ 600074; decide) (by show _ ≤ 7301550; decide) dL_law_15 (fun r1 => ?_)
  refine gl_astore_n (L2 := [(3, .ref r1), (2, .ref r0), (1, .ref qx), (0, .ref b)]) hC rfl (by decide) rfl dL_law_17 ?_
  refine gc_bipush (v := 40) hC (by decide) dL_law_18 ?_
  refine gc_newaI (n := 40) hC wa_int (by decide) (by decide) (by decide) (by show _ ≤ 600074; decide) (by show _ ≤ 7301550; decide) dL_law_20 (fun r2 => ?_)
  refine gl_astore (L2 := [(4, .ref r2), (3, .ref r1), (2, .ref r0), (1, .ref qx), (0, .ref b)]) hC (by decide) rfl dL_law_22 ?_
  refine gc_bipush (v := 40) hC (by decide) dL_law_24 ?_
  refine gc_newaI (n := 40) hC wa_int (by decide) (by decide) (by decide) (by show _ ≤ 600074; decide) (by show _ ≤ 7301550; decide) dL_law_26 (fun r3 => ?_)
  refine gl_astore (L2 := [(5, .ref r3), (4, .ref r2), (3, .ref r1), (2, .ref r0), (1, .ref qx), (0, .ref b)]) hC (by decide) rfl dL_law_28 ?_
  refine gc_bipush (v := 40) hC (by decide) dL_law_30 ?_
  refine gc_newaI (n := 40) hC wa_int (by decide) (by decide) (by decide) (by show _ ≤ 600074; decide) (by show _ ≤ 7301550; decide) dL_law_32 (fun r4 => ?_)
  refine gl_astore (L2 := [(6, .ref r4), (5, .ref r3), (4, .ref r2), (3, .ref r1), (2, .ref r0), (1, .ref qx), (0, .ref b)]) hC (by decide) rfl dL_law_34 ?_
  refine gc_bipush (v := 40) hC (by decide) dL_law_36 ?_
  refine gc_newaI (n := 40) hC wa_int (by decide) (by decide) (by decide) (by show _ ≤ 600074; decide) (by show _ ≤ 7301550; decide) dL_law_38 (fun r5 => ?_)
  refine gl_astore (L2 := [(7, .ref r5), (6, .ref r4), (5, .ref r3), (4, .ref r2), (3, .ref r1), (2, .ref r0), (1, .ref qx), (0, .ref b)]) hC (by decide) rfl dL_law_40 ?_
  refine gc_bipush (v := 24) hC (by decide) dL_law_42 ?_
  refine gc_newaI (n := 24) hC wa_int (by decide) (by decide) (by decide) (by show _ ≤ 600074; decide) (by show _ ≤ 7301550; decide) dL_law_44 (fun r6 => ?_)
  refine gl_astore (L2 := [(8, .ref r6), (7, .ref r5), (6, .ref r4), (5, .ref r3), (4, .ref r2), (3, .ref r1), (2, .ref r0), (1, .ref qx), (0, .ref b)]) hC (by decide) rfl dL_law_46 ?_
  refine gc_bipush (v := 24) hC (by decide) dL_law_48 ?_
  refine gc_newaI (n := 24) hC wa_int (by decide) (by decide) (by decide) (by show _ ≤ 600074; decide) (by show _ ≤ 7301550; decide) dL_law_50 (fun r7 => ?_)
  refine gl_astore (L2 := [(9, .ref r7), (8, .ref r6), (7, .ref r5), (6, .ref r4), (5, .ref r3), (4, .ref r2), (3, .ref r1), (2, .ref r0), (1, .ref qx), (0, .ref b)]) hC (by decide) rfl dL_law_52 ?_
  refine gc_bipush (v := 24) hC (by decide) dL_law_54 ?_
  refine gc_newaI (n := 24) hC wa_int (by decide) (by decide) (by decide) (by show _ ≤ 600074; decide) (by show _ ≤ 7301550; decide) dL_law_56 (fun r8 => ?_)
  refine gl_astore (L2 := [(10, .ref r8), (9, .ref r7), (8, .ref r6), (7, .ref r5), (6, .ref r4), (5, .ref r3), (4, .ref r2), (3, .ref r1), (2, .ref r0), (1, .ref qx), (0, .ref b)]) hC (by decide) rfl dL_law_58 ?_
  refine gc_bipush (v := 24) hC (by decide) dL_law_60 ?_
  refine gc_newaI (n := 24) hC wa_int (by decide) (by decide) (by decide) (by show _ ≤ 600074; decide) (by show _ ≤ 7301550; decide) dL_law_62 (fun r9 => ?_)
  refine gl_astore (L2 := [(11, .ref r9), (10, .ref r8), (9, .ref r7), (8, .ref r6), (7, .ref r5), (6, .ref r4), (5, .ref r3), (4, .ref r2), (3, .ref r1), (2, .ref r0), (1, .ref qx), (0, .ref b)]) hC (by decide) rfl dL_law_64 ?_
  refine gc_bipush (v := 56) hC (by decide) dL_law_66 ?_
  refine gc_newaI (n := 56) hC wa_int (by decide) (by decide) (by decide) (by show _ ≤ 600074; decide) (by show _ ≤ 7301550; decide) dL_law_68 (fun r10 => ?_)
  refine gl_astore (L2 := [(12, .ref r10), (11, .ref r9), (10, .ref r8), (9, .ref r7), (8, .ref r6), (7, .ref r5), (6, .ref r4), (5, .ref r3), (4, .ref r2), (3, .ref r1), (2, .ref r0), (1, .ref qx), (0, .ref b)]) hC (by decide) rfl dL_law_70 ?_
  refine gc_bipush (v := 64) hC (by decide) dL_law_72 ?_
  refine gc_newaI (n := 64) hC wa_int (by decide) (by decide) (by decide) (by show _ ≤ 600074; decide) (by show _ ≤ 7301550; decide) dL_law_74 (fun r11 => ?_)
  refine gl_astore (L2 := [(13, .ref r11), (12, .ref r10), (11, .ref r9), (10, .ref r8), (9, .ref r7), (8, .ref r6), (7, .ref r5), (6, .ref r4), (5, .ref r3), (4, .ref r2), (3, .ref r1), (2, .ref r0), (1, .ref qx), (0, .ref b)]) hC (by decide) rfl dL_law_76 ?_
  refine gc_bipush (v := 24) hC (by decide) dL_law_78 ?_
  refine gc_newaI (n := 24) hC wa_int (by decide) (by decide) (by decide) (by show _ ≤ 600074; decide) (by show _ ≤ 7301550; decide) dL_law_80 (fun r12 => ?_)
  refine gl_astore (L2 := [(14, .ref r12), (13, .ref r11), (12, .ref r10), (11, .ref r9), (10, .ref r8), (9, .ref r7), (8, .ref r6), (7, .ref r5), (6, .ref r4), (5, .ref r3), (4, .ref r2), (3, .ref r1), (2, .ref r0), (1, .ref qx), (0, .ref b)]) hC (by decide) rfl dL_law_82 ?_
  refine gc_bipush (v := 40) hC (by decide) dL_law_84 ?_
  refine gc_newaI (n := 40) hC wa_int (by decide) (by decide) (by decide) (by show _ ≤ 600074; decide) (by show _ ≤ 7301550; decide) dL_law_86 (fun r13 => ?_)
  refine gl_astore (L2 := [(15, .ref r13), (14, .ref r12), (13, .ref r11), (12, .ref r10), (11, .ref r9), (10, .ref r8), (9, .ref r7), (8, .ref r6), (7, .ref r5), (6, .ref r4), (5, .ref r3), (4, .ref r2), (3, .ref r1), (2, .ref r0), (1, .ref qx), (0, .ref b)]) hC (by decide) rfl dL_law_88 ?_
  obtain ⟨M9, h9⟩ := hlaw L xs hL
  refine gc_toq (cI := cI) (cZ := cI) (ad := adL (gc_ad qx uC) [r0, r1, r2, r3, r4, r5, r6, r7, r8, r9, r10, r11, r12, r13]) (mt := mtL) (M := ML0) rfl (fun hDD => ?_)
  refine g_weak [15, 14, 13, 12, 11, 10, 9, 8, 7, 6, 5, 4, 3, 2, 1, 0] rfl ?_
  exact t_L_law_90 (lw_noTrace hflags) hZ hX hbl (Nat.not_le.mpr hbl) hL (by decide) ⟨hC.1, hC.2.1, hC.2.2.1, hC.2.2.2.1, hC.2.2.2.2.1, hC.2.2.2.2.2.1, hC.2.2.2.2.2.2.1, hC.2.2.2.2.2.2.2, hDD⟩ hr ML0 _ _ (by decide) (by decide) h9
