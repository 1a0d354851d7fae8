/-! THE CLAIM OUT OF ONE WALK OF THE LAW'S BODY. Your part is whole_start (and what it stands on); all else here is the same for every law, but numbers. -/
def R_law : String := "FishclockLaw"
def lw_P (b : Addr) (xs : List Int32) (args : Array Value) (s : State) : Prop := args = #[.ref b] ∧ s.IntsAt b xs ∧ xs.length ≤ 3584 ∧ (Jvm.Cond.and given_1 narrow_1).before args s = true
def lw_Q (_ : Array Value) (s : State) (o : Outcome) (t : State) : Prop := o = .returned (some (.int 1)) ∧ Framed s o t [] 601024 7293034
def lw_Z (below : List Frame) (a : Array Value) (s : State) : State → Prop := fun t => ∃ o, t.status = .running ∧ Ended t below o ∧ lw_Q a s o t
/-- the law's own end, with 1 on the stack, nothing written that was there before, its room as the claim has it -/
theorem lw_ret {p : Program} {l : Launch} {e : Env} {s : State} {m : MethodId} {below : List Frame} {meth : Method} {c : Code} {b : Nat} (hx : p.tables.exec = Jvm.exec) (hb : c.code = code) (hr : meth.sig.returnType = ret) (hlocks : meth.locks = false) {pc : Nat} {H : Heap} {ls : Array Slot} (hdg : decode code pc = .ok (.ireturn, 1)) : W p l e room_1 s m #[Value.ref b] below meth c H [] 601024 7293034 (lw_Z below #[Value.ref b] s) (F0 m pc ls [.int 1]) := by
  intro T hT X
  obtain ⟨fs, hret, hrun, hended, hW, hframe⟩ := X.leave (v := some (.int 1)) (hlocks := hlocks) (fun h => by rw [hr] at h; cases h)
  have hmeth' : T.vm.method? m = some meth := X.method'
  refine ⟨T.setFrames fs, ?_, .returned (some (.int 1)), hrun, hended, rfl, ⟨_, rfl⟩, hW, hframe⟩
  jvm_step X.here [X.here.top, hx, hb, hdg, hmeth', hr, ret, narrow_b1]
  (try refine ⟨rfl, ?_⟩); (try refine ⟨rfl, ?_⟩)
  first | (intro acts; rw [hret _ acts rfl rfl rfl]) | rw [hret _ _ rfl rfl rfl]
  exact Steps.refl _
/-- what holds at the law's entry: the machine, the code, the tables' words (any of lw_tbl by 'hts w (by decide +kernel)'), the script of L ints xs at the cell b, what the Statement gives of the start (any of its parts by flat_of_before) -/
def lw_At (p : Program) (s : State) (m : MethodId) (meth : Method) (c : Code) (b L : Nat) (xs : Nat → Int32) : Prop :=
  p.tables.exec = Jvm.exec ∧ c.code = code ∧ meth.sig.returnType = ret ∧ c.maxLocals = 7 ∧ s.vm.findClass R_law = some m.cls ∧ (∀ w ∈ lw_tbl, w.before #[Value.ref b] s = true) ∧ va_X b L xs s s.heap ∧ b < s.heap.size ∧ meth.locks = false ∧ (Jvm.Cond.and given_1 narrow_1).before #[Value.ref b] s = true
section
variable {p : Program} {l : Launch} {e : Env} {s : State} {m : MethodId} {below : List Frame} {meth : Method} {c : Code} {D : va_G} {cI cZ cL : ClassId} {adC adR : Nat → Nat} {oa b Ln : Nat} {xs : Nat → Int32}
theorem nI_m7 {a k : Nat} (ha : a ≤ 3584) (hk : k ≤ 4000) : nI a - 7 < nI k ↔ a < k + 7 := by
  rw [Int32.lt_iff_toInt_lt, Int32.toInt_sub, nI_toInt (by omega), nI_toInt (by omega)]
  show ((a : Int) - (7 : Int32).toInt).bmod (2 ^ 32) < (k : Int) ↔ _
  rw [show (7 : Int32).toInt = 7 from rfl, Int.bmod_eq_of_le (by omega) (by omega)]
  omega

set_option maxHeartbeats 1000000 in
set_option maxRecDepth 20000 in
theorem law_loop_open {INV : gq_M → gq_M → Prop} (hstep : ∀ (p0 p1 p2 p3 p4 p5 p6 : Int32) (C R : gq_M) (ov : Int64), INV C R → ∃ C2 R2 ov2, fl 600 p0 p1 p2 p3 p4 p5 p6 C R ov = some (C2, R2, ov2) ∧ INV C2 R2) (hl9 : l.stackTraces = false) (hL : Ln ≤ 3584) (hC : gc_C p s m #[Value.ref b] meth c D (fun q => s.heap.size ≤ q) cI cZ RL cL_law 7) (hr : meth.sig.returnType = ret) (hKL : gl_K D cI cZ cL s) (hZ : gq_Z (fun q => s.heap.size ≤ q) s) (hN : gl_N s) (hX : va_X b Ln xs s s.heap) (hbl : b < s.heap.size) :
    ∀ (n k : Nat), k ≤ Ln + 7 → Ln + 7 < k + n → ∀ (C R : gq_M) (ov : Int64) (kc ks : Nat), INV C R → kc ≤ 400 + k → ks ≤ 20000 + 6 * k → gc_W p l e room_1 s m #[Value.ref b] below meth c D (fun q => s.heap.size ≤ q) 7 (lw_Z below #[Value.ref b] s) ((gl_out cL oa ov :: gq_ws cI cZ adC C 0 mtC) ++ gq_ws cI cZ adR R 0 mtR) 23 [(4, .int (nI k)), (3, .ref oa), (2, .ref (adR 0)), (1, .ref (adC 0)), (0, .ref b)] [] kc ks := by
  have hbA : ¬ (fun q : Nat => s.heap.size ≤ q) b := Nat.not_le.mpr hbl
  intro n
  induction n with
  | zero => intro k h1 h2; exact absurd h2 (by omega)
  | succ n ih =>
    intro k h1 h2 C R ov kc ks hI hkc hks
    refine gl_iload hC 0 rfl dL_law_23 ?_
    refine gc_aload_n hC 4 rfl rfl dL_law_25 ?_
    refine gl_slen hC hX hbl hbA dL_law_26 ?_
    refine gc_bipush (v := 7) hC (by decide) dL_law_27 ?_
    refine gl_isub hC dL_law_29 ?_
    refine gl_icmp_gt (tgt := 2106) hC (by decide) dL_law_30 (fun c1 => ?_) (fun c1 => ?_)
    · refine gc_iconst (v := 1) hC (by decide) dL_law_2106 ?_
      refine gl_widen (kc2 := 601024) (ks2 := 7293034) (by omega) (by omega) ?_
      intro H locs ls hP hD hS hl
      refine va_forget (fun q hq => hS.2.2 q hq) ?_
      exact lw_ret hC.1 hC.2.1 hr hC.2.2.2.2.2.2.1 dL_law_2107
    · rw [nI_m7 hL (by omega)] at c1
      have hk7 : k + 7 ≤ Ln := by omega
      refine gc_aload_n hC 4 rfl rfl dL_law_33 ?_
      refine gl_iload hC 0 rfl dL_law_34 ?_
      refine gl_sld hC hX hbl hbA (vp_in_nI (by omega) (by omega)) dL_law_36 ?_
      refine gc_bipush (v := 31) hC (by decide) dL_law_37 ?_
      refine gl_iand hC dL_law_39 ?_
      have hxj : ∀ j : Nat, j ≤ 6 → vp_in (nI k + nI j) Ln := fun j hj => by rw [nI_add]; exact vp_in_nI (by omega) (by omega)
      obtain ⟨C2, R2, ov2, hf, hI2⟩ := hstep (xs (nI k).toNatClampNeg) (xs (nI k + 1).toNatClampNeg) (xs (nI k + 2).toNatClampNeg) (xs (nI k + 3).toNatClampNeg) (xs (nI k + 4).toNatClampNeg) (xs (nI k + 5).toNatClampNeg) (xs (nI k + 6).toNatClampNeg) C R ov hI
      refine q_law hl9 hC hKL hZ hN hX hbl hbA (hxj 1 (by omega)) (hxj 2 (by omega)) (hxj 3 (by omega)) (hxj 4 (by omega)) (hxj 5 (by omega)) (hxj 6 (by omega)) ⟨by show kc + 1 ≤ 601024; omega, by show ks + 6 ≤ 7293034; omega⟩ 600 hf ?_
      refine gl_iinc (n := 7) (v := nI (k + 7)) (L2 := [(4, .int (nI (k + 7))), (3, .ref oa), (2, .ref (adR 0)), (1, .ref (adC 0)), (0, .ref b)]) hC 0 rfl (by rw [show Int32.ofInt 7 = nI 7 from rfl, nI_add]) (by decide) rfl dL_law_2100 ?_
      refine gl_goto (tgt := 23) hC (by decide) dL_law_2103 ?_
      exact ih (k + 7) (by omega) (by omega) C2 R2 ov2 (kc + 1) (ks + 6) hI2 (by omega) (by omega)
end
theorem lw_noTrace {l : Launch} (hflags : l.flags = flags0) : l.stackTraces = false := by
  unfold Launch.stackTraces
  rw [hflags]
  decide +kernel
theorem gl_arr {args : Array Value} {s : State} {ty : FieldType} (h : (Cond.arrayClass ty).before args s = true) : ∃ cA : ClassId, ArrOfT s cA ty ∧ s.vm.findClass ("[" ++ ty.toString) = some cA := by
  obtain ⟨cA, kA, comp, h1, h2, h3⟩ := Cond.arrayClass_spec h
  exact ⟨cA, fun n z => ⟨fun k h => (by cases h), kA, h2, comp, h3⟩, h1⟩
theorem gl_str {args : Array Value} {s : State} {k : Nat} {tx : String} (h1 : (Cond.stringRef RX9 k tx).before args s = true) (h2 : (Cond.exactly (.string RX9 k) "java/lang/String").before args s = true) : ∃ sa, vk_R RX9 k tx sa s := by
  obtain ⟨a, c, cA, kA, q1, -⟩ := Cond.exactly_spec (args := args) (first := s) (o := none) (s := s) (idx := []) (t := .string RX9 k) (cls := "java/lang/String") h2
  exact ⟨a, vk_R.of h1 q1⟩
set_option maxHeartbeats 1000000 in
set_option maxRecDepth 20000 in
theorem lw_world {s : State} {b : Nat} (hts : ∀ w ∈ lw_tbl, w.before #[Value.ref b] s = true) (hgv : (Jvm.Cond.and given_1 narrow_1).before #[Value.ref b] s = true) : (∃ (D : va_G) (cI cZ cL : ClassId), gl_K D cI cZ cL s) ∧ gq_Z (fun q => s.heap.size ≤ q) s ∧ gl_N s ∧ ∀ w ∈ gc_nest, va_Nw w s := by
  have htsG : ∀ w ∈ gT, w.before #[Value.ref b] s = true := fun w h => hts w (gT_in w h)
  have hfl := flat_of_before _ hgv
  have hA : ∀ a : Nat, a < s.heap.size → ¬ (fun q : Nat => s.heap.size ≤ q) a := fun a h => Nat.not_le.mpr h
  refine ⟨?_, ⟨vx_Zqof (hts _ (lw_2 171 rfl)) (hts _ (lw_1 12 rfl)) (hfl _ (by decide +kernel)) hA, vx_Zqof (hts _ (lw_2 173 rfl)) (hts _ (lw_1 12 rfl)) (hfl _ (by decide +kernel)) hA, ?_, ?_⟩, ?_, fun w hw => va_Nw.of (gc_nest_ok w hw).1 (hts w (gc_nest_in w hw))⟩
  · obtain ⟨cI, hI1, hI2⟩ := gl_arr (htsG _ wa_int)
    obtain ⟨cZ, hZ1, hZ2⟩ := gl_arr (htsG _ wa_boolean)
    obtain ⟨cL, hL1, hL2⟩ := gl_arr (htsG _ wa_long)
    obtain ⟨cX0, iX0, hkX0⟩ := u_known (C := RX0) (T := TX0) (N := 7) (n := 7) htsG inX0 (htsG (.instantiable RX0 7) wj_X0)
    obtain ⟨cX1, iX1, hkX1⟩ := u_known (C := RX1) (T := TX1) (N := 14) (n := 14) htsG inX1 (htsG (.instantiable RX1 14) wj_X1)
    obtain ⟨cX2, iX2, hkX2⟩ := u_known (C := RX2) (T := TX2) (N := 5) (n := 5) htsG inX2 (htsG (.instantiable RX2 5) wj_X2)
    obtain ⟨cX3, iX3, hkX3⟩ := u_known (C := RX3) (T := TX3) (N := 8) (n := 8) htsG inX3 (htsG (.instantiable RX3 8) wj_X3)
    obtain ⟨cX4, iX4, hkX4⟩ := u_known (C := RX4) (T := TX4) (N := 3) (n := 3) htsG inX4 (htsG (.instantiable RX4 3) wj_X4)
    obtain ⟨cX5, iX5, hkX5⟩ := u_known (C := RX5) (T := TX5) (N := 5) (n := 5) htsG inX5 (htsG (.instantiable RX5 5) wj_X5)
    obtain ⟨cX6, iX6, hkX6⟩ := u_known (C := RX6) (T := TX6) (N := 9) (n := 9) htsG inX6 (htsG (.instantiable RX6 9) wj_X6)
    obtain ⟨cX7, iX7, hkX7⟩ := u_known (C := RX7) (T := TX7) (N := 3) (n := 3) htsG inX7 (htsG (.instantiable RX7 3) wj_X7)
    obtain ⟨cX8, iX8, hkX8⟩ := u_known (C := RX8) (T := TX8) (N := 1) (n := 1) htsG inX8 (htsG (.instantiable RX8 1) wj_X8)
    obtain ⟨cX9, iX9, hkX9⟩ := u_known (C := RX9) (T := TX9) (N := 12) (n := 12) htsG inX9 (htsG (.instantiable RX9 12) wj_X9)
    obtain ⟨cX10, iX10, hkX10⟩ := u_known (C := RX10) (T := TX10) (N := 55) (n := 55) htsG inX10 (htsG (.instantiable RX10 55) wj_X10)
    refine ⟨(fun k => if k = 0 then cX0 else if k = 1 then cX1 else if k = 2 then cX2 else if k = 3 then cX3 else if k = 4 then cX4 else if k = 5 then cX5 else if k = 6 then cX6 else if k = 7 then cX7 else if k = 8 then cX8 else if k = 9 then cX9 else cX10, fun k => if k = 0 then iX0 else if k = 1 then iX1 else if k = 2 then iX2 else if k = 3 then iX3 else if k = 4 then iX4 else if k = 5 then iX5 else if k = 6 then iX6 else if k = 7 then iX7 else if k = 8 then iX8 else if k = 9 then iX9 else iX10), cI, cZ, cL, fun k q hq => ?_, fun k q hq => ?_⟩
    · match k, hq with
      | 0, hq => cases hq; exact hkX0
      | 1, hq => cases hq; exact hkX1
      | 2, hq => cases hq; exact hkX2
      | 3, hq => cases hq; exact hkX3
      | 4, hq => cases hq; exact hkX4
      | 5, hq => cases hq; exact hkX5
      | 6, hq => cases hq; exact hkX6
      | 7, hq => cases hq; exact hkX7
      | 8, hq => cases hq; exact hkX8
      | 9, hq => cases hq; exact hkX9
      | 10, hq => cases hq; exact hkX10
      | k + 11, hq => simp [vwCl] at hq
    · match k, hq with
      | 0, hq => cases hq; exact ⟨hI1, hI2⟩
      | 1, hq => cases hq; exact ⟨hZ1, hZ2⟩
      | 2, hq => cases hq; exact ⟨hL1, hL2⟩
      | k + 3, hq => simp at hq
  · exact List.forall_mem_cons.mpr ⟨va_Nw.of rfl (hts _ (lw_2 146 rfl)), List.forall_mem_cons.mpr ⟨va_Nw.of rfl (hts _ (lw_2 218 rfl)), List.forall_mem_cons.mpr ⟨va_Nw.of rfl (hts _ (lw_3 61 rfl)), List.forall_mem_cons.mpr ⟨va_Nw.of rfl (hts _ (lw_2 148 rfl)), List.forall_mem_cons.mpr ⟨va_Nw.of rfl (hts _ (lw_2 150 rfl)), List.forall_mem_cons.mpr ⟨va_Nw.of rfl (hts _ (lw_2 152 rfl)), fun _ h => absurd h List.not_mem_nil⟩⟩⟩⟩⟩⟩
  · exact List.forall_mem_cons.mpr ⟨gl_str (hts _ (lw_2 185 rfl)) (hfl _ (by decide +kernel)), List.forall_mem_cons.mpr ⟨gl_str (hts _ (lw_2 225 rfl)) (hfl _ (by decide +kernel)), List.forall_mem_cons.mpr ⟨gl_str (hts _ (lw_3 68 rfl)) (hfl _ (by decide +kernel)), fun _ h => absurd h List.not_mem_nil⟩⟩⟩
  · intro a b2 h1 h2 h3 h4 h5
    have q12 : va_Nc (gq_exn 1) (gq_exn 2) s := va_Nc.of (hfl _ (by decide +kernel))
    have q13 : va_Nc (gq_exn 1) (gq_exn 3) s := va_Nc.of (hfl _ (by decide +kernel))
    have q21 : va_Nc (gq_exn 2) (gq_exn 1) s := va_Nc.of (hfl _ (by decide +kernel))
    have q23 : va_Nc (gq_exn 2) (gq_exn 3) s := va_Nc.of (hfl _ (by decide +kernel))
    have q31 : va_Nc (gq_exn 3) (gq_exn 1) s := va_Nc.of (hfl _ (by decide +kernel))
    have q32 : va_Nc (gq_exn 3) (gq_exn 2) s := va_Nc.of (hfl _ (by decide +kernel))
    rcases (by omega : a = 1 ∨ a = 2 ∨ a = 3) with rfl | rfl | rfl <;> rcases (by omega : b2 = 1 ∨ b2 = 2 ∨ b2 = 3) with rfl | rfl | rfl <;> first | assumption | exact absurd rfl h5
theorem gc_newaL {p : Program} {l : Launch} {e : Env} {R : Room} {s : State} {m : MethodId} {args : Array Value} {below : List Frame} {meth : Method} {c : Code} {Q : State → Prop} {D : va_G} {A : Nat → Prop} {cI cZ cL : ClassId} {own : String} {cc : ByteArray} {nL pc : Nat} {L : List (Nat × Value)} {st : List Value} {kc ks : Nat} {ws : va_W} (hC : gc_C p s m args meth c D A cI cZ own cc nL) (hKL : gl_K D cI cZ cL s) (hcells : kc + 1 ≤ R.cells) (hslots : ks + 1 ≤ R.slots) (d : decode cc pc = .ok (.newarray .long, 2))
    (kk : ∀ q : Nat, gc_W p l e R s m args below meth c D A nL Q (ws ++ [gl_out cL q 0]) (pc + 2) L (.ref q :: st) (kc + 1) (ks + 1)) : gc_W p l e R s m args below meth c D A nL Q ws pc L (.int 1 :: st) kc ks := by
  intro H locs ls hP hD hS hl
  refine va_newa (atype := .long) (ty := .long) (N' := 1) (a0 := (1, .inr (.inl (fun _ => 0)))) hC.1 hC.2.1 (hC.2.2.2.2.1 _ wa_long) rfl hKL hP hD hS hC.2.2.2.2.2.2.2 (fun _ => rfl) (by decide) (by decide) (by decide) hcells hslots d (fun q cA H1 hK1 hP1 hD1 hS1 => ?_)
  have h1 : s.vm.findClass ("[" ++ (FieldType.long).toString) = some cA := (hK1.2 3 (cA, .long) rfl).2
  have h2 : s.vm.findClass ("[" ++ (FieldType.long).toString) = some cL := (hKL.2 2 (cL, .long) rfl).2
  have h3 : cA = cL := Option.some.inj (h1.symm.trans h2)
  subst h3
  exact kk q H1 locs ls hP1 hD1 hS1 hl
/-- the class itself is made: a call with the nest's words -/
theorem gc_callNN {p : Program} {l : Launch} {e : Env} {R : Room} {s : State} {m : MethodId} {args : Array Value} {below : List Frame} {meth : Method} {c : Code} {Q : State → Prop} {D : va_G} {A : Nat → Prop} {cI cZ : ClassId} {own : String} {cc : ByteArray} {nL pc : Nat} {L : List (Nat × Value)} {st : List Value} {kc ks : Nat} {ws : va_W} {y : MethodName} {bytes : ByteArray} {maxL : Nat} {dm mc ms : Nat} {index h0 n : Nat} {as stk : List Value}
    {S : Type} {X wc : va_W} {wf : S → va_W} (hC : gc_C p s m args meth c D A cI cZ own cc nL) (hNe : ∀ w ∈ gc_nest, va_Nw w s) (hc : gc_CtN l D cI cZ y bytes maxL dm mc ms (.ref h0 :: as) wc wf) (hm : gc_MI y bytes maxL n) (hl2 : Cond.methodLink own index y ∈ gT) (hn : as.length = n) (hst : stk = as.reverse ++ .ref h0 :: st) (hw : ws = X ++ wc) (hW : (st.map fun v => v.category).sum ≤ 8) (hR : dm + 1 ≤ R.frames ∧ 8 + (maxL + 11) + 37 * dm ≤ R.locals) (hk : kc + mc ≤ R.cells ∧ ks + ms ≤ R.slots) (d : decode cc pc = .ok (.invokespecial index, 3))
    (kk : ∀ u : S, gc_W p l e R s m args below meth c D A nL Q (X ++ wf u) (pc + 3) L st (kc + mc) (ks + ms)) : gc_W p l e R s m args below meth c D A nL Q ws pc L stk kc ks := by
  subst hst hw
  intro H locs ls hP hD hS hl
  have hPc : va_P D vwCl wc H := fun k x hx => hP (X.length + k) x (by rw [List.getElem?_append_right (by omega), Nat.add_sub_cancel_left]; exact hx)
  have hDc : va_D (fun _ => True) wc := ⟨fun i j x z hx hz h => by
    have := hD.1 (X.length + i) (X.length + j) x z (by rw [List.getElem?_append_right (by omega), Nat.add_sub_cancel_left]; exact hx) (by rw [List.getElem?_append_right (by omega), Nat.add_sub_cancel_left]; exact hz) h
    omega, fun _ _ _ => trivial⟩
  have hF := gc_freeA hD hS hC.2.2.2.2.2.2.2
  refine va_callv (va_runI (As := as) (rest := st) ⟨hC.1, hC.2.1, hC.2.2.1, hC.2.2.2.1, hC.2.2.2.2.1⟩ (hc H.size) ⟨callB_of n hC.2.2.2.2.1 (gq_goodC hm.1) rfl rfl rfl (hC.2.2.2.2.1 _ hm.2.1) (hC.2.2.2.2.1 _ hl2) hm.2.2.2.2 hR, hm.2.2.2.1, hC.2.2.2.2.1 _ hm.2.2.1⟩ ⟨fun a U g mk q => ⟨gc_blind a U g mk q.1, fun w hw => va_Nw.same (u := U) (U := U.calling g mk a) (gc_nest_ok w hw).1 rfl (q.2 w hw)⟩, fun U hU hW => ⟨⟨rfl, by rw [hU], by rw [hU]; exact hPc, va_K.moved hW.alike hC.2.2.2.2.2.1, hDc⟩, fun w hw => (gc_nest_ok w hw).2 s U hW (hNe w hw)⟩⟩ rfl hn hl.1 rfl (lv_room (pc := pc) (ls := ls) (rest := st) (m := m) hW) d hk) hS (fun q _ h => hF q h) hF (fun u t H1 locs1 ht hvm hw hB hz hk1 hS1 => ?_)
  obtain ⟨hP1, hK1, hD1⟩ := hB
  rw [ht] at hP1
  obtain ⟨hP2, hD2⟩ := gc_frame hP hD hk1 hF hP1 hD1
  exact kk u H1 locs1 ls hP2 hD2 hS1 hl
set_option maxHeartbeats 4000000 in
set_option maxRecDepth 20000 in
theorem whole_start_open {INV : gq_M → gq_M → Prop} (hstep : ∀ (p0 p1 p2 p3 p4 p5 p6 : Int32) (C R : gq_M) (ov : Int64), INV C R → ∃ C2 R2 ov2, fl 600 p0 p1 p2 p3 p4 p5 p6 C R ov = some (C2, R2, ov2) ∧ INV C2 R2) (hnew : INV MC0 MR0) {p : Program} {e : Env} {s : State} {m : MethodId} {below : List Frame} {meth : Method} {c : Code} (l : Launch) (hflags : l.flags = flags0) {b L : Nat} {xs : Nat → Int32} (hL : L ≤ 3584) (C0 : lw_At p s m meth c b L xs) : W p l e room_1 s m #[Value.ref b] below meth c s.heap [] 0 0 (lw_Z below #[Value.ref b] s) (entryFrame m ([Value.ref b] : List Value).toArray 7) := by
  obtain ⟨hx, hb, hr, hml, hown, hts, hX, hbl, hlocks, hgv⟩ := C0
  obtain ⟨⟨D, cI, cZ, cL, hKL⟩, hZ, hN, hNe⟩ := lw_world hts hgv
  have hC : gc_C p s m #[Value.ref b] meth c D (fun q => s.heap.size ≤ q) cI cZ RL cL_law 7 := ⟨hx, hb, hml, hown, fun w h => hts w (gT_in w h), gl_Kq hKL, hlocks, fun _ h => h⟩
  have hl := lv_entry ([.ref b]) (n := 7) (Nat.le_of_ble_eq_true rfl)
  rw [lg_entry_eq]
  suffices hh : gc_W p l e room_1 s m #[Value.ref b] below meth c D (fun q => s.heap.size ≤ q) 7 (lw_Z below #[Value.ref b] s) [] 0 [(0, .ref b)] [] 0 0 from hh s.heap [] _ (fun k q h => by simp at h) ⟨fun i j p q h => by simp at h, fun k q h => by simp at h⟩ va_S.rf hl
  refine gc_new (ci := 9) hC tyX9 (fs := [.null, .null, .null, .null, .null, .null, .null, .null, .int 0, .int 0, .int 0, .int 0]) rfl inX9 tyX9_ok wl_L_8 wj_X9 wn_X9 (fun j hj => by match j, hj with | 0, _ => rfl | 1, _ => rfl | 2, _ => rfl | 3, _ => rfl | 4, _ => rfl | 5, _ => rfl | 6, _ => rfl | 7, _ => rfl | 8, _ => rfl | 9, _ => rfl | 10, _ => rfl | 11, _ => rfl | j + 12, h => exact absurd h (by omega)) (by decide) (by decide) dL_law_0 (fun qx => ?_)
  refine gc_dup hC rfl dL_law_3 ?_
  refine gc_callNN (X := []) hC hNe (k_X9 qx) mI_X9_init wm_L_101 rfl rfl rfl (Nat.le_of_ble_eq_true rfl) ⟨by decide, by decide⟩ ⟨by decide, by decide⟩ dL_law_4 (fun uC => ?_)
  refine gl_astore_n (L2 := [(1, .ref qx), (0, .ref b)]) hC rfl (by decide) rfl dL_law_7 ?_
  refine gc_new (ci := 10) hC tyX10 (fs := [.int 0, .int 0, .int 0, .int 0, .null, .null, .null, .null, .null, .null, .null, .null, .null, .null, .null, .null, .int 0, .null, .null, .null, .null, .null, .null, .null, .null, .null, .null, .null, .null, .null, .null, .int 0, .null, .null, .null, .null, .null, .null, .null, .null, .null, .null, .null, .null, .null, .null, .null, .null, .null, .int 0, .null, .null, .null, .null, .int 0]) rfl inX10 tyX10_ok wl_L_102 wj_X10 wn_X10 (fun j hj => by match j, hj with | 0, _ => rfl | 1, _ => rfl | 2, _ => rfl | 3, _ => rfl | 4, _ => rfl | 5, _ => rfl | 6, _ => rfl | 7, _ => rfl | 8, _ => rfl | 9, _ => rfl | 10, _ => rfl | 11, _ => rfl | 12, _ => rfl | 13, _ => rfl | 14, _ => rfl | 15, _ => rfl | 16, _ => rfl | 17, _ => rfl | 18, _ => rfl | 19, _ => rfl | 20, _ => rfl | 21, _ => rfl | 22, _ => rfl | 23, _ => rfl | 24, _ => rfl | 25, _ => rfl | 26, _ => rfl | 27, _ => rfl | 28, _ => rfl | 29, _ => rfl | 30, _ => rfl | 31, _ => rfl | 32, _ => rfl | 33, _ => rfl | 34, _ => rfl | 35, _ => rfl | 36, _ => rfl | 37, _ => rfl | 38, _ => rfl | 39, _ => rfl | 40, _ => rfl | 41, _ => rfl | 42, _ => rfl | 43, _ => rfl | 44, _ => rfl | 45, _ => rfl | 46, _ => rfl | 47, _ => rfl | 48, _ => rfl | 49, _ => rfl | 50, _ => rfl | 51, _ => rfl | 52, _ => rfl | 53, _ => rfl | 54, _ => rfl | j + 55, h => exact absurd h (by omega)) (by decide) (by decide) dL_law_8 (fun qr => ?_)
  refine gc_dup hC rfl dL_law_11 ?_
  refine gc_callI (X := gq_ws cI cZ (gc_ad qx uC) MC0 0 mtC) hC (k_X10 qr) mI_X10_init wm_L_104 rfl rfl rfl (Nat.le_of_ble_eq_true rfl) ⟨by decide, by decide⟩ ⟨by decide, by decide⟩ dL_law_12 (fun uR => ?_)
  refine gl_astore_n (L2 := [(2, .ref qr), (1, .ref qx), (0, .ref b)]) hC rfl (by decide) rfl dL_law_15 ?_
  refine gc_iconst (v := 1) hC (by decide) dL_law_16 ?_
  refine gc_newaL hC hKL (by decide) (by decide) dL_law_17 (fun oa => ?_)
  refine gl_astore_n (L2 := [(3, .ref oa), (2, .ref qr), (1, .ref qx), (0, .ref b)]) hC rfl (by decide) rfl dL_law_19 ?_
  refine gc_iconst (v := 0) hC (by decide) dL_law_20 ?_
  refine gl_istore (L2 := [(4, .int 0), (3, .ref oa), (2, .ref qr), (1, .ref qx), (0, .ref b)]) hC (by decide) rfl dL_law_21 ?_
  refine gl_comm ?_
  exact law_loop_open hstep (lw_noTrace hflags) hL hC hr hKL hZ hN hX hbl (L + 8) 0 (by omega) (by omega) MC0 MR0 0 _ _ hnew (by decide) (by decide)
