/-! contracts over the system's cells; calls -/
theorem gq_goodC {w : Cond} (h : w ∈ gT) : GoodIn gT (w :: gT) := fun x hx => by
  rcases List.mem_cons.mp hx with rfl | hx
  · exact gT_self _ h
  · exact gT_self _ hx
def gq_A (ad : Nat → Nat) (n sz : Nat) : Nat → Prop := fun q => (∃ k, k < n ∧ q = ad k) ∨ sz ≤ q
def gq_B (D : va_G) (cI cZ : ClassId) (ad : Nat → Nat) (mt : List gq_T) (M : gq_M) (U : State) : Prop := va_P D vwCl (gq_ws cI cZ ad M 0 mt) U.heap ∧ gq_K D cI cZ U
def gq_Pc (D : va_G) (cI cZ : ClassId) (ad : Nat → Nat) (mt : List gq_T) (as : List Value) (M : gq_M) (sz : Nat) : Array Value → State → Prop := va_Pc as (fun U => U.heap.size = sz ∧ gq_B D cI cZ ad mt M U)
theorem gq_blind {D : va_G} {cI cZ : ClassId} {ad : Nat → Nat} {mt : List gq_T} {as : List Value} {M : gq_M} {sz : Nat} : FrameBlind (gq_Pc D cI cZ ad mt as M sz) := fun a U g mk q => ⟨q.1, q.2.1, q.2.2.1, va_K.moved (u := U) (U := U.calling g mk a) (Vm.Alike.refl U.vm) q.2.2.2⟩
def gq_inj (ad : Nat → Nat) (n : Nat) : Prop := ∀ i j : Nat, i < n → j < n → ad i = ad j → i = j
def gq_rm (d : Nat) : Room := { frames := d, cells := 0, slots := 0, locals := 48 * d }
def gq_Qi (D : va_G) (cI cZ : ClassId) (ad : Nat → Nat) (mt : List gq_T) (v : Int32) (M' : gq_M) (A : Nat → Prop) : Array Value → State → Outcome → State → Prop := va_Qi (fun r (_ : Unit) => r = v) (fun _ t => gq_B D cI cZ ad mt M' t) A
def gq_Qv (D : va_G) (cI cZ : ClassId) (ad : Nat → Nat) (mt : List gq_T) (M' : gq_M) (A : Nat → Prop) : Array Value → State → Outcome → State → Prop := va_Qv (fun (_ : Unit) => True) (fun _ t => gq_B D cI cZ ad mt M' t) A
/-- a method that answers v and leaves M' -/
def gq_Ci (l : Launch) (D : va_G) (cI cZ : ClassId) (ad : Nat → Nat) (mt : List gq_T) (y : MethodName) (cc : ByteArray) (nL : Nat) (ret : Option FieldType) (d : Nat) (as : List Value) (M : gq_M) (v : Int32) (M' : gq_M) : Prop :=
  gq_inj ad mt.length → ∀ sz, Met l y (.code y cc nL ret :: gT) (gq_rm d) (gq_Pc D cI cZ ad mt as M sz) (gq_Qi D cI cZ ad mt v M' (gq_A ad mt.length sz)) 0 0 (gq_A ad mt.length sz)
def gq_Cv (l : Launch) (D : va_G) (cI cZ : ClassId) (ad : Nat → Nat) (mt : List gq_T) (y : MethodName) (cc : ByteArray) (nL : Nat) (d : Nat) (as : List Value) (M M' : gq_M) : Prop :=
  gq_inj ad mt.length → ∀ sz, Met l y (.code y cc nL none :: gT) (gq_rm d) (gq_Pc D cI cZ ad mt as M sz) (gq_Qv D cI cZ ad mt M' (gq_A ad mt.length sz)) 0 0 (gq_A ad mt.length sz)
/-- a method's words: a virtual one, a static one -/
def gq_MV (y : MethodName) (cc : ByteArray) (nL : Nat) (ret : Option FieldType) (n : Nat) : Prop := Cond.code y cc nL ret ∈ gT ∧ Cond.initialized y.cls ∈ gT ∧ Cond.instanceMethod y ∈ gT ∧ Cond.selects y.cls y y ∈ gT ∧ (y.cls ≠ "java/lang/invoke/MethodHandle" ∧ y.cls ≠ "java/lang/invoke/VarHandle" ∧ (parseMethodDescriptor y.desc).map (fun d => d.parameters.length) = some n)
def gq_MS (y : MethodName) (cc : ByteArray) (nL : Nat) (ret : Option FieldType) (n : Nat) : Prop := Cond.code y cc nL ret ∈ gT ∧ Cond.initialized y.cls ∈ gT ∧ Cond.static y ∈ gT ∧ (y.cls ≠ "java/lang/invoke/MethodHandle" ∧ y.cls ≠ "java/lang/invoke/VarHandle" ∧ (parseMethodDescriptor y.desc).map (fun d => d.parameters.length) = some n)
/-- the cell is an object of that class -/
def gq_ob (mt : List gq_T) (q : Nat) (C : String) : Prop := ∃ (ci : Nat) (fd : List (Option Nat)) (r : vw_C), mt[q]? = some (.inl (ci, fd)) ∧ vwCl[ci]? = some r ∧ r.1 = C
section GQC
variable {p : Program} {l : Launch} {e : Env} {R : Room} {s : State} {m : MethodId} {args : Array Value} {below : List Frame} {meth : Method} {c : Code} {Q : State → Prop}
variable {D : va_G} {A : Nat → Prop} {cI cZ : ClassId} {ad : Nat → Nat} {mt : List gq_T} {own : String} {cc : ByteArray} {nL : Nat}
variable {pc : Nat} {L : List (Nat × Value)} {st : List Value} {M : gq_M} {kc ks : Nat}
theorem gq_Ale {sz : Nat} (hC : gq_C p s m args meth c D A cI cZ ad mt own cc nL) (hz : s.heap.size ≤ sz) : ∀ q, gq_A ad mt.length sz q → A q := by
  intro q h
  rcases h with ⟨k, hk, rfl⟩ | h
  · exact hC.2.2.2.2.2.2.2.2.2 k hk
  · exact hC.2.2.2.2.2.2.2.1 q (Nat.le_trans hz h)
theorem gq_context {y : MethodName} {as : List Value} {ret : Option FieldType} {rm : Room} {s₁ : State} (hinj : gq_inj ad mt.length) (B : BodyLoose p l y (headSpec (.code y cc nL ret :: gT) rm) cc nL ret e s m as.toArray below meth c s₁) (hml : c.maxLocals = nL) (hK : gq_K D cI cZ s) (hown : y.cls = own) :
    gq_C p s m as.toArray meth c D (gq_A ad mt.length s.heap.size) cI cZ ad mt own cc nL := by
  subst hown
  have hts := atoms_spec (ws := .code y cc nL ret :: gT) B.pre
  exact ⟨B.exec, B.bytes, hml, findClass_of_methodNamed B.named, fun w h => hts w (List.mem_cons_of_mem _ h), hK, B.notSynchronized, fun q h => Or.inr h, hinj, fun k h => Or.inl ⟨k, h, rfl⟩⟩
theorem gq_introI {y : MethodName} {ret : Option FieldType} {dm : Nat} {as : List Value} {v : Int32} {M' : gq_M} (hy : plainName y.cls = true) (hown : y.cls = own) (hle : (lg_sl as).length ≤ nL)
    (body : ∀ (p : Program) (e : Env) (s : State) (m : MethodId) (below : List Frame) (meth : Method) (c : Code), gq_C p s m as.toArray meth c D (gq_A ad mt.length s.heap.size) cI cZ ad mt own cc nL → meth.sig.returnType = ret →
      gq_W p l e (gq_rm dm) s m as.toArray below meth c D (gq_A ad mt.length s.heap.size) cI cZ ad mt nL (MQ below (gq_Qi D cI cZ ad mt v M' (gq_A ad mt.length s.heap.size)) as.toArray s 0 0 (gq_A ad mt.length s.heap.size)) 0 (lv_args 0 as) [] M 0 0) : gq_Ci l D cI cZ ad mt y cc nL ret dm as M v M' := by
  intro hinj sz
  refine Met.ofW (cc := cc) (maxL := nL) (ret := ret) hy rfl ?_
  intro p e s m args below meth c s₁ B hml hv
  obtain ⟨rfl, hsz, hP, hK⟩ := hv
  subst hsz
  have h0 := body p e s m below meth c (gq_context hinj B hml hK hown) B.returns s.heap [] _ hP va_S.rf (lv_entry as hle)
  rw [lg_entry_eq]
  exact h0
theorem gq_introV {y : MethodName} {dm : Nat} {as : List Value} {M' : gq_M} (hy : plainName y.cls = true) (hown : y.cls = own) (hle : (lg_sl as).length ≤ nL)
    (body : ∀ (p : Program) (e : Env) (s : State) (m : MethodId) (below : List Frame) (meth : Method) (c : Code), gq_C p s m as.toArray meth c D (gq_A ad mt.length s.heap.size) cI cZ ad mt own cc nL → meth.sig.returnType = none →
      gq_W p l e (gq_rm dm) s m as.toArray below meth c D (gq_A ad mt.length s.heap.size) cI cZ ad mt nL (MQ below (gq_Qv D cI cZ ad mt M' (gq_A ad mt.length s.heap.size)) as.toArray s 0 0 (gq_A ad mt.length s.heap.size)) 0 (lv_args 0 as) [] M 0 0) : gq_Cv l D cI cZ ad mt y cc nL dm as M M' := by
  intro hinj sz
  refine Met.ofW (cc := cc) (maxL := nL) (ret := none) hy rfl ?_
  intro p e s m args below meth c s₁ B hml hv
  obtain ⟨rfl, hsz, hP, hK⟩ := hv
  subst hsz
  have h0 := body p e s m below meth c (gq_context hinj B hml hK hown) B.returns s.heap [] _ hP va_S.rf (lv_entry as hle)
  rw [lg_entry_eq]
  exact h0
theorem g_iret (hC : gq_C p s m args meth c D A cI cZ ad mt own cc nL) {v : Int32} (hr : meth.sig.returnType = some .int) (d : decode cc pc = .ok (.ireturn, 1)) : gq_W p l e R s m args below meth c D A cI cZ ad mt nL (MQ below (gq_Qi D cI cZ ad mt v M A) args s kc ks A) pc L [.int v] M kc ks := fun H locs ls hP hS hl =>
  W.iret hC.1 hC.2.1 hr (fun t ht hW => ⟨⟨v, (), rfl, rfl, by show va_P _ _ _ t.heap; rw [ht]; exact hP, va_K.moved hW.alike hC.2.2.2.2.2.1⟩, hS.F ht⟩) hS.2.2 d hC.2.2.2.2.2.2.1
theorem g_zret (hC : gq_C p s m args meth c D A cI cZ ad mt own cc nL) {v : Int32} (hv : gq_bit v) (hr : meth.sig.returnType = some .boolean) (d : decode cc pc = .ok (.ireturn, 1)) : gq_W p l e R s m args below meth c D A cI cZ ad mt nL (MQ below (gq_Qi D cI cZ ad mt v M A) args s kc ks A) pc L [.int v] M kc ks := fun H locs ls hP hS hl =>
  W.zret hC.1 hC.2.1 hr (gq_bitN hv).1 (fun t ht hW => ⟨⟨v, (), rfl, rfl, by show va_P _ _ _ t.heap; rw [ht]; exact hP, va_K.moved hW.alike hC.2.2.2.2.2.1⟩, hS.F ht⟩) hS.2.2 d hC.2.2.2.2.2.2.1
theorem g_vret (hC : gq_C p s m args meth c D A cI cZ ad mt own cc nL) (hr : meth.sig.returnType = none) (d : decode cc pc = .ok (.return_, 1)) : gq_W p l e R s m args below meth c D A cI cZ ad mt nL (MQ below (gq_Qv D cI cZ ad mt M A) args s kc ks A) pc L [] M kc ks := fun H locs ls hP hS hl =>
  W.vret hC.1 hC.2.1 hr (fun t ht hW => ⟨⟨(), rfl, trivial, by show va_P _ _ _ t.heap; rw [ht]; exact hP, va_K.moved hW.alike hC.2.2.2.2.2.1⟩, hS.F ht⟩) hS.2.2 d hC.2.2.2.2.2.2.1
variable {y : MethodName} {bytes : ByteArray} {maxL : Nat} {ret : Option FieldType} {dm : Nat} {index q n : Nat} {as stk : List Value} {v : Int32} {M' : gq_M}
theorem gq_call (hC : gq_C p s m args meth c D A cI cZ ad mt own cc nL) (hw1 : Cond.code y bytes maxL ret ∈ gT) (hw2 : Cond.initialized y.cls ∈ gT) (hl : Cond.methodLink own index y ∈ gT) (hd : y.cls ≠ "java/lang/invoke/MethodHandle" ∧ y.cls ≠ "java/lang/invoke/VarHandle" ∧ (parseMethodDescriptor y.desc).map (fun d => d.parameters.length) = some n) (hR : dm + 1 ≤ R.frames ∧ 8 + (maxL + 11) + 48 * dm ≤ R.locals) :
    CallB R s args own index y bytes maxL ret (.code y bytes maxL ret :: gT) (gq_rm dm) 0 0 n :=
  callB_of n hC.2.2.2.2.1 (gq_goodC hw1) rfl rfl rfl (hC.2.2.2.2.1 _ hw2) (hC.2.2.2.2.1 _ hl) hd hR

theorem g_Vi (hC : gq_C p s m args meth c D A cI cZ ad mt own cc nL) (hc : gq_Ci l D cI cZ ad mt y bytes maxL ret dm (.ref (ad q) :: as) M v M') (hm : gq_MV y bytes maxL ret n) (hl2 : Cond.methodLink own index y ∈ gT) (hq : gq_ob mt q y.cls) (hn : as.length = n) (hst : stk = as.reverse ++ .ref (ad q) :: st) (hW : (st.map fun v => v.category).sum ≤ 8) (hR : dm + 1 ≤ R.frames ∧ 8 + (maxL + 11) + 48 * dm ≤ R.locals) (hk : kc ≤ R.cells ∧ ks ≤ R.slots) (d : decode cc pc = .ok (.invokevirtual index, 3)) (kk : gq_W p l e R s m args below meth c D A cI cZ ad mt nL Q (pc + 3) L (.int v :: st) M' kc ks) : gq_W p l e R s m args below meth c D A cI cZ ad mt nL Q pc L stk M kc ks := by
  intro H locs ls hP hS hl
  subst hst
  obtain ⟨ci, fd, r, g1, g2, g3⟩ := hq
  have hrec := va_recv hC.2.2.2.2.2.1 hP g2 (gq_ws_get g1)
  rw [g3] at hrec
  refine va_calli (va_runV (As := as) (rest := st) ⟨hC.1, hC.2.1, hC.2.2.1, hC.2.2.2.1, hC.2.2.2.2.1⟩ (hc hC.2.2.2.2.2.2.2.2.1 H.size) ⟨gq_call hC hm.1 hm.2.1 hl2 hm.2.2.2.2 hR, hC.2.2.2.2.1 _ hm.2.2.1, hC.2.2.2.2.1 _ hm.2.2.2.1⟩ ⟨gq_blind, hrec, fun U hU hW => ⟨rfl, by rw [hU], by rw [hU]; exact hP, va_K.moved hW.alike hC.2.2.2.2.2.1⟩⟩ rfl hn hl.1 rfl (lv_room (pc := pc) (ls := ls) (rest := st) (m := m) hW) d ⟨by omega, by omega⟩) hS (fun q _ h => gq_Ale hC hS.1 q h) (gq_Ale hC hS.1) (fun r u t H1 locs1 ht hvm hw hB hz hk hS1 => ?_)
  subst hw; exact kk H1 locs1 ls (by rw [← ht]; exact hB.1) hS1 hl
theorem g_Si (hC : gq_C p s m args meth c D A cI cZ ad mt own cc nL) (hc : gq_Ci l D cI cZ ad mt y bytes maxL ret dm as M v M') (hm : gq_MS y bytes maxL ret n) (hl2 : Cond.methodLink own index y ∈ gT) (hn : as.length = n) (hst : stk = as.reverse ++ st) (hW : (st.map fun v => v.category).sum ≤ 8) (hR : dm + 1 ≤ R.frames ∧ 8 + (maxL + 11) + 48 * dm ≤ R.locals) (hk : kc ≤ R.cells ∧ ks ≤ R.slots) (d : decode cc pc = .ok (.invokestatic index, 3)) (kk : gq_W p l e R s m args below meth c D A cI cZ ad mt nL Q (pc + 3) L (.int v :: st) M' kc ks) : gq_W p l e R s m args below meth c D A cI cZ ad mt nL Q pc L stk M kc ks := by
  intro H locs ls hP hS hl
  subst hst
  refine va_calli (va_runS (As := as) (rest := st) ⟨hC.1, hC.2.1, hC.2.2.1, hC.2.2.2.1, hC.2.2.2.2.1⟩ (hc hC.2.2.2.2.2.2.2.2.1 H.size) ⟨gq_call hC hm.1 hm.2.1 hl2 hm.2.2.2 hR, hC.2.2.2.2.1 _ hm.2.2.1⟩ ⟨gq_blind, fun U hU hW => ⟨rfl, by rw [hU], by rw [hU]; exact hP, va_K.moved hW.alike hC.2.2.2.2.2.1⟩⟩ rfl hn hl.1 rfl (lv_room (pc := pc) (ls := ls) (rest := st) (m := m) hW) d ⟨by omega, by omega⟩) hS (fun q _ h => gq_Ale hC hS.1 q h) (gq_Ale hC hS.1) (fun r u t H1 locs1 ht hvm hw hB hz hk hS1 => ?_)
  subst hw; exact kk H1 locs1 ls (by rw [← ht]; exact hB.1) hS1 hl
theorem g_Vv (hC : gq_C p s m args meth c D A cI cZ ad mt own cc nL) (hc : gq_Cv l D cI cZ ad mt y bytes maxL dm (.ref (ad q) :: as) M M') (hm : gq_MV y bytes maxL none n) (hl2 : Cond.methodLink own index y ∈ gT) (hq : gq_ob mt q y.cls) (hn : as.length = n) (hst : stk = as.reverse ++ .ref (ad q) :: st) (hW : (st.map fun v => v.category).sum ≤ 8) (hR : dm + 1 ≤ R.frames ∧ 8 + (maxL + 11) + 48 * dm ≤ R.locals) (hk : kc ≤ R.cells ∧ ks ≤ R.slots) (d : decode cc pc = .ok (.invokevirtual index, 3)) (kk : gq_W p l e R s m args below meth c D A cI cZ ad mt nL Q (pc + 3) L st M' kc ks) : gq_W p l e R s m args below meth c D A cI cZ ad mt nL Q pc L stk M kc ks := by
  intro H locs ls hP hS hl
  subst hst
  obtain ⟨ci, fd, r, g1, g2, g3⟩ := hq
  have hrec := va_recv hC.2.2.2.2.2.1 hP g2 (gq_ws_get g1)
  rw [g3] at hrec
  refine va_callv (va_runV (As := as) (rest := st) ⟨hC.1, hC.2.1, hC.2.2.1, hC.2.2.2.1, hC.2.2.2.2.1⟩ (hc hC.2.2.2.2.2.2.2.2.1 H.size) ⟨gq_call hC hm.1 hm.2.1 hl2 hm.2.2.2.2 hR, hC.2.2.2.2.1 _ hm.2.2.1, hC.2.2.2.2.1 _ hm.2.2.2.1⟩ ⟨gq_blind, hrec, fun U hU hW => ⟨rfl, by rw [hU], by rw [hU]; exact hP, va_K.moved hW.alike hC.2.2.2.2.2.1⟩⟩ rfl hn hl.1 rfl (lv_room (pc := pc) (ls := ls) (rest := st) (m := m) hW) d ⟨by omega, by omega⟩) hS (fun q _ h => gq_Ale hC hS.1 q h) (gq_Ale hC hS.1) (fun u t H1 locs1 ht hvm hw hB hz hk hS1 => ?_)
  exact kk H1 locs1 ls (by rw [← ht]; exact hB.1) hS1 hl
theorem g_Sv (hC : gq_C p s m args meth c D A cI cZ ad mt own cc nL) (hc : gq_Cv l D cI cZ ad mt y bytes maxL dm as M M') (hm : gq_MS y bytes maxL none n) (hl2 : Cond.methodLink own index y ∈ gT) (hn : as.length = n) (hst : stk = as.reverse ++ st) (hW : (st.map fun v => v.category).sum ≤ 8) (hR : dm + 1 ≤ R.frames ∧ 8 + (maxL + 11) + 48 * dm ≤ R.locals) (hk : kc ≤ R.cells ∧ ks ≤ R.slots) (d : decode cc pc = .ok (.invokestatic index, 3)) (kk : gq_W p l e R s m args below meth c D A cI cZ ad mt nL Q (pc + 3) L st M' kc ks) : gq_W p l e R s m args below meth c D A cI cZ ad mt nL Q pc L stk M kc ks := by
  intro H locs ls hP hS hl
  subst hst
  refine va_callv (va_runS (As := as) (rest := st) ⟨hC.1, hC.2.1, hC.2.2.1, hC.2.2.2.1, hC.2.2.2.2.1⟩ (hc hC.2.2.2.2.2.2.2.2.1 H.size) ⟨gq_call hC hm.1 hm.2.1 hl2 hm.2.2.2 hR, hC.2.2.2.2.1 _ hm.2.2.1⟩ ⟨gq_blind, fun U hU hW => ⟨rfl, by rw [hU], by rw [hU]; exact hP, va_K.moved hW.alike hC.2.2.2.2.2.1⟩⟩ rfl hn hl.1 rfl (lv_room (pc := pc) (ls := ls) (rest := st) (m := m) hW) d ⟨by omega, by omega⟩) hS (fun q _ h => gq_Ale hC hS.1 q h) (gq_Ale hC hS.1) (fun u t H1 locs1 ht hvm hw hB hz hk hS1 => ?_)
  exact kk H1 locs1 ls (by rw [← ht]; exact hB.1) hS1 hl
theorem g_mmax (hC : gq_C p s m args meth c D A cI cZ ad mt own cc nL) {x y : Int32} (hw1 : Cond.methodLink own index Lib.Math.max.name ∈ gT) (hw2 : Cond.static Lib.Math.max.name ∈ gT) (hw3 : Cond.initialized "java/lang/Math" ∈ gT) (hw4 : Cond.code Lib.Math.max.name Lib.Math.max.code 2 (some .int) ∈ gT) (hR : 1 ≤ R.frames ∧ (st.map fun v => v.category).sum + 13 ≤ R.locals) (hk : kc ≤ R.cells ∧ ks ≤ R.slots) (d : decode cc pc = .ok (.invokestatic index, 3)) (kk : gq_W p l e R s m args below meth c D A cI cZ ad mt nL Q (pc + 3) L (.int (if x < y then y else x) :: st) M kc ks) : gq_W p l e R s m args below meth c D A cI cZ ad mt nL Q pc L (.int y :: .int x :: st) M kc ks := fun H locs ls hP hS hl =>
  va_mmax hC.1 hC.2.1 (hC.2.2.1.trans hl.1.symm) hC.2.2.2.1 (hC.2.2.2.2.1 _ hw1) (hC.2.2.2.2.1 _ hw2) (hC.2.2.2.2.1 _ hw3) (hC.2.2.2.2.1 _ hw4) hR.1 hR.2 hk.1 hk.2 d (kk H locs ls hP hS hl)
theorem g_mmin (hC : gq_C p s m args meth c D A cI cZ ad mt own cc nL) {x y : Int32} (hw1 : Cond.methodLink own index Lib.Math.min.name ∈ gT) (hw2 : Cond.static Lib.Math.min.name ∈ gT) (hw3 : Cond.initialized "java/lang/Math" ∈ gT) (hw4 : Cond.code Lib.Math.min.name Lib.Math.min.code 2 (some .int) ∈ gT) (hR : 1 ≤ R.frames ∧ (st.map fun v => v.category).sum + 13 ≤ R.locals) (hk : kc ≤ R.cells ∧ ks ≤ R.slots) (d : decode cc pc = .ok (.invokestatic index, 3)) (kk : gq_W p l e R s m args below meth c D A cI cZ ad mt nL Q (pc + 3) L (.int (if y < x then y else x) :: st) M kc ks) : gq_W p l e R s m args below meth c D A cI cZ ad mt nL Q pc L (.int y :: .int x :: st) M kc ks := fun H locs ls hP hS hl =>
  va_mmin hC.1 hC.2.1 (hC.2.2.1.trans hl.1.symm) hC.2.2.2.1 (hC.2.2.2.2.1 _ hw1) (hC.2.2.2.2.1 _ hw2) (hC.2.2.2.2.1 _ hw3) (hC.2.2.2.2.1 _ hw4) hR.1 hR.2 hk.1 hk.2 d (kk H locs ls hP hS hl)
theorem g_mmaxl (hC : gq_C p s m args meth c D A cI cZ ad mt own cc nL) {x y : Int64} (hw1 : Cond.methodLink own index Lib.MathLoose.max_long.x ∈ gT) (hw2 : Cond.static Lib.MathLoose.max_long.x ∈ gT) (hw3 : Cond.initialized "java/lang/Math" ∈ gT) (hw4 : Cond.code Lib.MathLoose.max_long.x Lib.MathLoose.max_long.code 4 (some .long) ∈ gT) (hR : 1 ≤ R.frames ∧ (st.map fun v => v.category).sum + 15 ≤ R.locals) (hk : kc ≤ R.cells ∧ ks ≤ R.slots) (d : decode cc pc = .ok (.invokestatic index, 3)) (kk : gq_W p l e R s m args below meth c D A cI cZ ad mt nL Q (pc + 3) L (.long (if y < x then x else y) :: st) M kc ks) : gq_W p l e R s m args below meth c D A cI cZ ad mt nL Q pc L (.long y :: .long x :: st) M kc ks := fun H locs ls hP hS hl =>
  va_mmax_long hC.1 hC.2.1 (hC.2.2.1.trans hl.1.symm) hC.2.2.2.1 (hC.2.2.2.2.1 _ hw1) (hC.2.2.2.2.1 _ hw2) (hC.2.2.2.2.1 _ hw3) (hC.2.2.2.2.1 _ hw4) hR.1 hR.2 hk.1 hk.2 d (kk H locs ls hP hS hl)
end GQC
