/-! worlds that grow: the constructors -/
section GC
variable {p : Program} {l : Launch} {e : Env} {R : Room} {s : State} {m : MethodId} {args : Array Value} {below : List Frame} {meth : Method} {c : Code} {Q : State → Prop}
variable {D : va_G} {A : Nat → Prop} {cI cZ : ClassId} {own : String} {cc : ByteArray} {nL : Nat}
variable {pc : Nat} {L : List (Nat × Value)} {st : List Value} {kc ks : Nat} {ws : va_W}
def gc_C (p : Program) (s : State) (m : MethodId) (args : Array Value) (meth : Method) (c : Code) (D : va_G) (A : Nat → Prop) (cI cZ : ClassId) (own : String) (cc : ByteArray) (nL : Nat) : Prop :=
  p.tables.exec = Jvm.exec ∧ c.code = cc ∧ c.maxLocals = nL ∧ s.vm.findClass own = some m.cls ∧ (∀ w ∈ gT, w.before args s = true) ∧ gq_K D cI cZ s ∧ meth.locks = false ∧ ∀ q, s.heap.size ≤ q → A q
def gc_W (p : Program) (l : Launch) (e : Env) (R : Room) (s : State) (m : MethodId) (args : Array Value) (below : List Frame) (meth : Method) (c : Code) (D : va_G) (A : Nat → Prop) (nL : Nat) (Q : State → Prop) (ws : va_W) (pc : Nat) (L : List (Nat × Value)) (st : List Value) (kc ks : Nat) : Prop :=
  ∀ (H : Heap) (locs : List Loc) (ls : Array Slot), va_P D vwCl ws H → va_D A ws → va_S A s.heap H locs → lv_has ls nL L → W p l e R s m args below meth c H locs kc ks Q (F0 m pc ls st)
def gc_Pc (D : va_G) (cI cZ : ClassId) (as : List Value) (ws : va_W) (sz : Nat) : Array Value → State → Prop := va_Pc as (fun U => U.heap.size = sz ∧ va_P D vwCl ws U.heap ∧ gq_K D cI cZ U ∧ va_D (fun _ => True) ws)
theorem gc_blind {as : List Value} {sz : Nat} : FrameBlind (gc_Pc D cI cZ as ws sz) := fun a U g mk q => ⟨q.1, q.2.1, q.2.2.1, va_K.moved (u := U) (U := U.calling g mk a) (Vm.Alike.refl U.vm) q.2.2.2.1, q.2.2.2.2⟩
def gc_Qv {S : Type} (D : va_G) (cI cZ : ClassId) (A : Nat → Prop) (wf : S → va_W) : Array Value → State → Outcome → State → Prop := va_Qv (fun (_ : S) => True) (fun u t => va_P D vwCl (wf u) t.heap ∧ gq_K D cI cZ t ∧ va_D A (wf u)) A
def gc_rm (d mc ms : Nat) : Room := { frames := d, cells := mc, slots := ms, locals := 48 * d }
def gc_Ct {S : Type} (l : Launch) (D : va_G) (cI cZ : ClassId) (y : MethodName) (cc : ByteArray) (nL d mc ms : Nat) (as : List Value) (ws : va_W) (wf : S → va_W) : Prop :=
  ∀ sz, Met l y (.code y cc nL none :: gT) (gc_rm d mc ms) (gc_Pc D cI cZ as ws sz) (gc_Qv D cI cZ (va_A ws sz) wf) mc ms (va_A ws sz)
theorem gc_intro {S : Type} {y : MethodName} {d mc ms : Nat} {as : List Value} {wf : S → va_W} (hy : plainName y.cls = true) (hown : y.cls = own) (hle : (lg_sl as).length ≤ nL)
    (body : ∀ (p : Program) (e : Env) (s : State) (m : MethodId) (below : List Frame) (meth : Method) (c : Code), gc_C p s m as.toArray meth c D (va_A ws s.heap.size) cI cZ own cc nL → meth.sig.returnType = none → meth.name = y.name →
      gc_W p l e (gc_rm d mc ms) s m as.toArray below meth c D (va_A ws s.heap.size) nL (MQ below (gc_Qv D cI cZ (va_A ws s.heap.size) wf) as.toArray s mc ms (va_A ws s.heap.size)) ws 0 (lv_args 0 as) [] 0 0) : gc_Ct l D cI cZ y cc nL d mc ms as ws wf := by
  subst hown
  intro sz
  refine Met.ofW (cc := cc) (maxL := nL) (ret := none) hy rfl ?_
  intro p e s m args below meth c s₁ B hml hv
  obtain ⟨rfl, hsz, hP, hK, hD0⟩ := hv
  subst hsz
  have hts := atoms_spec (ws := .code y cc nL none :: gT) B.pre
  have h0 := body p e s m below meth c ⟨B.exec, B.bytes, hml, findClass_of_methodNamed B.named, fun w h => hts w (List.mem_cons_of_mem _ h), hK, B.notSynchronized, fun q h => Or.inr h⟩ B.returns (name_of_methodNamed B.named B.method).1 s.heap [] _ hP hD0.self va_S.rf (lv_entry as hle)
  rw [lg_entry_eq]
  exact h0
theorem gc_vret {S : Type} {wf : S → va_W} (hC : gc_C p s m args meth c D A cI cZ own cc nL) (hr : meth.sig.returnType = none) (u : S) (hw : ws = wf u) (d : decode cc pc = .ok (.return_, 1)) : gc_W p l e R s m args below meth c D A nL (MQ below (gc_Qv D cI cZ A wf) args s kc ks A) ws pc L [] kc ks := by
  subst hw
  exact fun H locs ls hP hD hS hl => W.vret hC.1 hC.2.1 hr (fun t ht hW => ⟨⟨u, rfl, trivial, by rw [ht]; exact hP, va_K.moved hW.alike hC.2.2.2.2.2.1, hD⟩, hS.F ht⟩) hS.2.2 d hC.2.2.2.2.2.2.1
theorem gc_cast {pc2 : Nat} {L2 : List (Nat × Value)} {st2 : List Value} {ws2 : va_W} {kc2 ks2 : Nat} (kk : gc_W p l e R s m args below meth c D A nL Q ws2 pc2 L2 st2 kc2 ks2) (h1 : pc = pc2) (h2 : L = L2) (h3 : st = st2) (h4 : ws = ws2) (h5 : kc = kc2) (h6 : ks = ks2) : gc_W p l e R s m args below meth c D A nL Q ws pc L st kc ks := by subst h1 h2 h3 h4 h5 h6; exact kk
theorem gc_frame {D : va_G} {cl : List vw_C} {A0 : Nat → Prop} {X wc w1 : va_W} {H H1 : Heap} (hP : va_P D cl (X ++ wc) H) (hD : va_D A0 (X ++ wc)) (hk : ∀ q : Nat, q < H.size → ¬ va_A wc H.size q → H1[q]? = H[q]?) (hF : ∀ q, va_A wc H.size q → A0 q) (hP1 : va_P D cl w1 H1) (hD1 : va_D (va_A wc H.size) w1) : va_P D cl (X ++ w1) H1 ∧ va_D A0 (X ++ w1) := by
  have hin : ∀ (k : Nat) (x : Nat × va_E), X[k]? = some x → (X ++ wc)[k]? = some x := fun k x hx => by rw [List.getElem?_append_left (List.getElem?_eq_some_iff.mp hx).1]; exact hx
  have apart : ∀ (k : Nat) (x : Nat × va_E), X[k]? = some x → x.1 < H.size ∧ ¬ va_A wc H.size x.1 := by
    intro k x hx
    have hl := (hP k x (hin k x hx)).lt
    refine ⟨hl, fun h => ?_⟩
    rcases h with ⟨j, ee, h⟩ | h
    · have h2 : (X ++ wc)[X.length + j]? = some (x.1, ee) := by rw [List.getElem?_append_right (by omega), Nat.add_sub_cancel_left]; exact h
      have := hD.1 k (X.length + j) x (x.1, ee) (hin k x hx) h2 rfl
      have h3 := (List.getElem?_eq_some_iff.mp hx).1
      omega
    · omega
  refine ⟨va_P.app (fun k x hx => (hP k x (hin k x hx)).kept (hk x.1 (apart k x hx).1 (apart k x hx).2)) hP1, va_D.app ⟨fun i j x y hx hy h => hD.1 i j x y (hin i x hx) (hin j y hy) h, fun k x hx => hD.2 k x (hin k x hx)⟩ (hD1.weaken (fun k q _ h => hF q.1 h)) (fun i j x y hx hy hxy => ?_)⟩
  exact (apart i x hx).2 (by rw [hxy]; exact hD1.2 j y hy)
theorem gc_freeA {A0 : Nat → Prop} {X wc : va_W} {H0 H : Heap} {locs : List Loc} (hD : va_D A0 (X ++ wc)) (hS : va_S A0 H0 H locs) (hA : ∀ q, H0.size ≤ q → A0 q) : ∀ q, va_A wc H.size q → A0 q := by
  intro q h
  rcases h with ⟨k, ee, h⟩ | h
  · exact hD.2 (X.length + k) (q, ee) (by rw [List.getElem?_append_right (by omega), Nat.add_sub_cancel_left]; exact h)
  · exact hA q (Nat.le_trans hS.1 h)
theorem gc_aload_n (hC : gc_C p s m args meth c D A cI cZ own cc nL) {k : Fin 4} {i x : Nat} (j : Nat) (hi : (k : Nat) = i) (hk : L[j]? = some (i, .ref x)) (d : decode cc pc = .ok (.aload_n k, 1)) (kk : gc_W p l e R s m args below meth c D A nL Q ws (pc + 1) L (.ref x :: st) kc ks) : gc_W p l e R s m args below meth c D A nL Q ws pc L st kc ks := fun H locs ls hP hD hS hl => lv_aload_n hC.1 hC.2.1 d hi (lv_at hl j hk) (kk H locs ls hP hD hS hl)
theorem gc_iload_n (hC : gc_C p s m args meth c D A cI cZ own cc nL) {k : Fin 4} {i : Nat} {x : Int32} (j : Nat) (hi : (k : Nat) = i) (hk : L[j]? = some (i, .int x)) (d : decode cc pc = .ok (.iload_n k, 1)) (kk : gc_W p l e R s m args below meth c D A nL Q ws (pc + 1) L (.int x :: st) kc ks) : gc_W p l e R s m args below meth c D A nL Q ws pc L st kc ks := fun H locs ls hP hD hS hl => lv_iload_n hC.1 hC.2.1 d hi (lv_at hl j hk) (kk H locs ls hP hD hS hl)
theorem gc_iconst (hC : gc_C p s m args meth c D A cI cZ own cc nL) {n : Int} {v : Int32} (hv : Int32.ofInt n = v) (d : decode cc pc = .ok (.iconst n, 1)) (kk : gc_W p l e R s m args below meth c D A nL Q ws (pc + 1) L (.int v :: st) kc ks) : gc_W p l e R s m args below meth c D A nL Q ws pc L st kc ks := fun H locs ls hP hD hS hl => lv_iconst hC.1 hC.2.1 d hv (kk H locs ls hP hD hS hl)
theorem gc_bipush (hC : gc_C p s m args meth c D A cI cZ own cc nL) {n : Int} {v : Int32} (hv : (Int8.ofInt n).toInt32 = v) (d : decode cc pc = .ok (.bipush n, 2)) (kk : gc_W p l e R s m args below meth c D A nL Q ws (pc + 2) L (.int v :: st) kc ks) : gc_W p l e R s m args below meth c D A nL Q ws pc L st kc ks := fun H locs ls hP hD hS hl => lv_bipush hC.1 hC.2.1 d hv (kk H locs ls hP hD hS hl)
theorem gc_sipush (hC : gc_C p s m args meth c D A cI cZ own cc nL) {n : Int} {v : Int32} (hv : (Int16.ofInt n).toInt32 = v) (d : decode cc pc = .ok (.sipush n, 3)) (kk : gc_W p l e R s m args below meth c D A nL Q ws (pc + 3) L (.int v :: st) kc ks) : gc_W p l e R s m args below meth c D A nL Q ws pc L st kc ks := fun H locs ls hP hD hS hl => lv_sipush hC.1 hC.2.1 d hv (kk H locs ls hP hD hS hl)
theorem gc_dup (hC : gc_C p s m args meth c D A cI cZ own cc nL) {v : Value} (hv : v.category = 1) (d : decode cc pc = .ok (.dup, 1)) (kk : gc_W p l e R s m args below meth c D A nL Q ws (pc + 1) L (v :: v :: st) kc ks) : gc_W p l e R s m args below meth c D A nL Q ws pc L (v :: st) kc ks := fun H locs ls hP hD hS hl => lv_dup hC.1 hC.2.1 d hv (kk H locs ls hP hD hS hl)
theorem gc_istore_n (hC : gc_C p s m args meth c D A cI cZ own cc nL) {k : Fin 4} {i : Nat} {x : Int32} {L2 : List (Nat × Value)} (hi : (k : Nat) = i) (hn : i < nL) (hl2 : (i, Value.int x) :: L.filter (fun q => !(q.1 == i) && !(q.1 + 1 == i && q.2.category == 2)) = L2) (d : decode cc pc = .ok (.istore_n k, 1)) (kk : gc_W p l e R s m args below meth c D A nL Q ws (pc + 1) L2 st kc ks) : gc_W p l e R s m args below meth c D A nL Q ws pc L (.int x :: st) kc ks := fun H locs ls hP hD hS hl => lv_istore_n hC.1 hC.2.1 d hi hl hn hl2 (fun ls hl => (kk H locs ls hP hD hS hl))
theorem gc_if_ge (hC : gc_C p s m args meth c D A cI cZ own cc nL) {x : Int32} {off : Int} {tgt : Nat} (ht : (pc : Int) + off = (tgt : Int)) (d : decode cc pc = .ok (.ifCond .ge off, 3)) (kt : 0 ≤ x → gc_W p l e R s m args below meth c D A nL Q ws tgt L st kc ks) (kf : ¬ 0 ≤ x → gc_W p l e R s m args below meth c D A nL Q ws (pc + 3) L st kc ks) : gc_W p l e R s m args below meth c D A nL Q ws pc L (.int x :: st) kc ks := fun H locs ls hP hD hS hl => lv_if_ge hC.1 hC.2.1 d ht (fun q => kt q H locs ls hP hD hS hl) (fun q => kf q H locs ls hP hD hS hl)
theorem gc_objInit (hC : gc_C p s m args meth c D A cI cZ own cc nL) {index a : Nat} (h1 : Cond.methodLink own index objectInit ∈ gT) (h2 : Cond.instanceMethod objectInit ∈ gT) (h3 : Cond.code objectInit ⟨#[0xb1]⟩ 1 none ∈ gT) (hR : 1 ≤ R.frames ∧ (st.map fun v => v.category).sum + 12 ≤ R.locals) (d : decode cc pc = .ok (.invokespecial index, 3)) (kk : gc_W p l e R s m args below meth c D A nL Q ws (pc + 3) L st kc ks) : gc_W p l e R s m args below meth c D A nL Q ws pc L (.ref a :: st) kc ks := fun H locs ls hP hD hS hl =>
  W.objInit hC.1 hC.2.1 hC.2.2.2.1 (hC.2.2.2.2.1 _ h1) (hC.2.2.2.2.1 _ h2) (hC.2.2.2.2.1 _ h3) (g := F0 m pc ls (.ref a :: st)) rfl (hl.1.trans hC.2.2.1.symm) rfl d hR.1 (by show 2 * 0 + _ + 12 ≤ _; have := hR.2; omega) (kk H locs ls hP hD hS hl)
theorem gc_new (hC : gc_C p s m args meth c D A cI cZ own cc nL) {index ci N : Nat} {C : String} {T : u_T} {fs : List Value} (ty : Nat → FieldType) (hc : vwCl[ci]? = some (C, T, N)) (hin : ∀ w ∈ u_ws C T N, w ∈ gT) (hty : ∀ k, k < N → parseFieldDescriptor (T k).2.2.1 = some (ty k)) (hcl : Cond.classLink own index C ∈ gT) (hins : Cond.instantiable C N ∈ gT) (hini : Cond.initialized C ∈ gT) (hfs : ∀ j, j < N → defaultValue (ty j) = vp_V fs j) (hcells : kc + 1 ≤ R.cells) (hslots : ks + N ≤ R.slots) (d : decode cc pc = .ok (.new index, 3))
    (kk : ∀ q : Nat, gc_W p l e R s m args below meth c D A nL Q (ws ++ [(q, .inr (ci, fs))]) (pc + 3) L (.ref q :: st) (kc + 1) (ks + N)) : gc_W p l e R s m args below meth c D A nL Q ws pc L st kc ks := fun H locs ls hP hD hS hl =>
  va_new hC.1 hC.2.1 hC.2.2.2.2.1 hin ty hty hC.2.2.2.1 (hC.2.2.2.2.1 _ hcl) (hC.2.2.2.2.1 _ hins) (hC.2.2.2.2.1 _ hini) hC.2.2.2.2.2.1 hP hD hS hC.2.2.2.2.2.2.2 hc hfs hcells hslots d (fun q H1 hP1 hD1 hS1 => kk q H1 locs ls hP1 hD1 hS1 hl)
theorem gc_newaI (hC : gc_C p s m args meth c D A cI cZ own cc nL) {x : Int32} {n : Nat} (harr : Cond.arrayClass .int ∈ gT) (hx : ¬ x < 0) (hN : x.toNatClampNeg = n) (hb : n ≤ 1000) (hcells : kc + 1 ≤ R.cells) (hslots : ks + n ≤ R.slots) (d : decode cc pc = .ok (.newarray .int, 2))
    (kk : ∀ q : Nat, gc_W p l e R s m args below meth c D A nL Q (ws ++ [(q, .inl (cI, n, .inl (fun _ => 0)))]) (pc + 2) L (.ref q :: st) (kc + 1) (ks + n)) : gc_W p l e R s m args below meth c D A nL Q ws pc L (.int x :: st) kc ks := by
  intro H locs ls hP hD hS hl
  refine va_newa (atype := .int) (ty := .int) (a0 := (n, .inl (fun _ => 0))) hC.1 hC.2.1 (hC.2.2.2.2.1 _ harr) rfl hC.2.2.2.2.2.1 hP hD hS hC.2.2.2.2.2.2.2 (fun _ => rfl) hx hN (by show n * 4 ≤ _; omega) hcells hslots d (fun q cA H1 hK1 hP1 hD1 hS1 => ?_)
  have h1 : s.vm.findClass ("[" ++ (FieldType.int).toString) = some cA := (hK1.2 2 (cA, .int) rfl).2
  have h2 : s.vm.findClass ("[" ++ (FieldType.int).toString) = some cI := (hC.2.2.2.2.2.1.2 0 (cI, .int) rfl).2
  have h3 : cA = cI := Option.some.inj (h1.symm.trans h2)
  subst h3
  exact kk q H1 locs ls hP1 hD1 hS1 hl
theorem gc_putR (hC : gc_C p s m args meth c D A cI cZ own cc nL) (hnm0 : meth.name = "<init>") {index ci N k h0 : Nat} {C : String} {T : u_T} {fs : List Value} {X : va_W} {ty : FieldType} {v : Value} (ty0 : Nat → FieldType) (hc : vwCl[ci]? = some (C, T, N)) (hin : ∀ w ∈ u_ws C T N, w ∈ gT) (hty : ∀ k, k < N → parseFieldDescriptor (T k).2.2.1 = some (ty0 k)) (hnm : ∀ a, a < N → ∀ b, b < N → a ≠ b → (T a).2.1 ≠ (T b).2.1) (hk : k < N) (hl2 : Cond.fieldLink own index (T k).1 (T k).2.1 (T k).2.2.1 ∈ gT) (hfin : (T k).2.2.2 = true) (hdecl : (T k).1 = own) (hd : parseFieldDescriptor (T k).2.2.1 = some ty) (hn : narrow ty v = v) (hfit : fits ty v = true) (hlen : k < fs.length) (d : decode cc pc = .ok (.putfield index, 3))
    (kk : gc_W p l e R s m args below meth c D A nL Q ((h0, .inr (ci, fs.set k v)) :: X) (pc + 3) L st kc ks) : gc_W p l e R s m args below meth c D A nL Q ((h0, .inr (ci, fs)) :: X) pc L (v :: .ref h0 :: st) kc ks := fun H locs ls hP hD hS hl =>
  va_putF hC.1 hC.2.1 hC.2.2.2.2.1 hin ty0 hty hnm hC.2.2.2.1 hC.2.2.2.2.2.1 hP hD hS 0 rfl hc k hk (hC.2.2.2.2.1 _ hl2) (fun _ h => h) hfin hnm0 hdecl hd hn hfit hlen d (fun H1 locs1 hP1 hD1 hS1 => kk H1 locs1 ls hP1 hD1 hS1 hl)
theorem gc_putI (hC : gc_C p s m args meth c D A cI cZ own cc nL) {index ci N k h0 : Nat} {C : String} {T : u_T} {fs : List Value} {X : va_W} {ty : FieldType} {v : Value} (ty0 : Nat → FieldType) (hc : vwCl[ci]? = some (C, T, N)) (hin : ∀ w ∈ u_ws C T N, w ∈ gT) (hty : ∀ k, k < N → parseFieldDescriptor (T k).2.2.1 = some (ty0 k)) (hnm : ∀ a, a < N → ∀ b, b < N → a ≠ b → (T a).2.1 ≠ (T b).2.1) (hk : k < N) (hl2 : Cond.fieldLink own index (T k).1 (T k).2.1 (T k).2.2.1 ∈ gT) (hfin : (T k).2.2.2 = false) (hd : parseFieldDescriptor (T k).2.2.1 = some ty) (hn : narrow ty v = v) (hfit : fits ty v = true) (hlen : k < fs.length) (d : decode cc pc = .ok (.putfield index, 3))
    (kk : gc_W p l e R s m args below meth c D A nL Q ((h0, .inr (ci, fs.set k v)) :: X) (pc + 3) L st kc ks) : gc_W p l e R s m args below meth c D A nL Q ((h0, .inr (ci, fs)) :: X) pc L (v :: .ref h0 :: st) kc ks := fun H locs ls hP hD hS hl =>
  va_put hC.1 hC.2.1 hC.2.2.2.2.1 hin ty0 hty hnm hC.2.2.2.1 hC.2.2.2.2.2.1 hP hD hS 0 rfl hc k hk (hC.2.2.2.2.1 _ hl2) (fun _ h => h) hfin hd hn hfit hlen d (fun H1 locs1 hP1 hD1 hS1 => kk H1 locs1 ls hP1 hD1 hS1 hl)
variable {y : MethodName} {bytes : ByteArray} {maxL : Nat} {dm mc ms : Nat} {index h0 n : Nat} {as stk : List Value}
def gc_MI (y : MethodName) (cc : ByteArray) (nL : Nat) (n : Nat) : Prop := Cond.code y cc nL none ∈ gT ∧ Cond.initialized y.cls ∈ gT ∧ Cond.instanceMethod y ∈ gT ∧ y.name = "<init>" ∧ (y.cls ≠ "java/lang/invoke/MethodHandle" ∧ y.cls ≠ "java/lang/invoke/VarHandle" ∧ (parseMethodDescriptor y.desc).map (fun d => d.parameters.length) = some n)
/-- a constructor of one's own package; a nest mate's -/
theorem gc_callI {S : Type} {X wc : va_W} {wf : S → va_W} (hC : gc_C p s m args meth c D A cI cZ own cc nL) (hc : gc_Ct l D cI cZ y bytes maxL dm mc ms (.ref h0 :: as) wc wf) (hm : gc_MI y bytes maxL n) (hl2 : Cond.methodLink own index y ∈ gT) (hn : as.length = n) (hst : stk = as.reverse ++ .ref h0 :: st) (hw : ws = X ++ wc) (hW : (st.map fun v => v.category).sum ≤ 8) (hR : dm + 1 ≤ R.frames ∧ 8 + (maxL + 11) + 48 * dm ≤ R.locals) (hk : kc + mc ≤ R.cells ∧ ks + ms ≤ R.slots) (d : decode cc pc = .ok (.invokespecial index, 3))
    (kk : ∀ u : S, gc_W p l e R s m args below meth c D A nL Q (X ++ wf u) (pc + 3) L st (kc + mc) (ks + ms)) : gc_W p l e R s m args below meth c D A nL Q ws pc L stk kc ks := by
  subst hst hw
  intro H locs ls hP hD hS hl
  have hPc : va_P D vwCl wc H := fun k x hx => hP (X.length + k) x (by rw [List.getElem?_append_right (by omega), Nat.add_sub_cancel_left]; exact hx)
  have hDc : va_D (fun _ => True) wc := ⟨fun i j x z hx hz h => by
    have := hD.1 (X.length + i) (X.length + j) x z (by rw [List.getElem?_append_right (by omega), Nat.add_sub_cancel_left]; exact hx) (by rw [List.getElem?_append_right (by omega), Nat.add_sub_cancel_left]; exact hz) h
    omega, fun _ _ _ => trivial⟩
  have hF := gc_freeA hD hS hC.2.2.2.2.2.2.2
  refine va_callv (va_runI (As := as) (rest := st) ⟨hC.1, hC.2.1, hC.2.2.1, hC.2.2.2.1, hC.2.2.2.2.1⟩ (hc H.size) ⟨callB_of n hC.2.2.2.2.1 (gq_goodC hm.1) rfl rfl rfl (hC.2.2.2.2.1 _ hm.2.1) (hC.2.2.2.2.1 _ hl2) hm.2.2.2.2 hR, hm.2.2.2.1, hC.2.2.2.2.1 _ hm.2.2.1⟩ ⟨gc_blind, fun U hU hW => ⟨rfl, by rw [hU], by rw [hU]; exact hPc, va_K.moved hW.alike hC.2.2.2.2.2.1, hDc⟩⟩ rfl hn hl.1 rfl (lv_room (pc := pc) (ls := ls) (rest := st) (m := m) hW) d hk) hS (fun q _ h => hF q h) hF (fun u t H1 locs1 ht hvm hw hB hz hk1 hS1 => ?_)
  obtain ⟨hP1, hK1, hD1⟩ := hB
  rw [ht] at hP1
  obtain ⟨hP2, hD2⟩ := gc_frame hP hD hk1 hF hP1 hD1
  exact kk u H1 locs1 ls hP2 hD2 hS1 hl
theorem gc_callN {S : Type} {X wc : va_W} {wf : S → va_W} {host : String} (hC : gc_C p s m args meth c D A cI cZ own cc nL) (hc : gc_Ct l D cI cZ y bytes maxL dm mc ms (.ref h0 :: as) wc wf) (hm : gc_MI y bytes maxL n) (hl2 : va_Nw (Cond.methodLinkNest own index y host) s) (hn : as.length = n) (hst : stk = as.reverse ++ .ref h0 :: st) (hw : ws = X ++ wc) (hW : (st.map fun v => v.category).sum ≤ 8) (hR : dm + 1 ≤ R.frames ∧ 8 + (maxL + 11) + 48 * dm ≤ R.locals) (hk : kc + mc ≤ R.cells ∧ ks + ms ≤ R.slots) (d : decode cc pc = .ok (.invokespecial index, 3))
    (kk : ∀ u : S, gc_W p l e R s m args below meth c D A nL Q (X ++ wf u) (pc + 3) L st (kc + mc) (ks + ms)) : gc_W p l e R s m args below meth c D A nL Q ws pc L stk kc ks := by
  subst hst hw
  intro H locs ls hP hD hS hl
  have hPc : va_P D vwCl wc H := fun k x hx => hP (X.length + k) x (by rw [List.getElem?_append_right (by omega), Nat.add_sub_cancel_left]; exact hx)
  have hDc : va_D (fun _ => True) wc := ⟨fun i j x z hx hz h => by
    have := hD.1 (X.length + i) (X.length + j) x z (by rw [List.getElem?_append_right (by omega), Nat.add_sub_cancel_left]; exact hx) (by rw [List.getElem?_append_right (by omega), Nat.add_sub_cancel_left]; exact hz) h
    omega, fun _ _ _ => trivial⟩
  have hF := gc_freeA hD hS hC.2.2.2.2.2.2.2
  refine va_callv (va_runIN (As := as) (rest := st) ⟨hC.1, hC.2.1, hC.2.2.1, hC.2.2.2.1, hC.2.2.2.2.1⟩ (hc H.size) ⟨va_cnB n hC.2.2.2.2.1 (gq_goodC hm.1) rfl rfl rfl hl2 (hC.2.2.2.2.1 _ hm.2.1) hm.2.2.2.2 hR, hm.2.2.2.1, hC.2.2.2.2.1 _ hm.2.2.1⟩ ⟨gc_blind, fun U hU hW => ⟨rfl, by rw [hU], by rw [hU]; exact hPc, va_K.moved hW.alike hC.2.2.2.2.2.1, hDc⟩⟩ rfl hn hl.1 rfl (lv_room (pc := pc) (ls := ls) (rest := st) (m := m) hW) d hk) hS (fun q _ h => hF q h) hF (fun u t H1 locs1 ht hvm hw hB hz hk1 hS1 => ?_)
  obtain ⟨hP1, hK1, hD1⟩ := hB
  rw [ht] at hP1
  obtain ⟨hP2, hD2⟩ := gc_frame hP hD hk1 hF hP1 hD1
  exact kk u H1 locs1 ls hP2 hD2 hS1 hl
/-- the world stands: its shape stays from here -/
theorem gc_toq {ad : Nat → Nat} {mt : List gq_T} {M : gq_M} (hw : ws = gq_ws cI cZ ad M 0 mt) (kk : gq_DD A ad mt.length → gq_W p l e R s m args below meth c D A cI cZ ad mt nL Q pc L st M kc ks) : gc_W p l e R s m args below meth c D A nL Q ws pc L st kc ks := by
  subst hw
  intro H locs ls hP hD hS hl
  have key : ∀ i, i < mt.length → ∃ x, (gq_ws cI cZ ad M 0 mt)[i]? = some x ∧ x.1 = ad i := fun i hi => by
    refine ⟨_, gq_ws_get (List.getElem?_eq_getElem hi), rfl⟩
  refine kk ⟨fun i j hi hj h => ?_, fun k hk => ?_⟩ H locs ls hP hS hl
  · obtain ⟨x, h1, h2⟩ := key i hi
    obtain ⟨z, h3, h4⟩ := key j hj
    exact hD.1 i j x z h1 h3 (by rw [h2, h4]; exact h)
  · obtain ⟨x, h1, h2⟩ := key k hk
    rw [← h2]; exact hD.2 k x h1
end GC
theorem wo_X9 : Cond.methodLink RX9 1 objectInit ∈ gT := gT_1 23 rfl rfl
theorem wo_X0 : Cond.methodLink RX0 3 objectInit ∈ gT := gT_1 31 rfl rfl
theorem wo_X8 : Cond.methodLink RX8 1 objectInit ∈ gT := gT_1 37 rfl rfl
theorem wo_X4 : Cond.methodLink RX4 3 objectInit ∈ gT := gT_1 76 rfl rfl
theorem wo_X2 : Cond.methodLink RX2 3 objectInit ∈ gT := gT_1 101 rfl rfl
theorem wo_X1 : Cond.methodLink RX1 3 objectInit ∈ gT := gT_1 130 rfl rfl
theorem wo_X6 : Cond.methodLink RX6 3 objectInit ∈ gT := gT_1 193 rfl rfl
theorem wo_X3 : Cond.methodLink RX3 3 objectInit ∈ gT := gT_1 235 rfl rfl
theorem wo_X7 : Cond.methodLink RX7 3 objectInit ∈ gT := gT_2 36 rfl rfl
theorem wo_X5 : Cond.methodLink RX5 3 objectInit ∈ gT := gT_2 54 rfl rfl
theorem wo_i : Cond.instanceMethod objectInit ∈ gT := gT_1 24 rfl rfl
theorem wo_c : Cond.code objectInit ⟨#[0xb1]⟩ 1 none ∈ gT := gT_1 25 (by decide +kernel) rfl
theorem wl_L_9 : Cond.classLink RL 9 RX9 ∈ gT := gT_1 18 rfl rfl
theorem wj_X9 : Cond.instantiable RX9 12 ∈ gT := gT_1 19 rfl rfl
theorem wl_X9_7 : Cond.classLink RX9 7 RX0 ∈ gT := gT_1 26 rfl rfl
theorem wj_X0 : Cond.instantiable RX0 7 ∈ gT := gT_1 27 rfl rfl
theorem wl_X0_9 : Cond.classLink RX0 9 RX8 ∈ gT := gT_1 32 rfl rfl
theorem wj_X8 : Cond.instantiable RX8 1 ∈ gT := gT_1 33 rfl rfl
theorem wa_int : Cond.arrayClass .int ∈ gT := gT_1 42 rfl rfl
theorem wl_X9_16 : Cond.classLink RX9 16 RX4 ∈ gT := gT_1 71 rfl rfl
theorem wj_X4 : Cond.instantiable RX4 3 ∈ gT := gT_1 72 rfl rfl
theorem wl_X4_9 : Cond.classLink RX4 9 RX8 ∈ gT := gT_1 77 rfl rfl
theorem wl_X9_23 : Cond.classLink RX9 23 RX2 ∈ gT := gT_1 96 rfl rfl
theorem wj_X2 : Cond.instantiable RX2 5 ∈ gT := gT_1 97 rfl rfl
theorem wl_X2_9 : Cond.classLink RX2 9 RX8 ∈ gT := gT_1 102 rfl rfl
theorem wl_X9_30 : Cond.classLink RX9 30 RX1 ∈ gT := gT_1 125 rfl rfl
theorem wj_X1 : Cond.instantiable RX1 14 ∈ gT := gT_1 126 rfl rfl
theorem wl_X1_9 : Cond.classLink RX1 9 RX8 ∈ gT := gT_1 131 rfl rfl
theorem wl_X9_37 : Cond.classLink RX9 37 RX6 ∈ gT := gT_1 188 rfl rfl
theorem wj_X6 : Cond.instantiable RX6 9 ∈ gT := gT_1 189 rfl rfl
theorem wl_X6_9 : Cond.classLink RX6 9 RX8 ∈ gT := gT_1 194 rfl rfl
theorem wl_X9_44 : Cond.classLink RX9 44 RX3 ∈ gT := gT_1 230 rfl rfl
theorem wj_X3 : Cond.instantiable RX3 8 ∈ gT := gT_1 231 rfl rfl
theorem wl_X3_9 : Cond.classLink RX3 9 RX8 ∈ gT := gT_1 236 rfl rfl
theorem wl_X9_51 : Cond.classLink RX9 51 RX7 ∈ gT := gT_2 31 rfl rfl
theorem wj_X7 : Cond.instantiable RX7 3 ∈ gT := gT_2 32 rfl rfl
theorem wl_X7_9 : Cond.classLink RX7 9 RX8 ∈ gT := gT_2 37 rfl rfl
theorem wl_X9_58 : Cond.classLink RX9 58 RX5 ∈ gT := gT_2 49 rfl rfl
theorem wj_X5 : Cond.instantiable RX5 5 ∈ gT := gT_2 50 rfl rfl
theorem wl_X5_9 : Cond.classLink RX5 9 RX8 ∈ gT := gT_2 55 rfl rfl
theorem wa_byte : Cond.arrayClass .byte ∈ gT := gT_2 199 rfl rfl
theorem mI_X9_init : gc_MI yX9_init cX9_init 1 0 := ⟨wc_X9_init, wn_X9, wi_X9_init, rfl, ⟨by decide, by decide, by decide +kernel⟩⟩
theorem mI_X0_init : gc_MI yX0_init cX0_init 1 0 := ⟨wc_X0_init, wn_X0, wi_X0_init, rfl, ⟨by decide, by decide, by decide +kernel⟩⟩
theorem mI_X8_init : gc_MI yX8_init cX8_init 4 2 := ⟨wc_X8_init, wn_X8, wi_X8_init, rfl, ⟨by decide, by decide, by decide +kernel⟩⟩
theorem mI_X4_init : gc_MI yX4_init cX4_init 2 0 := ⟨wc_X4_init, wn_X4, wi_X4_init, rfl, ⟨by decide, by decide, by decide +kernel⟩⟩
theorem mI_X2_init : gc_MI yX2_init cX2_init 1 0 := ⟨wc_X2_init, wn_X2, wi_X2_init, rfl, ⟨by decide, by decide, by decide +kernel⟩⟩
theorem mI_X1_init : gc_MI yX1_init cX1_init 1 0 := ⟨wc_X1_init, wn_X1, wi_X1_init, rfl, ⟨by decide, by decide, by decide +kernel⟩⟩
theorem mI_X6_init : gc_MI yX6_init cX6_init 1 0 := ⟨wc_X6_init, wn_X6, wi_X6_init, rfl, ⟨by decide, by decide, by decide +kernel⟩⟩
theorem mI_X3_init : gc_MI yX3_init cX3_init 1 0 := ⟨wc_X3_init, wn_X3, wi_X3_init, rfl, ⟨by decide, by decide, by decide +kernel⟩⟩
theorem mI_X7_init : gc_MI yX7_init cX7_init 1 0 := ⟨wc_X7_init, wn_X7, wi_X7_init, rfl, ⟨by decide, by decide, by decide +kernel⟩⟩
theorem mI_X5_init : gc_MI yX5_init cX5_init 1 0 := ⟨wc_X5_init, wn_X5, wi_X5_init, rfl, ⟨by decide, by decide, by decide +kernel⟩⟩
