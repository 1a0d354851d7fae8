/-! exceptions: what must stand for one to be made, contracts of methods that may throw -/
def gq_exn : Nat → String := fun k => match k with
  | 1 => "java/lang/IndexOutOfBoundsException"
  | 2 => "java/lang/IllegalArgumentException"
  | _ => "java/lang/IllegalStateException"
def gq_strs : List (Nat × String) := [(318, "there is no such one"), (325, "out of range"), (330, "not as things stand")]
def gq_xw : List Cond := [.castable (gq_exn 1) (gq_exn 1), .castable (gq_exn 2) (gq_exn 2), .castable (gq_exn 3) (gq_exn 3), .declares (Bundle.initS "java/lang/RuntimeException"), .declares (Bundle.initS "java/lang/Exception"), .declares (Bundle.initS "java/lang/Throwable")]
theorem gq_xw_castable {k : Nat} : Cond.castable (gq_exn k) (gq_exn k) ∈ gq_xw := by
  match k with
  | 0 => decide +kernel
  | 1 => decide +kernel
  | 2 => decide +kernel
  | 3 => decide +kernel
  | k + 4 => exact (by decide +kernel : Cond.castable (gq_exn 3) (gq_exn 3) ∈ gq_xw)
theorem gq_xw_ok : ∀ w ∈ gq_xw, w.onTables = true ∧ ∀ (s U : State), s.vm.Alike U.vm → va_Nw w s → va_Nw w U := by
  have h1 : ∀ (a b : String) (s U : State), s.vm.Alike U.vm → va_Nw (.castable a b) s → va_Nw (.castable a b) U := fun a b s U h hz => va_tabs (A := #[]) (A' := #[]) rfl (rfl : (s.setVm U.vm).vm = U.vm) (by rw [Cond.castable_setVm h]; exact hz)
  have h2 : ∀ (x : MethodName) (s U : State), s.vm.Alike U.vm → va_Nw (.declares x) s → va_Nw (.declares x) U := fun x s U h hz => va_tabs (A := #[]) (A' := #[]) rfl (rfl : (s.setVm U.vm).vm = U.vm) (by rw [Cond.declares_setVm h]; exact hz)
  exact List.forall_mem_cons.mpr ⟨⟨rfl, h1 _ _⟩, List.forall_mem_cons.mpr ⟨⟨rfl, h1 _ _⟩, List.forall_mem_cons.mpr ⟨⟨rfl, h1 _ _⟩, List.forall_mem_cons.mpr ⟨⟨rfl, h2 _⟩, List.forall_mem_cons.mpr ⟨⟨rfl, h2 _⟩, List.forall_mem_cons.mpr ⟨⟨rfl, h2 _⟩, fun _ h => absurd h List.not_mem_nil⟩⟩⟩⟩⟩⟩
def gq_Z (A : Nat → Prop) (U : State) : Prop := vx_Zq Bundle.tN "UNASSIGNED_STACK" Bundle.steD A U U.heap ∧ vx_Zq Bundle.tN "SUPPRESSED_SENTINEL" Bundle.listD A U U.heap ∧ (∀ w ∈ gq_xw, va_Nw w U) ∧ ∀ q ∈ gq_strs, ∃ sa, vk_R RX9 q.1 q.2 sa U
theorem gq_Z_to {A B : Nat → Prop} {s U : State} (hz : gq_Z A s) (hk : ∀ a, a < s.heap.size → ¬ A a → U.heap[a]? = s.heap[a]?) (hW : s.WarmedH U.vm) (hAB : ∀ q, B q → A q) : gq_Z B U :=
  ⟨vx_Zq.narrow (vx_Zq.moved hW.alike (vx_Zq.kept hz.1 hk)) hAB, vx_Zq.narrow (vx_Zq.moved hW.alike (vx_Zq.kept hz.2.1 hk)) hAB, fun w hw => (gq_xw_ok w hw).2 s U hW.alike (hz.2.2.1 w hw), fun q hq => by
    obtain ⟨sa, h⟩ := hz.2.2.2 q hq
    exact ⟨sa, vk_R.warm hW h⟩⟩
theorem gq_Z_call {A : Nat → Prop} {U : State} {g : JFrame} {mk : MethodId} {a : Array Value} (hz : gq_Z A U) : gq_Z A (U.calling g mk a) :=
  ⟨vx_Zq.moved (u := U) (U := U.calling g mk a) (Vm.Alike.refl U.vm) hz.1, vx_Zq.moved (u := U) (U := U.calling g mk a) (Vm.Alike.refl U.vm) hz.2.1, fun w hw => va_Nw.same (u := U) (U := U.calling g mk a) (gq_xw_ok w hw).1 rfl (hz.2.2.1 w hw), fun q hq => by
    obtain ⟨sa, h⟩ := hz.2.2.2 q hq
    exact ⟨sa, vk_R.same rfl h⟩⟩
def gq_xc : Nat → Nat := fun k => match k with
  | 0 => 0
  | _ + 1 => 1
def gq_xs : Nat → Nat := fun k => match k with
  | 0 => 0
  | _ + 1 => 6
def gq_rx (d ex : Nat) : Room := { frames := d, cells := gq_xc ex, slots := gq_xs ex, locals := 48 * d }
def gq_Px (D : va_G) (cI cZ : ClassId) (ad : Nat → Nat) (mt : List gq_T) (as : List Value) (M : gq_M) (sz : Nat) : Array Value → State → Prop := va_Pc as (fun U => U.heap.size = sz ∧ gq_B D cI cZ ad mt M U ∧ gq_Z (gq_A ad mt.length sz) U)
theorem gq_blindX {D : va_G} {cI cZ : ClassId} {ad : Nat → Nat} {mt : List gq_T} {as : List Value} {M : gq_M} {sz : Nat} : FrameBlind (gq_Px D cI cZ ad mt as M sz) := fun a U g mk q => ⟨q.1, q.2.1, ⟨q.2.2.1.1, va_K.moved (u := U) (U := U.calling g mk a) (Vm.Alike.refl U.vm) q.2.2.1.2⟩, gq_Z_call q.2.2.2⟩
def gq_Qix (D : va_G) (cI cZ : ClassId) (ad : Nat → Nat) (mt : List gq_T) (ex : Nat) (v : Int32) (M' : gq_M) (A : Nat → Prop) : Array Value → State → Outcome → State → Prop := va_Qi (fun r (_ : Unit) => ex = 0 ∧ r = v) (fun _ t => gq_B D cI cZ ad mt M' t) A
def gq_Qvx (D : va_G) (cI cZ : ClassId) (ad : Nat → Nat) (mt : List gq_T) (ex : Nat) (M' : gq_M) (A : Nat → Prop) : Array Value → State → Outcome → State → Prop := va_Qv (fun (_ : Unit) => ex = 0) (fun _ t => gq_B D cI cZ ad mt M' t) A
def gq_XC (D : va_G) (cI cZ : ClassId) (ad : Nat → Nat) (mt : List gq_T) (ex : Nat) (M' : gq_M) (A : Nat → Prop) : String → State → State → Prop := vx_X (fun (_ : Unit) => ex ≠ 0) (fun E _ t => E = gq_exn ex ∧ gq_B D cI cZ ad mt M' t) A
def gq_Xi (l : Launch) (D : va_G) (cI cZ : ClassId) (ad : Nat → Nat) (mt : List gq_T) (y : MethodName) (cc : ByteArray) (nL : Nat) (ret : Option FieldType) (d : Nat) (as : List Value) (M : gq_M) (ex : Nat) (v : Int32) (M' : gq_M) : Prop :=
  gq_inj ad mt.length → ∀ sz, vx_Met l y (.code y cc nL ret :: gT) (gq_rx d ex) (gq_Px D cI cZ ad mt as M sz) (gq_Qix D cI cZ ad mt ex v M' (gq_A ad mt.length sz)) (gq_XC D cI cZ ad mt ex M' (gq_A ad mt.length sz)) (gq_xc ex) (gq_xs ex) (gq_A ad mt.length sz)
def gq_Xv (l : Launch) (D : va_G) (cI cZ : ClassId) (ad : Nat → Nat) (mt : List gq_T) (y : MethodName) (cc : ByteArray) (nL : Nat) (d : Nat) (as : List Value) (M : gq_M) (ex : Nat) (M' : gq_M) : Prop :=
  gq_inj ad mt.length → ∀ sz, vx_Met l y (.code y cc nL none :: gT) (gq_rx d ex) (gq_Px D cI cZ ad mt as M sz) (gq_Qvx D cI cZ ad mt ex M' (gq_A ad mt.length sz)) (gq_XC D cI cZ ad mt ex M' (gq_A ad mt.length sz)) (gq_xc ex) (gq_xs ex) (gq_A ad mt.length sz)
/-- a call that may throw: the plain answer, or the throw -/
def gq_x2 (o : Option (Int32 × gq_M)) (x : Option (Nat × Int32 × gq_M)) (f : Int32 → gq_M → Option (Nat × Int32 × gq_M)) : Option (Nat × Int32 × gq_M) := match o with
  | some (v, M) => f v M
  | none => match x with
    | some (k + 1, _, M) => some (k + 1, 0, M)
    | _ => none
theorem gq_x2_i {o : Option (Int32 × gq_M)} {x : Option (Nat × Int32 × gq_M)} {f : Int32 → gq_M → Option (Nat × Int32 × gq_M)} {r : Nat × Int32 × gq_M} (h : gq_x2 o x f = some r) : (∃ v M, o = some (v, M) ∧ f v M = some r) ∨ ∃ k v M, x = some (k, v, M) ∧ k ≠ 0 ∧ some (k, (0 : Int32), M) = some r := by
  unfold gq_x2 at h
  cases o with
  | some q => exact Or.inl ⟨q.1, q.2, rfl, h⟩
  | none =>
    cases x with
    | none => cases h
    | some z =>
      obtain ⟨k, v, M⟩ := z
      cases k with
      | zero => cases h
      | succ k => exact Or.inr ⟨k + 1, v, M, rfl, Nat.succ_ne_zero k, h⟩
/-- what a throw needs of the pool: exception k by its three entries -/
def gq_TW (ik is ic k : Nat) : Prop := Cond.classLink RX9 ik (gq_exn k) ∈ gT ∧ Cond.initialized (gq_exn k) ∈ gT ∧ (∃ tx, (is, tx) ∈ gq_strs) ∧ (∀ w ∈ (vx_atS RX9 ic (gq_exn k) ["java/lang/RuntimeException", "java/lang/Exception"]).filter goodWord, w ∈ gT) ∧ (∀ w ∈ (vx_atS RX9 ic (gq_exn k) ["java/lang/RuntimeException", "java/lang/Exception"]).filter (fun w => !goodWord w), w ∈ gq_xw) ∧
  (∀ w ∈ Cond.classLink RX9 ik (gq_exn k) :: Cond.initialized (gq_exn k) :: vx_atS RX9 ic (gq_exn k) ["java/lang/RuntimeException", "java/lang/Exception"], vx_ot w = true) ∧ Bundle.fit (gq_exn k) = true
section THR
variable {p : Program} {l : Launch} {e : Env} {R : Room} {s : State} {m : MethodId} {args : Array Value} {below : List Frame} {meth : Method} {c : Code} {Q : State → Prop}
variable {D : va_G} {A : Nat → Prop} {cI cZ : ClassId} {ad : Nat → Nat} {mt : List gq_T} {own : String} {cc : ByteArray} {nL : Nat}
variable {pc : Nat} {L : List (Nat × Value)} {st : List Value} {M : gq_M} {kc ks : Nat}
theorem gq_introXi {y : MethodName} {ret : Option FieldType} {dm : Nat} {as : List Value} {ex : Nat} {v : Int32} {M' : gq_M} (hy : plainName y.cls = true) (hown : y.cls = own) (hle : (lg_sl as).length ≤ nL)
    (body : ∀ (p : Program) (e : Env) (s : State) (m : MethodId) (below : List Frame) (meth : Method) (c : Code), gq_C p s m as.toArray meth c D (gq_A ad mt.length s.heap.size) cI cZ ad mt own cc nL → meth.sig.returnType = ret → gq_Z (gq_A ad mt.length s.heap.size) s → (∀ x ∈ c.exceptionTable.toList, False) →
      gq_W p l e (gq_rx dm ex) s m as.toArray below meth c D (gq_A ad mt.length s.heap.size) cI cZ ad mt nL (vx_MQ below (gq_Qix D cI cZ ad mt ex v M' (gq_A ad mt.length s.heap.size)) (gq_XC D cI cZ ad mt ex M' (gq_A ad mt.length s.heap.size)) as.toArray s (gq_xc ex) (gq_xs ex) (gq_A ad mt.length s.heap.size)) 0 (lv_args 0 as) [] M 0 0) : gq_Xi l D cI cZ ad mt y cc nL ret dm as M ex v M' := by
  intro hinj sz
  refine vx_ofW (cc := cc) (maxL := nL) (ret := ret) hy rfl ?_
  intro p e s m args below meth c s₁ B hml htb hv
  obtain ⟨rfl, hsz, ⟨hP, hK⟩, hZ⟩ := hv
  subst hsz
  have h0 := body p e s m below meth c (gq_context hinj B hml hK hown) B.returns hZ htb s.heap [] _ hP va_S.rf (lv_entry as hle)
  rw [lg_entry_eq]
  exact h0
theorem gq_introXv {y : MethodName} {dm : Nat} {as : List Value} {ex : Nat} {M' : gq_M} (hy : plainName y.cls = true) (hown : y.cls = own) (hle : (lg_sl as).length ≤ nL)
    (body : ∀ (p : Program) (e : Env) (s : State) (m : MethodId) (below : List Frame) (meth : Method) (c : Code), gq_C p s m as.toArray meth c D (gq_A ad mt.length s.heap.size) cI cZ ad mt own cc nL → meth.sig.returnType = none → gq_Z (gq_A ad mt.length s.heap.size) s → (∀ x ∈ c.exceptionTable.toList, False) →
      gq_W p l e (gq_rx dm ex) s m as.toArray below meth c D (gq_A ad mt.length s.heap.size) cI cZ ad mt nL (vx_MQ below (gq_Qvx D cI cZ ad mt ex M' (gq_A ad mt.length s.heap.size)) (gq_XC D cI cZ ad mt ex M' (gq_A ad mt.length s.heap.size)) as.toArray s (gq_xc ex) (gq_xs ex) (gq_A ad mt.length s.heap.size)) 0 (lv_args 0 as) [] M 0 0) : gq_Xv l D cI cZ ad mt y cc nL dm as M ex M' := by
  intro hinj sz
  refine vx_ofW (cc := cc) (maxL := nL) (ret := none) hy rfl ?_
  intro p e s m args below meth c s₁ B hml htb hv
  obtain ⟨rfl, hsz, ⟨hP, hK⟩, hZ⟩ := hv
  subst hsz
  have h0 := body p e s m below meth c (gq_context hinj B hml hK hown) B.returns hZ htb s.heap [] _ hP va_S.rf (lv_entry as hle)
  rw [lg_entry_eq]
  exact h0
theorem g_iretsX (hC : gq_C p s m args meth c D A cI cZ ad mt own cc nL) {x v : Int32} {ex : Nat} {M2 : gq_M} {XC : String → State → State → Prop} (hr : meth.sig.returnType = some .int) (h : some (0, x, M) = some (ex, v, M2)) (d : decode cc pc = .ok (.ireturn, 1)) : gq_W p l e R s m args below meth c D A cI cZ ad mt nL (vx_MQ below (gq_Qix D cI cZ ad mt ex v M2 A) XC args s (gq_xc ex) (gq_xs ex) A) pc L [.int x] M 0 0 := by
  cases h
  exact g_widen (kc2 := gq_xc 0) (ks2 := gq_xs 0) (by decide) (by decide) (fun H locs ls hP hS hl => vx_ret (W.iret hC.1 hC.2.1 hr (fun t ht hW => ⟨⟨x, (), rfl, ⟨rfl, rfl⟩, by show va_P _ _ _ t.heap; rw [ht]; exact hP, va_K.moved hW.alike hC.2.2.2.2.2.1⟩, hS.F ht⟩) hS.2.2 d hC.2.2.2.2.2.2.1))
theorem g_zretsX (hC : gq_C p s m args meth c D A cI cZ ad mt own cc nL) {x v : Int32} {ex : Nat} {M2 : gq_M} {XC : String → State → State → Prop} (hr : meth.sig.returnType = some .boolean) (hv : gq_bit x) (h : some (0, x, M) = some (ex, v, M2)) (d : decode cc pc = .ok (.ireturn, 1)) : gq_W p l e R s m args below meth c D A cI cZ ad mt nL (vx_MQ below (gq_Qix D cI cZ ad mt ex v M2 A) XC args s (gq_xc ex) (gq_xs ex) A) pc L [.int x] M 0 0 := by
  cases h
  exact g_widen (kc2 := gq_xc 0) (ks2 := gq_xs 0) (by decide) (by decide) (fun H locs ls hP hS hl => vx_ret (W.zret hC.1 hC.2.1 hr (gq_bitN hv).1 (fun t ht hW => ⟨⟨x, (), rfl, ⟨rfl, rfl⟩, by show va_P _ _ _ t.heap; rw [ht]; exact hP, va_K.moved hW.alike hC.2.2.2.2.2.1⟩, hS.F ht⟩) hS.2.2 d hC.2.2.2.2.2.2.1))
theorem g_vretsX (hC : gq_C p s m args meth c D A cI cZ ad mt own cc nL) {v : Int32} {ex : Nat} {M2 : gq_M} {XC : String → State → State → Prop} (hr : meth.sig.returnType = none) (h : some (0, (0 : Int32), M) = some (ex, v, M2)) (d : decode cc pc = .ok (.return_, 1)) : gq_W p l e R s m args below meth c D A cI cZ ad mt nL (vx_MQ below (gq_Qvx D cI cZ ad mt ex M2 A) XC args s (gq_xc ex) (gq_xs ex) A) pc L [] M 0 0 := by
  cases h
  exact g_widen (kc2 := gq_xc 0) (ks2 := gq_xs 0) (by decide) (by decide) (fun H locs ls hP hS hl => vx_ret (W.vret hC.1 hC.2.1 hr (fun t ht hW => ⟨⟨(), rfl, rfl, by show va_P _ _ _ t.heap; rw [ht]; exact hP, va_K.moved hW.alike hC.2.2.2.2.2.1⟩, hS.F ht⟩) hS.2.2 d hC.2.2.2.2.2.2.1))
theorem g_throw (hl9 : l.stackTraces = false) (hC : gq_C p s m args meth c D A cI cZ ad mt RX9 cc nL) (hZ : gq_Z A s) (htb : ∀ x ∈ c.exceptionTable.toList, False) {ik is ic k ex : Nat} {v : Int32} {M2 : gq_M} {Qc : Array Value → State → Outcome → State → Prop} (hT : gq_TW ik is ic k) (hk : k ≠ 0) (hR : 5 < R.frames ∧ (st.map fun v => v.category).sum + 82 ≤ R.locals ∧ R.cells = gq_xc ex ∧ R.slots = gq_xs ex) (h : some (k, (0 : Int32), M) = some (ex, v, M2))
    (d0 : decode cc pc = .ok (.new ik, 3)) (d3 : decode cc (pc + 3) = .ok (.dup, 1)) (d4 : decode cc (pc + 4) = .ok (.ldc_w is, 3)) (d7 : decode cc (pc + 7) = .ok (.invokespecial ic, 3)) (d10 : decode cc (pc + 10) = .ok (.athrow, 1)) : gq_W p l e R s m args below meth c D A cI cZ ad mt nL (vx_MQ below Qc (gq_XC D cI cZ ad mt ex M2 A) args s (gq_xc ex) (gq_xs ex) A) pc L st M 0 0 := by
  cases h
  obtain ⟨n9, rfl⟩ : ∃ n, k = n + 1 := ⟨k - 1, by omega⟩
  intro H locs ls hP hS hl
  show W p l e R s m args below meth c H locs 0 0 (vx_MQ below Qc (gq_XC D cI cZ ad mt (n9 + 1) M A) args s 1 6 A) _
  obtain ⟨h1, h2, ⟨tx, h3⟩, h4, h5, h6, h7⟩ := hT
  obtain ⟨sa, h8⟩ := hZ.2.2.2 _ h3
  refine vx_throwSW hC.1 hC.2.1 hl9 (names := ["java/lang/RuntimeException", "java/lang/Exception"]) hC.2.2.2.1 h7 (by decide +kernel) (hC.2.2.2.2.1 _ h1) (hC.2.2.2.2.1 _ h2) h8 (vx_hat (fun w hw => hC.2.2.2.2.1 w (h4 w hw)) h5 (fun w hw => va_Nw.use (gq_xw_ok w hw).1 (hZ.2.2.1 w hw))) h6 hZ.1 hZ.2.1 hS (hl.1.trans hC.2.2.1.symm) d0 d3 d4 d7 d10 (fun x hx => (htb x hx).elim) hR.1 hR.2.1 (Nat.le_of_eq hR.2.2.1.symm) (Nat.le_of_eq hR.2.2.2.symm) hC.2.2.2.2.2.2.1 ?_ hS.2.2 (by decide) (by decide)
  intro t ha hz hq
  exact ⟨(), hk, ⟨rfl, hP.kept (fun i x hx => hq x.1 (hP i x hx).lt), va_K.moved ha hC.2.2.2.2.2.1⟩, ⟨Nat.le_trans hS.1 hz, fun q h1 h2 => (hq q (Nat.lt_of_lt_of_le h1 hS.1)).trans (hS.2.1 q h1 h2)⟩⟩
def gq_Tw (p : Program) (l : Launch) (e : Env) (R : Room) (s : State) (m : MethodId) (args : Array Value) (below : List Frame) (meth : Method) (c : Code) (D : va_G) (A : Nat → Prop) (cI cZ : ClassId) (ad : Nat → Nat) (mt : List gq_T) (nL : Nat) (Q : State → Prop) (pc : Nat) (L : List (Nat × Value)) (st : List Value) (ex : Nat) (M : gq_M) (kc ks : Nat) : Prop :=
  ∀ (H : Heap) (locs : List Loc) (ls : Array Slot) (q9 : Addr) (ce : Cell), va_P D vwCl (gq_ws cI cZ ad M 0 mt) H → va_S A s.heap H locs → lv_has ls nL L → H[q9]? = some ce → ce.vm = .none → s.vm.findClass (gq_exn ex) = some ce.cls → vx_W p l e R s m args below meth c H locs kc ks Q (F0 m pc ls st) q9
variable {y : MethodName} {bytes : ByteArray} {maxL : Nat} {ret : Option FieldType} {dm : Nat} {index q n ex : Nat} {as stk : List Value} {v : Int32} {M' : gq_M}
theorem gq_callX (hC : gq_C p s m args meth c D A cI cZ ad mt own cc nL) (hw1 : Cond.code y bytes maxL ret ∈ gT) (hw2 : Cond.initialized y.cls ∈ gT) (hl : Cond.methodLink own index y ∈ gT) (hd : y.cls ≠ "java/lang/invoke/MethodHandle" ∧ y.cls ≠ "java/lang/invoke/VarHandle" ∧ (parseMethodDescriptor y.desc).map (fun d => d.parameters.length) = some n) (hR : dm + 1 ≤ R.frames ∧ 8 + (maxL + 11) + 48 * dm ≤ R.locals) :
    CallB R s args own index y bytes maxL ret (.code y bytes maxL ret :: gT) (gq_rx dm ex) (gq_xc ex) (gq_xs ex) n :=
  callB_of n hC.2.2.2.2.1 (gq_goodC hw1) rfl rfl rfl (hC.2.2.2.2.1 _ hw2) (hC.2.2.2.2.1 _ hl) hd hR
theorem gq_preX (hC : gq_C p s m args meth c D A cI cZ ad mt own cc nL) (hZ : gq_Z A s) {H : Heap} {locs : List Loc} (hP : va_P D vwCl (gq_ws cI cZ ad M 0 mt) H) (hS : va_S A s.heap H locs) (as : List Value) : ∀ U : State, U.heap = H → s.WarmedH U.vm → gq_Px D cI cZ ad mt as M H.size as.toArray U :=
  fun U hU hW => ⟨rfl, by rw [hU], ⟨by rw [hU]; exact hP, va_K.moved hW.alike hC.2.2.2.2.2.1⟩, gq_Z_to hZ (by rw [hU]; exact hS.2.1) hW (gq_Ale hC hS.1)⟩
/-- a static method that throws for sure, called where nothing catches -/
theorem g_SXv (hC : gq_C p s m args meth c D A cI cZ ad mt own cc nL) (hZ : gq_Z A s) (hc : gq_Xv l D cI cZ ad mt y bytes maxL dm as M ex M') (hex : ex ≠ 0) (hm : gq_MS y bytes maxL none n) (hl2 : Cond.methodLink own index y ∈ gT) (hn : as.length = n) (hst : stk = as.reverse ++ st) (hW : (st.map fun v => v.category).sum ≤ 8) (hR : dm + 1 ≤ R.frames ∧ 8 + (maxL + 11) + 48 * dm ≤ R.locals) (hk : kc + 1 ≤ R.cells ∧ ks + 6 ≤ R.slots) (d : decode cc pc = .ok (.invokestatic index, 3))
    (kx : gq_Tw p l e R s m args below meth c D A cI cZ ad mt nL Q pc L st ex M' (kc + 1) (ks + 6)) : gq_W p l e R s m args below meth c D A cI cZ ad mt nL Q pc L stk M kc ks := by
  intro H locs ls hP hS hl
  subst hst
  obtain ⟨n9, rfl⟩ : ∃ n, ex = n + 1 := ⟨ex - 1, by omega⟩
  exact vx_callv (vx_runS (As := as) (rest := st) ⟨hC.1, hC.2.1, hC.2.2.1, hC.2.2.2.1, hC.2.2.2.2.1⟩ (hc hC.2.2.2.2.2.2.2.2.1 H.size) ⟨gq_callX hC hm.1 hm.2.1 hl2 hm.2.2.2 hR, hC.2.2.2.2.1 _ hm.2.2.1⟩ ⟨gq_blindX, gq_preX hC hZ hP hS as⟩ rfl hn hl.1 rfl (lv_room (pc := pc) (ls := ls) (rest := st) (m := m) hW) d hk) hS (fun q _ h => gq_Ale hC hS.1 q h) (gq_Ale hC hS.1) (fun q _ h => gq_Ale hC hS.1 q h)
    (fun E ce q9 u t H1 locs1 ht hvm hp hB hz hk2 hS1 hce hcv hcl => kx H1 locs1 ls q9 ce (by rw [← ht]; exact hB.2.1) hS1 hl hce hcv (by rw [← hB.1]; exact hcl))
    (fun u t H1 locs1 ht hvm hw hB hz hk2 hS1 => absurd hw hex)
/-- a throw that isn't caught here -/
theorem g_outX (hC : gq_C p s m args meth c D A cI cZ ad mt own cc nL) (htb : ∀ x ∈ c.exceptionTable.toList, False) {k : Nat} {M2 : gq_M} {Qc : Array Value → State → Outcome → State → Prop} (hkc : kc ≤ gq_xc k) (hks : ks ≤ gq_xs k) (hk : k ≠ 0) (h : some (k, (0 : Int32), M) = some (ex, v, M2)) : gq_Tw p l e R s m args below meth c D A cI cZ ad mt nL (vx_MQ below Qc (gq_XC D cI cZ ad mt ex M2 A) args s (gq_xc ex) (gq_xs ex) A) pc L st k M kc ks := by
  cases h
  exact fun H locs ls q9 ce hP hS hl hce hcv hcl => vx_out (fun x hx => (htb x hx).elim) hC.2.2.2.2.2.2.1 hce hcv hcl (fun t ht ha => ⟨(), hk, ⟨rfl, by show va_P _ _ _ t.heap; rw [ht]; exact hP, va_K.moved ha hC.2.2.2.2.2.1⟩, hS.F ht⟩) hS.2.2 hkc hks
theorem g_SXo (hC : gq_C p s m args meth c D A cI cZ ad mt own cc nL) (hZ : gq_Z A s) (htb : ∀ x ∈ c.exceptionTable.toList, False) {k : Nat} {v9 : Int32} {M9 : gq_M} {Qc : Array Value → State → Outcome → State → Prop} (hc : gq_Xv l D cI cZ ad mt y bytes maxL dm as M k M') (hk : k ≠ 0) (h : some (k, (0 : Int32), M') = some (ex, v9, M9)) (hRc : R.cells = gq_xc ex ∧ R.slots = gq_xs ex) (hm : gq_MS y bytes maxL none n) (hl2 : Cond.methodLink own index y ∈ gT) (hn : as.length = n) (hst : stk = as.reverse ++ st) (hW : (st.map fun v => v.category).sum ≤ 8) (hR : dm + 1 ≤ R.frames ∧ 8 + (maxL + 11) + 48 * dm ≤ R.locals) (d : decode cc pc = .ok (.invokestatic index, 3)) : gq_W p l e R s m args below meth c D A cI cZ ad mt nL (vx_MQ below Qc (gq_XC D cI cZ ad mt ex M9 A) args s (gq_xc ex) (gq_xs ex) A) pc L stk M 0 0 := by
  obtain ⟨n9, rfl⟩ : ∃ n, k = n + 1 := ⟨k - 1, by omega⟩
  have hkk := Option.some.inj h
  have h1 : n9 + 1 = ex := congrArg (fun z => z.1) hkk
  subst h1
  exact g_SXv hC hZ hc hk hm hl2 hn hst hW hR ⟨Nat.le_of_eq hRc.1.symm, Nat.le_of_eq hRc.2.symm⟩ d (g_outX hC htb (Nat.le_refl 1) (Nat.le_refl 6) hk h)
end THR
theorem tw_316 : gq_TW 316 318 320 1 := ⟨gT_2 132 rfl rfl, gT_1 14 rfl rfl, ⟨"there is no such one", by decide +kernel⟩, fun w hw => gT_of ((by decide +kernel : ∀ w ∈ (vx_atS RX9 320 (gq_exn 1) ["java/lang/RuntimeException", "java/lang/Exception"]).filter goodWord, w ∈ lw_tbl) w hw) (List.mem_filter.mp hw).2, by decide +kernel, by decide +kernel, by decide +kernel⟩
theorem tw_323 : gq_TW 323 325 327 2 := ⟨gT_2 204 rfl rfl, gT_1 15 rfl rfl, ⟨"out of range", by decide +kernel⟩, fun w hw => gT_of ((by decide +kernel : ∀ w ∈ (vx_atS RX9 327 (gq_exn 2) ["java/lang/RuntimeException", "java/lang/Exception"]).filter goodWord, w ∈ lw_tbl) w hw) (List.mem_filter.mp hw).2, by decide +kernel, by decide +kernel, by decide +kernel⟩
theorem tw_328 : gq_TW 328 330 332 3 := ⟨gT_3 28 rfl rfl, gT_1 16 rfl rfl, ⟨"not as things stand", by decide +kernel⟩, fun w hw => gT_of ((by decide +kernel : ∀ w ∈ (vx_atS RX9 332 (gq_exn 3) ["java/lang/RuntimeException", "java/lang/Exception"]).filter goodWord, w ∈ lw_tbl) w hw) (List.mem_filter.mp hw).2, by decide +kernel, by decide +kernel, by decide +kernel⟩
