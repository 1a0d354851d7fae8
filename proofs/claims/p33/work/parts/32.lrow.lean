/-! rows of the law's own methods: the class's cells, then the law's arrays -/
def mrg (n : Nat) (C M : gq_M) : gq_M := fun a => if a < n then C a else M a
theorem mrg_lt {n : Nat} {C M : gq_M} {a : Nat} (h : a < n) : mrg n C M a = C a := if_pos h
theorem mrg_ge {n : Nat} {C M : gq_M} {a : Nat} (h : ¬ a < n) : mrg n C M a = M a := if_neg h
/-- a call of the class that must not throw -/
def gq_y0 {β : Type} (o : Option (Nat × Int32 × gq_M)) (f : Int32 → gq_M → Option β) : Option β := match o with
  | some (0, v, M) => f v M
  | _ => none
theorem gq_y0_i {β : Type} {o : Option (Nat × Int32 × gq_M)} {f : Int32 → gq_M → Option β} {r : β} (h : gq_y0 o f = some r) : ∃ (v : Int32) (M : gq_M), o = some (0, v, M) ∧ f v M = some r := by
  cases o with
  | none => cases h
  | some q =>
    obtain ⟨k, v, M⟩ := q
    cases k with
    | zero => exact ⟨v, M, rfl, h⟩
    | succ k => cases h
/-- a call of the class whose three exceptions are caught -/
def gq_c (M0 : gq_M) (g : gq_M → gq_M) (o : Option (Nat × Int32 × gq_M)) (f : Int32 → gq_M → Option (Int32 × gq_M)) : Option (Int32 × gq_M) := match o with
  | some (0, v, M) => f v M
  | some (1, _, M) => some (-300000000, g M)
  | some (2, _, M) => some (-200000000, g M)
  | some (3, _, M) => some (-100000000, g M)
  | _ => none
theorem gq_c_i {M0 : gq_M} {g : gq_M → gq_M} {o : Option (Nat × Int32 × gq_M)} {f : Int32 → gq_M → Option (Int32 × gq_M)} {r : Int32 × gq_M} (h : gq_c M0 g o f = some r) : (∃ v M, o = some (0, v, M) ∧ f v M = some r) ∨ (∃ v M, o = some (1, v, M) ∧ some (-300000000, g M) = some r) ∨ (∃ v M, o = some (2, v, M) ∧ some (-200000000, g M) = some r) ∨ (∃ v M, o = some (3, v, M) ∧ some (-100000000, g M) = some r) := by
  cases o with
  | none => cases h
  | some q =>
    obtain ⟨k, v, M⟩ := q
    match k, h with
    | 0, h => exact Or.inl ⟨v, M, rfl, h⟩
    | 1, h => exact Or.inr (Or.inl ⟨v, M, rfl, h⟩)
    | 2, h => exact Or.inr (Or.inr (Or.inl ⟨v, M, rfl, h⟩))
    | 3, h => exact Or.inr (Or.inr (Or.inr ⟨v, M, rfl, h⟩))
    | k + 4, h => cases h
/-- a call of the class whose exceptions go on -/
def gq_x3 (g : gq_M → gq_M) (o : Option (Nat × Int32 × gq_M)) (f : Int32 → gq_M → Option (Nat × Int32 × gq_M)) : Option (Nat × Int32 × gq_M) := match o with
  | some (0, v, M) => f v M
  | some (k + 1, _, M) => some (k + 1, 0, g M)
  | none => none
theorem gq_x3_i {g : gq_M → gq_M} {o : Option (Nat × Int32 × gq_M)} {f : Int32 → gq_M → Option (Nat × Int32 × gq_M)} {r : Nat × Int32 × gq_M} (h : gq_x3 g o f = some r) : (∃ v M, o = some (0, v, M) ∧ f v M = some r) ∨ ∃ k v M, o = some (k + 1, v, M) ∧ some (k + 1, (0 : Int32), g M) = some r := by
  cases o with
  | none => cases h
  | some q =>
    obtain ⟨k, v, M⟩ := q
    cases k with
    | zero => exact Or.inl ⟨v, M, rfl, h⟩
    | succ k => exact Or.inr ⟨k, v, M, rfl, h⟩
/-- the three exceptions are none of each other's -/
def gl_N (U : State) : Prop := ∀ a b : Nat, 1 ≤ a → a ≤ 3 → 1 ≤ b → b ≤ 3 → a ≠ b → va_Nc (gq_exn a) (gq_exn b) U
theorem gl_N.moved {u U : State} (hvm : u.vm.Alike U.vm) (h : gl_N u) : gl_N U := fun a b h1 h2 h3 h4 h5 => va_Nc.moved hvm (h a b h1 h2 h3 h4 h5)
def gq_Zn (A : Nat → Prop) (U : State) : Prop := gq_Z A U ∧ gl_N U
def gq_rl (d mc ms : Nat) : Room := { frames := d, cells := mc, slots := ms, locals := 48 * d }
def gq_Pn (D : va_G) (cI cZ : ClassId) (ad : Nat → Nat) (mt : List gq_T) (as : List Value) (M : gq_M) (sz : Nat) : Array Value → State → Prop := va_Pc as (fun U => U.heap.size = sz ∧ gq_B D cI cZ ad mt M U ∧ gq_Zn (gq_A ad mt.length sz) U)
theorem gq_blindN {D : va_G} {cI cZ : ClassId} {ad : Nat → Nat} {mt : List gq_T} {as : List Value} {M : gq_M} {sz : Nat} : FrameBlind (gq_Pn D cI cZ ad mt as M sz) := fun a U g mk q => ⟨q.1, q.2.1, ⟨q.2.2.1.1, va_K.moved (u := U) (U := U.calling g mk a) (Vm.Alike.refl U.vm) q.2.2.1.2⟩, gq_Z_call q.2.2.2.1, gl_N.moved (u := U) (U := U.calling g mk a) (Vm.Alike.refl U.vm) q.2.2.2.2⟩
def gq_NX (A : Nat → Prop) : String → State → State → Prop := vx_X (fun (_ : Unit) => False) (fun _ _ _ => True) A
def gq_NQ (below : List Frame) (D : va_G) (cI cZ : ClassId) (ad : Nat → Nat) (mt : List gq_T) (v : Int32) (M' : gq_M) (args : Array Value) (s : State) (mc ms : Nat) (A : Nat → Prop) : State → Prop := vx_MQ below (gq_Qi D cI cZ ad mt v M' A) (gq_NX A) args s mc ms A
/-- a method that answers v and leaves M', and may make mc cells -/
def gq_Ni (l : Launch) (D : va_G) (cI cZ : ClassId) (ad : Nat → Nat) (mt : List gq_T) (y : MethodName) (w : Cond) (d mc ms : Nat) (as : List Value) (M : gq_M) (v : Int32) (M' : gq_M) : Prop :=
  gq_inj ad mt.length → ∀ sz, vx_Met l y (w :: gT) (gq_rl d mc ms) (gq_Pn D cI cZ ad mt as M sz) (gq_Qi D cI cZ ad mt v M' (gq_A ad mt.length sz)) (gq_NX (gq_A ad mt.length sz)) mc ms (gq_A ad mt.length sz)
section LROW
variable {p : Program} {l : Launch} {e : Env} {R : Room} {s : State} {m : MethodId} {args : Array Value} {below : List Frame} {meth : Method} {c : Code} {Q : State → Prop}
variable {D : va_G} {A : Nat → Prop} {cI cZ : ClassId} {ad : Nat → Nat} {mt mt1 mt2 : List gq_T} {own : String} {cc : ByteArray} {nL : Nat}
variable {pc : Nat} {L : List (Nat × Value)} {st : List Value} {M : gq_M} {kc ks : Nat}
theorem gq_P1 {H : Heap} (hP : va_P D vwCl (gq_ws cI cZ ad M 0 (mt1 ++ mt2)) H) : va_P D vwCl (gq_ws cI cZ ad M 0 mt1) H := by
  intro k x hx
  rw [gq_ws_at] at hx
  cases hm : mt1[k]? with
  | none => rw [hm] at hx; cases hx
  | some t =>
    rw [hm] at hx
    have h2 : (mt1 ++ mt2)[k]? = some t := by rw [List.getElem?_append_left (List.getElem?_eq_some_iff.mp hm).1]; exact hm
    refine hP k x ?_
    rw [gq_ws_at, h2]; exact hx
theorem gq_inj1 (h : gq_inj ad (mt1 ++ mt2).length) : gq_inj ad mt1.length := fun i j hi hj => h i j (by rw [List.length_append]; omega) (by rw [List.length_append]; omega)
theorem gq_A1 {sz q : Nat} (h : gq_A ad mt1.length sz q) : gq_A ad (mt1 ++ mt2).length sz q := by
  rcases h with ⟨k, hk, rfl⟩ | h
  · exact Or.inl ⟨k, by rw [List.length_append]; omega, rfl⟩
  · exact Or.inr h
theorem gq_mrgP {M' : gq_M} {H H1 : Heap} (hinj : gq_inj ad (mt1 ++ mt2).length) (hP : va_P D vwCl (gq_ws cI cZ ad M 0 (mt1 ++ mt2)) H) (hk : ∀ q : Nat, q < H.size → ¬ gq_A ad mt1.length H.size q → H1[q]? = H[q]?) (hP1 : va_P D vwCl (gq_ws cI cZ ad M' 0 mt1) H1) : va_P D vwCl (gq_ws cI cZ ad (mrg mt1.length M' M) 0 (mt1 ++ mt2)) H1 := by
  intro k x hx
  by_cases hkl : k < mt1.length
  · refine hP1 k x ?_
    rw [gq_ws_at] at hx ⊢
    rw [List.getElem?_append_left hkl] at hx
    rw [← hx, Nat.zero_add, mrg_lt hkl]
  · have hx2 : (gq_ws cI cZ ad M 0 (mt1 ++ mt2))[k]? = some x := by
      rw [gq_ws_at] at hx ⊢
      rw [← hx, Nat.zero_add, mrg_ge hkl]
    have h1 := hP k x hx2
    have hkm : k < (mt1 ++ mt2).length := by
      rw [gq_ws_at] at hx
      cases hm : (mt1 ++ mt2)[k]? with
      | none => rw [hm] at hx; cases hx
      | some t => exact (List.getElem?_eq_some_iff.mp hm).1
    have hxa : x.1 = ad k := by
      rw [gq_ws_at, List.getElem?_eq_getElem hkm] at hx2
      cases hx2
      rw [Nat.zero_add]
    refine h1.kept (hk x.1 h1.lt fun hA => ?_)
    rcases hA with ⟨j, hj, h2⟩ | h2
    · have := hinj k j hkm (by rw [List.length_append]; omega) (hxa.symm.trans h2)
      omega
    · exact absurd h1.lt (Nat.not_lt.mpr h2)
theorem gq_introN {y : MethodName} {ret : Option FieldType} {dm mc ms : Nat} {as : List Value} {v : Int32} {M' : gq_M} (hy : plainName y.cls = true) (hown : y.cls = own) (hle : (lg_sl as).length ≤ nL)
    (body : ∀ (p : Program) (e : Env) (s : State) (m : MethodId) (below : List Frame) (meth : Method) (c : Code), gq_C p s m as.toArray meth c D (gq_A ad mt.length s.heap.size) cI cZ ad mt own cc nL → meth.sig.returnType = ret → gq_Zn (gq_A ad mt.length s.heap.size) s →
      gq_W p l e (gq_rl dm mc ms) s m as.toArray below meth c D (gq_A ad mt.length s.heap.size) cI cZ ad mt nL (gq_NQ below D cI cZ ad mt v M' as.toArray s mc ms (gq_A ad mt.length s.heap.size)) 0 (lv_args 0 as) [] M 0 0) : gq_Ni l D cI cZ ad mt y (.code y cc nL ret) dm mc ms as M v M' := by
  intro hinj sz
  refine vx_ofW (cc := cc) (maxL := nL) (ret := ret) hy rfl ?_
  intro p e s m args below meth c s₁ B hml htb hv
  obtain ⟨rfl, hsz, ⟨hP, hK⟩, hZ⟩ := hv
  subst hsz
  have h0 := body p e s m below meth c (gq_context hinj B hml hK hown) B.returns hZ s.heap [] _ hP va_S.rf (lv_entry as hle)
  rw [lg_entry_eq]
  exact h0
theorem gq_introNH {y : MethodName} {dm mc ms : Nat} {as : List Value} {v : Int32} {M' : gq_M} {hh : List (Nat × Nat × Nat × Nat)} (hy : plainName y.cls = true) (hown : y.cls = own) (hle : (lg_sl as).length ≤ nL)
    (body : ∀ (p : Program) (e : Env) (s : State) (m : MethodId) (below : List Frame) (meth : Method) (c : Code), gq_C p s m as.toArray meth c D (gq_A ad mt.length s.heap.size) cI cZ ad mt own cc nL → meth.sig.returnType = some .int → gq_Zn (gq_A ad mt.length s.heap.size) s → c.exceptionTable.toList = tableOf hh →
      gq_W p l e (gq_rl dm mc ms) s m as.toArray below meth c D (gq_A ad mt.length s.heap.size) cI cZ ad mt nL (gq_NQ below D cI cZ ad mt v M' as.toArray s mc ms (gq_A ad mt.length s.heap.size)) 0 (lv_args 0 as) [] M 0 0) : gq_Ni l D cI cZ ad mt y (.codeWith y cc nL (some .int) hh) dm mc ms as M v M' := by
  subst hown
  intro hinj sz
  refine vx_ofWH (cc := cc) (maxL := nL) (ret := some .int) (hh := hh) hy rfl ?_
  intro p e s m args below meth c s₁ B hml hv
  obtain ⟨rfl, hsz, ⟨hP, hK⟩, hZ⟩ := hv
  subst hsz
  have hts := atoms_spec (ws := .codeWith y cc nL (some .int) hh :: gT) B.pre
  have h0 := body p e s m below meth c ⟨B.exec, B.bytes, hml, findClass_of_methodNamed B.named, fun w h => hts w (List.mem_cons_of_mem _ h), hK, B.notSynchronized, fun q h => Or.inr h, hinj, fun k h => Or.inl ⟨k, h, rfl⟩⟩ B.returns hZ (vx_table (x := y) B (hts _ List.mem_cons_self)) s.heap [] _ hP va_S.rf (lv_entry as hle)
  rw [lg_entry_eq]
  exact h0
theorem g_iretsN (hC : gq_C p s m args meth c D A cI cZ ad mt own cc nL) {x v : Int32} {mc ms : Nat} {M2 : gq_M} (hkc : kc ≤ mc) (hks : ks ≤ ms) (hr : meth.sig.returnType = some .int) (h : some (x, M) = some (v, M2)) (d : decode cc pc = .ok (.ireturn, 1)) : gq_W p l e R s m args below meth c D A cI cZ ad mt nL (gq_NQ below D cI cZ ad mt v M2 args s mc ms A) pc L [.int x] M kc ks := by
  cases h
  exact g_widen hkc hks (fun H locs ls hP hS hl => vx_ret (W.iret hC.1 hC.2.1 hr (fun t ht hW => ⟨⟨x, (), rfl, rfl, by show va_P _ _ _ t.heap; rw [ht]; exact hP, va_K.moved hW.alike hC.2.2.2.2.2.1⟩, hS.F ht⟩) hS.2.2 d hC.2.2.2.2.2.2.1))
theorem g_zretsN (hC : gq_C p s m args meth c D A cI cZ ad mt own cc nL) {x v : Int32} {mc ms : Nat} {M2 : gq_M} (hkc : kc ≤ mc) (hks : ks ≤ ms) (hr : meth.sig.returnType = some .boolean) (hv : gq_bit x) (h : some (x, M) = some (v, M2)) (d : decode cc pc = .ok (.ireturn, 1)) : gq_W p l e R s m args below meth c D A cI cZ ad mt nL (gq_NQ below D cI cZ ad mt v M2 args s mc ms A) pc L [.int x] M kc ks := by
  cases h
  exact g_widen hkc hks (fun H locs ls hP hS hl => vx_ret (W.zret hC.1 hC.2.1 hr (gq_bitN hv).1 (fun t ht hW => ⟨⟨x, (), rfl, rfl, by show va_P _ _ _ t.heap; rw [ht]; exact hP, va_K.moved hW.alike hC.2.2.2.2.2.1⟩, hS.F ht⟩) hS.2.2 d hC.2.2.2.2.2.2.1))
theorem g_catch {ex : Nat} {hh : List (Nat × Nat × Nat × Nat)} (hC : gq_C p s m args meth c D A cI cZ ad mt own cc nL) (hZ : gq_Z A s) (htab : c.exceptionTable.toList = tableOf hh) (pre : List ExceptionTableEntry) (x : ExceptionTableEntry) (suf : List ExceptionTableEntry) (hs : tableOf hh = pre ++ x :: suf)
    (hpass : ∀ z ∈ pre, z.catchType ≠ 0 ∧ ∃ k : Nat, Cond.classLink own z.catchType (gq_exn k) ∈ gT ∧ va_Nc (gq_exn ex) (gq_exn k) s) (hx : covers x pc = true) (h0 : x.catchType ≠ 0) (hl2 : Cond.classLink own x.catchType (gq_exn ex) ∈ gT) (kk : ∀ q9 : Nat, gq_W p l e R s m args below meth c D A cI cZ ad mt nL Q x.handlerPc L [.ref q9] M kc ks) : gq_Tw p l e R s m args below meth c D A cI cZ ad mt nL Q pc L st ex M kc ks := fun H locs ls q9 ce hP hS hl hce hcv hcl =>
  vx_catch hC.2.2.2.1 pre x suf (htab.trans hs) (fun z hz => Or.inr ⟨(hpass z hz).1, by obtain ⟨k, h1, h2⟩ := (hpass z hz).2; exact ⟨_, hC.2.2.2.2.1 _ h1, h2⟩⟩) hx h0 (hC.2.2.2.2.1 _ hl2) (va_Nw.use rfl (hZ.2.2.1 _ gq_xw_castable)) hce hcv hcl (kk q9 H locs ls hP hS hl)
variable {y : MethodName} {bytes : ByteArray} {maxL : Nat} {ret : Option FieldType} {dm : Nat} {index q n ex : Nat} {as stk : List Value} {v : Int32} {M' : gq_M}
theorem g_LVi (hC : gq_C p s m args meth c D A cI cZ ad (mt1 ++ mt2) own cc nL) (hc : gq_Ci l D cI cZ ad mt1 y bytes maxL ret dm (.ref (ad q) :: as) M v M') (hm : gq_MV y bytes maxL ret n) (hl2 : Cond.methodLink own index y ∈ gT) (hq : gq_ob mt1 q y.cls) (hn : as.length = n) (hst : stk = as.reverse ++ .ref (ad q) :: st) (hW : (st.map fun v => v.category).sum ≤ 8) (hR : dm + 1 ≤ R.frames ∧ 8 + (maxL + 11) + 48 * dm ≤ R.locals) (hk : kc ≤ R.cells ∧ ks ≤ R.slots) (d : decode cc pc = .ok (.invokevirtual index, 3)) {n9 : Nat} (h9 : mt1.length = n9) (kk : gq_W p l e R s m args below meth c D A cI cZ ad (mt1 ++ mt2) nL Q (pc + 3) L (.int v :: st) (mrg n9 M' M) kc ks) : gq_W p l e R s m args below meth c D A cI cZ ad (mt1 ++ mt2) nL Q pc L stk M kc ks := by
  subst h9
  intro H locs ls hP hS hl
  subst hst
  have hPc := gq_P1 hP
  have hF : ∀ q, gq_A ad mt1.length H.size q → A q := fun q h => gq_Ale hC hS.1 q (gq_A1 h)
  obtain ⟨ci, fd, r, g1, g2, g3⟩ := hq
  have hrec := va_recv hC.2.2.2.2.2.1 hPc g2 (gq_ws_get g1)
  rw [g3] at hrec
  refine va_calli (va_runV (As := as) (rest := st) ⟨hC.1, hC.2.1, hC.2.2.1, hC.2.2.2.1, hC.2.2.2.2.1⟩ (hc (gq_inj1 hC.2.2.2.2.2.2.2.2.1) H.size) ⟨gq_call hC hm.1 hm.2.1 hl2 hm.2.2.2.2 hR, hC.2.2.2.2.1 _ hm.2.2.1, hC.2.2.2.2.1 _ hm.2.2.2.1⟩ ⟨gq_blind, hrec, fun U hU hW => ⟨rfl, by rw [hU], by rw [hU]; exact hPc, va_K.moved hW.alike hC.2.2.2.2.2.1⟩⟩ rfl hn hl.1 rfl (lv_room (pc := pc) (ls := ls) (rest := st) (m := m) hW) d ⟨by omega, by omega⟩) hS (fun q _ h => hF q h) hF (fun r u t H1 locs1 ht hvm hw hB hz hk2 hS1 => ?_)
  have hP2 := gq_mrgP hC.2.2.2.2.2.2.2.2.1 hP hk2 (by rw [← ht]; exact hB.1)
  subst hw; exact kk H1 locs1 ls hP2 hS1 hl
theorem g_LVv (hC : gq_C p s m args meth c D A cI cZ ad (mt1 ++ mt2) own cc nL) (hc : gq_Cv l D cI cZ ad mt1 y bytes maxL dm (.ref (ad q) :: as) M M') (hm : gq_MV y bytes maxL none n) (hl2 : Cond.methodLink own index y ∈ gT) (hq : gq_ob mt1 q y.cls) (hn : as.length = n) (hst : stk = as.reverse ++ .ref (ad q) :: st) (hW : (st.map fun v => v.category).sum ≤ 8) (hR : dm + 1 ≤ R.frames ∧ 8 + (maxL + 11) + 48 * dm ≤ R.locals) (hk : kc ≤ R.cells ∧ ks ≤ R.slots) (d : decode cc pc = .ok (.invokevirtual index, 3)) {n9 : Nat} (h9 : mt1.length = n9) (kk : gq_W p l e R s m args below meth c D A cI cZ ad (mt1 ++ mt2) nL Q (pc + 3) L st (mrg n9 M' M) kc ks) : gq_W p l e R s m args below meth c D A cI cZ ad (mt1 ++ mt2) nL Q pc L stk M kc ks := by
  subst h9
  intro H locs ls hP hS hl
  subst hst
  have hPc := gq_P1 hP
  have hF : ∀ q, gq_A ad mt1.length H.size q → A q := fun q h => gq_Ale hC hS.1 q (gq_A1 h)
  obtain ⟨ci, fd, r, g1, g2, g3⟩ := hq
  have hrec := va_recv hC.2.2.2.2.2.1 hPc g2 (gq_ws_get g1)
  rw [g3] at hrec
  refine va_callv (va_runV (As := as) (rest := st) ⟨hC.1, hC.2.1, hC.2.2.1, hC.2.2.2.1, hC.2.2.2.2.1⟩ (hc (gq_inj1 hC.2.2.2.2.2.2.2.2.1) H.size) ⟨gq_call hC hm.1 hm.2.1 hl2 hm.2.2.2.2 hR, hC.2.2.2.2.1 _ hm.2.2.1, hC.2.2.2.2.1 _ hm.2.2.2.1⟩ ⟨gq_blind, hrec, fun U hU hW => ⟨rfl, by rw [hU], by rw [hU]; exact hPc, va_K.moved hW.alike hC.2.2.2.2.2.1⟩⟩ rfl hn hl.1 rfl (lv_room (pc := pc) (ls := ls) (rest := st) (m := m) hW) d ⟨by omega, by omega⟩) hS (fun q _ h => hF q h) hF (fun u t H1 locs1 ht hvm hw hB hz hk2 hS1 => ?_)
  have hP2 := gq_mrgP hC.2.2.2.2.2.2.2.2.1 hP hk2 (by rw [← ht]; exact hB.1)
  exact kk H1 locs1 ls hP2 hS1 hl
theorem g_LXi (hC : gq_C p s m args meth c D A cI cZ ad (mt1 ++ mt2) own cc nL) (hZ : gq_Z A s) (hc : gq_Xi l D cI cZ ad mt1 y bytes maxL ret dm (.ref (ad q) :: as) M ex v M') (hm : gq_MV y bytes maxL ret n) (hl2 : Cond.methodLink own index y ∈ gT) (hq : gq_ob mt1 q y.cls) (hn : as.length = n) (hst : stk = as.reverse ++ .ref (ad q) :: st) (hW : (st.map fun v => v.category).sum ≤ 8) (hR : dm + 1 ≤ R.frames ∧ 8 + (maxL + 11) + 48 * dm ≤ R.locals) (hk : kc + gq_xc ex ≤ R.cells ∧ ks + gq_xs ex ≤ R.slots) (d : decode cc pc = .ok (.invokevirtual index, 3))
    {n9 : Nat} (h9 : mt1.length = n9) (kk : ex = 0 → gq_W p l e R s m args below meth c D A cI cZ ad (mt1 ++ mt2) nL Q (pc + 3) L (.int v :: st) (mrg n9 M' M) (kc + gq_xc ex) (ks + gq_xs ex)) (kx : ex ≠ 0 → gq_Tw p l e R s m args below meth c D A cI cZ ad (mt1 ++ mt2) nL Q pc L st ex (mrg n9 M' M) (kc + gq_xc ex) (ks + gq_xs ex)) : gq_W p l e R s m args below meth c D A cI cZ ad (mt1 ++ mt2) nL Q pc L stk M kc ks := by
  subst h9
  intro H locs ls hP hS hl
  subst hst
  have hPc := gq_P1 hP
  have hF : ∀ q, gq_A ad mt1.length H.size q → A q := fun q h => gq_Ale hC hS.1 q (gq_A1 h)
  obtain ⟨ci, fd, r, g1, g2, g3⟩ := hq
  have hrec := va_recv hC.2.2.2.2.2.1 hPc g2 (gq_ws_get g1)
  rw [g3] at hrec
  refine vx_calli (vx_runV (As := as) (rest := st) ⟨hC.1, hC.2.1, hC.2.2.1, hC.2.2.2.1, hC.2.2.2.2.1⟩ (hc (gq_inj1 hC.2.2.2.2.2.2.2.2.1) H.size) ⟨callB_of n hC.2.2.2.2.1 (gq_goodC hm.1) rfl rfl rfl (hC.2.2.2.2.1 _ hm.2.1) (hC.2.2.2.2.1 _ hl2) hm.2.2.2.2 hR, hC.2.2.2.2.1 _ hm.2.2.1, hC.2.2.2.2.1 _ hm.2.2.2.1⟩ ⟨gq_blindX, hrec, fun U hU hW => ⟨rfl, by rw [hU], ⟨by rw [hU]; exact hPc, va_K.moved hW.alike hC.2.2.2.2.2.1⟩, gq_Z_to hZ (by rw [hU]; exact hS.2.1) hW hF⟩⟩ rfl hn hl.1 rfl (lv_room (pc := pc) (ls := ls) (rest := st) (m := m) hW) d hk) hS (fun q _ h => hF q h) hF (fun q _ h => hF q h) (fun E ce q9 u t H1 locs1 ht hvm hp hB hz hk2 hS1 hce hcv hcl => ?_) (fun r u t H1 locs1 ht hvm hw hB hz hk2 hS1 => ?_)
  · have hP2 := gq_mrgP hC.2.2.2.2.2.2.2.2.1 hP hk2 (by rw [← ht]; exact hB.2.1)
    exact kx hp H1 locs1 ls q9 ce hP2 hS1 hl hce hcv (by rw [← hB.1]; exact hcl)
  · have hP2 := gq_mrgP hC.2.2.2.2.2.2.2.2.1 hP hk2 (by rw [← ht]; exact hB.1)
    obtain ⟨hw1, hw2⟩ := hw; subst hw2; exact kk hw1 H1 locs1 ls hP2 hS1 hl
theorem g_LXv (hC : gq_C p s m args meth c D A cI cZ ad (mt1 ++ mt2) own cc nL) (hZ : gq_Z A s) (hc : gq_Xv l D cI cZ ad mt1 y bytes maxL dm (.ref (ad q) :: as) M ex M') (hm : gq_MV y bytes maxL none n) (hl2 : Cond.methodLink own index y ∈ gT) (hq : gq_ob mt1 q y.cls) (hn : as.length = n) (hst : stk = as.reverse ++ .ref (ad q) :: st) (hW : (st.map fun v => v.category).sum ≤ 8) (hR : dm + 1 ≤ R.frames ∧ 8 + (maxL + 11) + 48 * dm ≤ R.locals) (hk : kc + gq_xc ex ≤ R.cells ∧ ks + gq_xs ex ≤ R.slots) (d : decode cc pc = .ok (.invokevirtual index, 3))
    {n9 : Nat} (h9 : mt1.length = n9) (kk : ex = 0 → gq_W p l e R s m args below meth c D A cI cZ ad (mt1 ++ mt2) nL Q (pc + 3) L st (mrg n9 M' M) (kc + gq_xc ex) (ks + gq_xs ex)) (kx : ex ≠ 0 → gq_Tw p l e R s m args below meth c D A cI cZ ad (mt1 ++ mt2) nL Q pc L st ex (mrg n9 M' M) (kc + gq_xc ex) (ks + gq_xs ex)) : gq_W p l e R s m args below meth c D A cI cZ ad (mt1 ++ mt2) nL Q pc L stk M kc ks := by
  subst h9
  intro H locs ls hP hS hl
  subst hst
  have hPc := gq_P1 hP
  have hF : ∀ q, gq_A ad mt1.length H.size q → A q := fun q h => gq_Ale hC hS.1 q (gq_A1 h)
  obtain ⟨ci, fd, r, g1, g2, g3⟩ := hq
  have hrec := va_recv hC.2.2.2.2.2.1 hPc g2 (gq_ws_get g1)
  rw [g3] at hrec
  refine vx_callv (vx_runV (As := as) (rest := st) ⟨hC.1, hC.2.1, hC.2.2.1, hC.2.2.2.1, hC.2.2.2.2.1⟩ (hc (gq_inj1 hC.2.2.2.2.2.2.2.2.1) H.size) ⟨callB_of n hC.2.2.2.2.1 (gq_goodC hm.1) rfl rfl rfl (hC.2.2.2.2.1 _ hm.2.1) (hC.2.2.2.2.1 _ hl2) hm.2.2.2.2 hR, hC.2.2.2.2.1 _ hm.2.2.1, hC.2.2.2.2.1 _ hm.2.2.2.1⟩ ⟨gq_blindX, hrec, fun U hU hW => ⟨rfl, by rw [hU], ⟨by rw [hU]; exact hPc, va_K.moved hW.alike hC.2.2.2.2.2.1⟩, gq_Z_to hZ (by rw [hU]; exact hS.2.1) hW hF⟩⟩ rfl hn hl.1 rfl (lv_room (pc := pc) (ls := ls) (rest := st) (m := m) hW) d hk) hS (fun q _ h => hF q h) hF (fun q _ h => hF q h) (fun E ce q9 u t H1 locs1 ht hvm hp hB hz hk2 hS1 hce hcv hcl => ?_) (fun u t H1 locs1 ht hvm hw hB hz hk2 hS1 => ?_)
  · have hP2 := gq_mrgP hC.2.2.2.2.2.2.2.2.1 hP hk2 (by rw [← ht]; exact hB.2.1)
    exact kx hp H1 locs1 ls q9 ce hP2 hS1 hl hce hcv (by rw [← hB.1]; exact hcl)
  · have hP2 := gq_mrgP hC.2.2.2.2.2.2.2.2.1 hP hk2 (by rw [← ht]; exact hB.1)
    exact kk hw H1 locs1 ls hP2 hS1 hl
theorem g_LSXi (hC : gq_C p s m args meth c D A cI cZ ad mt own cc nL) (hZ : gq_Z A s) (hc : gq_Xi l D cI cZ ad mt y bytes maxL ret dm as M ex v M') (hm : gq_MS y bytes maxL ret n) (hl2 : Cond.methodLink own index y ∈ gT) (hn : as.length = n) (hst : stk = as.reverse ++ st) (hW : (st.map fun v => v.category).sum ≤ 8) (hR : dm + 1 ≤ R.frames ∧ 8 + (maxL + 11) + 48 * dm ≤ R.locals) (hk : kc + gq_xc ex ≤ R.cells ∧ ks + gq_xs ex ≤ R.slots) (d : decode cc pc = .ok (.invokestatic index, 3))
    (kk : ex = 0 → gq_W p l e R s m args below meth c D A cI cZ ad mt nL Q (pc + 3) L (.int v :: st) M' (kc + gq_xc ex) (ks + gq_xs ex)) (kx : ex ≠ 0 → gq_Tw p l e R s m args below meth c D A cI cZ ad mt nL Q pc L st ex M' (kc + gq_xc ex) (ks + gq_xs ex)) : gq_W p l e R s m args below meth c D A cI cZ ad mt nL Q pc L stk M kc ks := by
  intro H locs ls hP hS hl
  subst hst
  refine vx_calli (vx_runS (As := as) (rest := st) ⟨hC.1, hC.2.1, hC.2.2.1, hC.2.2.2.1, hC.2.2.2.2.1⟩ (hc hC.2.2.2.2.2.2.2.2.1 H.size) ⟨gq_callX hC hm.1 hm.2.1 hl2 hm.2.2.2 hR, hC.2.2.2.2.1 _ hm.2.2.1⟩ ⟨gq_blindX, gq_preX hC hZ hP hS as⟩ rfl hn hl.1 rfl (lv_room (pc := pc) (ls := ls) (rest := st) (m := m) hW) d hk) hS (fun q _ h => gq_Ale hC hS.1 q h) (gq_Ale hC hS.1) (fun q _ h => gq_Ale hC hS.1 q h) (fun E ce q9 u t H1 locs1 ht hvm hp hB hz hk2 hS1 hce hcv hcl => ?_) (fun r u t H1 locs1 ht hvm hw hB hz hk2 hS1 => ?_)
  · exact kx hp H1 locs1 ls q9 ce (by rw [← ht]; exact hB.2.1) hS1 hl hce hcv (by rw [← hB.1]; exact hcl)
  · obtain ⟨hw1, hw2⟩ := hw
    subst hw2
    exact kk hw1 H1 locs1 ls (by rw [← ht]; exact hB.1) hS1 hl
theorem gq_preN (hC : gq_C p s m args meth c D A cI cZ ad mt own cc nL) (hZ : gq_Zn A s) {H : Heap} {locs : List Loc} (hP : va_P D vwCl (gq_ws cI cZ ad M 0 mt) H) (hS : va_S A s.heap H locs) (as : List Value) : ∀ U : State, U.heap = H → s.WarmedH U.vm → gq_Pn D cI cZ ad mt as M H.size as.toArray U :=
  fun U hU hW => ⟨rfl, by rw [hU], ⟨by rw [hU]; exact hP, va_K.moved hW.alike hC.2.2.2.2.2.1⟩, gq_Z_to hZ.1 (by rw [hU]; exact hS.2.1) hW (gq_Ale hC hS.1), gl_N.moved hW.alike hZ.2⟩
/-- one of the law's methods that make calls which may throw -/
theorem g_LNi {mc ms : Nat} (hC : gq_C p s m args meth c D A cI cZ ad mt own cc nL) (hZ : gq_Zn A s) (hc : gq_Ni l D cI cZ ad mt y (.code y bytes maxL ret) dm mc ms as M v M') (hm : gq_MS y bytes maxL ret n) (hl2 : Cond.methodLink own index y ∈ gT) (hn : as.length = n) (hst : stk = as.reverse ++ st) (hW : (st.map fun v => v.category).sum ≤ 8) (hR : dm + 1 ≤ R.frames ∧ 8 + (maxL + 11) + 48 * dm ≤ R.locals) (hk : kc + mc ≤ R.cells ∧ ks + ms ≤ R.slots) (d : decode cc pc = .ok (.invokestatic index, 3))
    (kk : gq_W p l e R s m args below meth c D A cI cZ ad mt nL Q (pc + 3) L (.int v :: st) M' (kc + mc) (ks + ms)) : gq_W p l e R s m args below meth c D A cI cZ ad mt nL Q pc L stk M kc ks := by
  intro H locs ls hP hS hl
  subst hst
  refine vx_calli (vx_runS (As := as) (rest := st) ⟨hC.1, hC.2.1, hC.2.2.1, hC.2.2.2.1, hC.2.2.2.2.1⟩ (hc hC.2.2.2.2.2.2.2.2.1 H.size) ⟨callB_of n hC.2.2.2.2.1 (gq_goodC hm.1) rfl rfl rfl (hC.2.2.2.2.1 _ hm.2.1) (hC.2.2.2.2.1 _ hl2) hm.2.2.2 hR, hC.2.2.2.2.1 _ hm.2.2.1⟩ ⟨gq_blindN, gq_preN hC hZ hP hS as⟩ rfl hn hl.1 rfl (lv_room (pc := pc) (ls := ls) (rest := st) (m := m) hW) d hk) hS (fun q _ h => gq_Ale hC hS.1 q h) (gq_Ale hC hS.1) (fun q _ h => gq_Ale hC hS.1 q h) (fun E ce q9 u t H1 locs1 ht hvm hp hB hz hk2 hS1 hce hcv hcl => hp.elim) (fun r u t H1 locs1 ht hvm hw hB hz hk2 hS1 => ?_)
  subst hw
  exact kk H1 locs1 ls (by rw [← ht]; exact hB.1) hS1 hl
def gl_MH (y : MethodName) (cc : ByteArray) (nL : Nat) (hh : List (Nat × Nat × Nat × Nat)) (n : Nat) : Prop := Cond.codeWith y cc nL (some .int) hh ∈ gT ∧ Cond.initialized y.cls ∈ gT ∧ Cond.static y ∈ gT ∧ (y.cls ≠ "java/lang/invoke/MethodHandle" ∧ y.cls ≠ "java/lang/invoke/VarHandle" ∧ (parseMethodDescriptor y.desc).map (fun d => d.parameters.length) = some n)
theorem g_LNH {mc ms : Nat} {hh : List (Nat × Nat × Nat × Nat)} (hC : gq_C p s m args meth c D A cI cZ ad mt own cc nL) (hZ : gq_Zn A s) (hc : gq_Ni l D cI cZ ad mt y (.codeWith y bytes maxL (some .int) hh) dm mc ms as M v M') (hm : gl_MH y bytes maxL hh n) (hl2 : Cond.methodLink own index y ∈ gT) (hn : as.length = n) (hst : stk = as.reverse ++ st) (hW : (st.map fun v => v.category).sum ≤ 8) (hR : dm + 1 ≤ R.frames ∧ 8 + (maxL + 11) + 48 * dm ≤ R.locals) (hk : kc + mc ≤ R.cells ∧ ks + ms ≤ R.slots) (d : decode cc pc = .ok (.invokestatic index, 3))
    (kk : gq_W p l e R s m args below meth c D A cI cZ ad mt nL Q (pc + 3) L (.int v :: st) M' (kc + mc) (ks + ms)) : gq_W p l e R s m args below meth c D A cI cZ ad mt nL Q pc L stk M kc ks := by
  intro H locs ls hP hS hl
  subst hst
  refine vx_calli (vx_runSX (As := as) (rest := st) (hh := hh) ⟨hC.1, hC.2.1, hC.2.2.1, hC.2.2.2.1, hC.2.2.2.2.1⟩ (hc hC.2.2.2.2.2.2.2.2.1 H.size) ⟨⟨rfl, rfl, hR.1, hR.2, pay_in hC.2.2.2.2.1 (gq_goodC hm.1), List.mem_cons_self⟩, hC.2.2.2.2.1 _ hm.1, hC.2.2.2.2.1 _ hm.2.1, ⟨hm.2.2.2.1, hm.2.2.2.2.1⟩, fun sig h => by have h2 := hm.2.2.2.2.2; rw [h] at h2; exact (Option.some.inj h2).symm, hC.2.2.2.2.1 _ hl2, hC.2.2.2.2.1 _ hm.2.2.1⟩ ⟨gq_blindN, gq_preN hC hZ hP hS as⟩ rfl hn hl.1 rfl (lv_room (pc := pc) (ls := ls) (rest := st) (m := m) hW) d hk) hS (fun q _ h => gq_Ale hC hS.1 q h) (gq_Ale hC hS.1) (fun q _ h => gq_Ale hC hS.1 q h) (fun E ce q9 u t H1 locs1 ht hvm hp hB hz hk2 hS1 hce hcv hcl => hp.elim) (fun r u t H1 locs1 ht hvm hw hB hz hk2 hS1 => ?_)
  subst hw
  exact kk H1 locs1 ls (by rw [← ht]; exact hB.1) hS1 hl
theorem gq_ex9 {k ex : Nat} {v w : Int32} {M M2 : gq_M} (h : some (k, w, M) = some (ex, v, M2)) : k = ex := by cases h; rfl
theorem mtC_len : mtC.length = 109 := rfl
end LROW
theorem wx_82 : Cond.classLink RL 82 (gq_exn 1) ∈ gT := gT_2 122 rfl rfl
theorem wx_85 : Cond.classLink RL 85 (gq_exn 2) ∈ gT := gT_2 123 rfl rfl
theorem wx_88 : Cond.classLink RL 88 (gq_exn 3) ∈ gT := gT_2 124 rfl rfl
theorem mH_L_does : gl_MH yL_does cL_does 9 [(0, 360, 361, 82), (0, 360, 366, 85), (0, 360, 371, 88)] 8 := ⟨gT_2 121 rfl rfl, wn_L, wt_L_does, ⟨by decide, by decide, by decide +kernel⟩⟩
