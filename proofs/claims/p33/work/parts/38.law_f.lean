/-! THE CLAIM OUT OF ONE WALK OF THE LAW'S BODY. Your part is whole_start (and what it stands on); all else here is the same for every law, but numbers. -/
def R_law : String := "FishclockLaw"
def lw_P (b : Addr) (xs : List Int32) (args : Array Value) (s : State) : Prop := args = #[.ref b] ∧ s.IntsAt b xs ∧ xs.length ≤ 260 ∧ (Jvm.Cond.and given_1 narrow_1).before args s = true
def lw_Q (_ : Array Value) (s : State) (o : Outcome) (t : State) : Prop := o = .returned (some (.int 1)) ∧ Framed s o t [] 600074 7301550
def lw_Z (below : List Frame) (a : Array Value) (s : State) : State → Prop := fun t => ∃ o, t.status = .running ∧ Ended t below o ∧ lw_Q a s o t
/-- the law's own end, with 1 on the stack, nothing written that was there before, its room as the claim has it -/
theorem lw_ret {p : Program} {l : Launch} {e : Env} {s : State} {m : MethodId} {below : List Frame} {meth : Method} {c : Code} {b : Nat} (hx : p.tables.exec = Jvm.exec) (hb : c.code = code) (hr : meth.sig.returnType = ret) (hlocks : meth.locks = false) {pc : Nat} {H : Heap} {ls : Array Slot} (hdg : decode code pc = .ok (.ireturn, 1)) : W p l e room_1 s m #[Value.ref b] below meth c H [] 600074 7301550 (lw_Z below #[Value.ref b] s) (F0 m pc ls [.int 1]) := by
  intro T hT X
  obtain ⟨fs, hret, hrun, hended, hW, hframe⟩ := X.leave (v := some (.int 1)) (hlocks := hlocks) (fun h => by rw [hr] at h; cases h)
  have hmeth' : T.vm.method? m = some meth := X.method'
  refine ⟨T.setFrames fs, ?_, .returned (some (.int 1)), hrun, hended, rfl, ⟨_, rfl⟩, hW, hframe⟩
  jvm_step X.here [X.here.top, hx, hb, hdg, hmeth', hr, ret, narrow_b1]
  (try refine ⟨rfl, ?_⟩); (try refine ⟨rfl, ?_⟩)
  first | (intro acts; rw [hret _ acts rfl rfl rfl]) | rw [hret _ _ rfl rfl rfl]
  exact Steps.refl _
/-- what holds at the law's entry: the machine, the code, the tables' words (any of lw_tbl by 'hts w (by decide +kernel)'), the script of L ints xs at the cell b, what the Statement gives of the start (any of its parts by flat_of_before) -/
def lw_At (p : Program) (s : State) (m : MethodId) (meth : Method) (c : Code) (b L : Nat) (xs : Nat → Int32) : Prop :=
  p.tables.exec = Jvm.exec ∧ c.code = code ∧ meth.sig.returnType = ret ∧ c.maxLocals = 23 ∧ s.vm.findClass R_law = some m.cls ∧ (∀ w ∈ lw_tbl, w.before #[Value.ref b] s = true) ∧ va_X b L xs s s.heap ∧ b < s.heap.size ∧ meth.locks = false ∧ (Jvm.Cond.and given_1 narrow_1).before #[Value.ref b] s = true
/-! the script's own method; the law's end -/
def f_L_part (sl : Nat) (xs : Nat → Int32) (k n : Int32) : Option Int32 :=
  if nI sl ≤ k then gq_l (((967 * k) + ((827 * k) * k)) : Int32) fun v => gq_g (gq_nz n) (gq_l (v &&& 2147483647) fun w => some (w - w / n * n))
  else gq_g (gq_in k sl) (gq_l (xs k.toNatClampNeg) fun v => gq_g (gq_nz n) (gq_l (v &&& 2147483647) fun w => some (w - w / n * n)))
def gq_p {β : Type} (o : Option Int32) (f : Int32 → Option β) : Option β := match o with
  | some v => f v
  | none => none
theorem gq_p_i {β : Type} {o : Option Int32} {f : Int32 → Option β} {r : β} (h : gq_p o f = some r) : ∃ v : Int32, o = some v ∧ f v = some r := by
  cases o with
  | none => cases h
  | some q => exact ⟨q, rfl, h⟩
abbrev lw_A (s : State) : Nat → Prop := fun q => s.heap.size ≤ q
section PART
variable {p : Program} {l : Launch} {e : Env} {R : Room} {s : State} {m : MethodId} {args : Array Value} {below : List Frame} {meth : Method} {c : Code} {Q : State → Prop}
variable {D : va_G} {A : Nat → Prop} {cI cZ : ClassId} {ad : Nat → Nat} {mt : List gq_T} {own : String} {cc : ByteArray} {nL : Nat}
variable {pc : Nat} {L : List (Nat × Value)} {st : List Value} {M : gq_M} {kc ks : Nat} {b sl : Nat} {xs : Nat → Int32}
theorem g_sld {i : Int32} (hC : gq_C p s m args meth c D A cI cZ ad mt own cc nL) (hX : va_X b sl xs s s.heap) (hbl : b < s.heap.size) (hbA : ¬ A b) (hin : vp_in i sl) (d : decode cc pc = .ok (.iaload, 1)) (kk : gq_W p l e R s m args below meth c D A cI cZ ad mt nL Q (pc + 1) L (.int (xs i.toNatClampNeg) :: st) M kc ks) : gq_W p l e R s m args below meth c D A cI cZ ad mt nL Q pc L (.int i :: .ref b :: st) M kc ks := fun H locs ls hP hS hl => va_sld hC.1 hC.2.1 hX hbl hbA hS hin d (kk H locs ls hP hS hl)
theorem g_slen (hC : gq_C p s m args meth c D A cI cZ ad mt own cc nL) (hX : va_X b sl xs s s.heap) (hbl : b < s.heap.size) (hbA : ¬ A b) (d : decode cc pc = .ok (.arraylength, 1)) (kk : gq_W p l e R s m args below meth c D A cI cZ ad mt nL Q (pc + 1) L (.int (nI sl) :: st) M kc ks) : gq_W p l e R s m args below meth c D A cI cZ ad mt nL Q pc L (.ref b :: st) M kc ks := fun H locs ls hP hS hl => va_slen hC.1 hC.2.1 hX hbl hbA hS d (kk H locs ls hP hS hl)
theorem g_aload_s {k : Fin 4} {i x : Nat} (hC : gq_C p s m args meth c D A cI cZ ad mt own cc nL) (j : Nat) (hi : (k : Nat) = i) (hk : L[j]? = some (i, .ref x)) (d : decode cc pc = .ok (.aload_n k, 1)) (kk : gq_W p l e R s m args below meth c D A cI cZ ad mt nL Q (pc + 1) L (.ref x :: st) M kc ks) : gq_W p l e R s m args below meth c D A cI cZ ad mt nL Q pc L st M kc ks := g_aload_n hC j hi hk d kk
def gq_Pp (D : va_G) (cI cZ : ClassId) (b sl : Nat) (xs : Nat → Int32) (as : List Value) (sz : Nat) : Array Value → State → Prop := va_Pc as (fun U => U.heap.size = sz ∧ gq_K D cI cZ U ∧ va_X b sl xs U U.heap ∧ b < sz)
theorem gq_blindP {as : List Value} {sz : Nat} : FrameBlind (gq_Pp D cI cZ b sl xs as sz) := fun a U g mk q => ⟨q.1, q.2.1, va_K.moved (u := U) (U := U.calling g mk a) (Vm.Alike.refl U.vm) q.2.2.1, va_X.moved (u := U) (U := U.calling g mk a) (Vm.Alike.refl U.vm) q.2.2.2.1, q.2.2.2.2⟩
def gq_Ct (l : Launch) (D : va_G) (cI cZ : ClassId) (b sl : Nat) (xs : Nat → Int32) (k n v : Int32) : Prop := ∀ sz, Met l yL_part (.code yL_part cL_part 4 (some .int) :: gT) (gq_rm 0) (gq_Pp D cI cZ b sl xs [.ref b, .int k, .int n] sz) (va_Qi (fun r (_ : Unit) => r = v) (fun _ _ => True) (fun q => sz ≤ q)) 0 0 (fun q => sz ≤ q)
theorem g_partE {k n v v1 : Int32} (hC : gq_C p s m args meth c D (lw_A s) cI cZ ad [] RL cL_part 4) (hr : meth.sig.returnType = some .int) (h : gq_g (gq_nz n) (gq_l (v1 &&& 2147483647) fun w => some (w - w / n * n)) = some v) : gq_W p l e R s m args below meth c D (lw_A s) cI cZ ad [] 4 (MQ below (va_Qi (fun r (_ : Unit) => r = v) (fun _ _ => True) (lw_A s)) args s kc ks (lw_A s)) 25 [(0, .ref b), (1, .int k), (2, .int n)] [.int v1] M kc ks := by
  obtain ⟨g2, h⟩ := gq_g_i h
  refine g_istore_n (L2 := [(3, .int v1), (0, .ref b), (1, .int k), (2, .int n)]) hC rfl (by decide) rfl dL_part_25 ?_
  refine g_iload_n hC 0 rfl rfl dL_part_26 ?_
  refine g_ldc (v := 2147483647) hC wk_L_7 dL_part_27 ?_
  refine g_iand hC dL_part_29 ?_
  refine g_topi (fun v2 hv2 => ?_)
  replace h := gq_l_i hv2 h
  refine g_iload_n hC 3 rfl rfl dL_part_30 ?_
  refine g_irem hC (gq_nz_i g2) dL_part_31 ?_
  cases h
  exact fun H locs ls hP hS hl => W.iret hC.1 hC.2.1 hr (fun t ht hW => ⟨⟨_, (), rfl, rfl, trivial⟩, hS.F ht⟩) hS.2.2 dL_part_32 hC.2.2.2.2.2.2.1
set_option maxHeartbeats 1000000 in
theorem t_L_part {k n v : Int32} (h : f_L_part sl xs k n = some v) : gq_Ct l D cI cZ b sl xs k n v := by
  intro sz
  refine Met.ofW (cc := cL_part) (maxL := 4) (ret := some .int) (by decide) rfl ?_
  intro p e s m args below meth c s₁ B hml hv
  obtain ⟨rfl, hsz, hK, hX, hbl⟩ := hv
  subst hsz
  have hts := atoms_spec (ws := .code yL_part cL_part 4 (some .int) :: gT) B.pre
  have hC : gq_C p s m ([.ref b, .int k, .int n] : List Value).toArray meth c D (lw_A s) cI cZ (fun _ => 0) [] RL cL_part 4 := ⟨B.exec, B.bytes, hml, findClass_of_methodNamed B.named, fun w h => hts w (List.mem_cons_of_mem _ h), hK, B.notSynchronized, fun q h => h, ⟨fun i j h => absurd h (Nat.not_lt_zero _), fun k h => absurd h (Nat.not_lt_zero _)⟩⟩
  have hbA : ¬ lw_A s b := Nat.not_le.mpr hbl
  have hr := B.returns
  suffices hh : gq_W p l e (gq_rm 0) s m ([.ref b, .int k, .int n] : List Value).toArray below meth c D (lw_A s) cI cZ (fun _ => 0) [] 4 (MQ below (va_Qi (fun r (_ : Unit) => r = v) (fun _ _ => True) (lw_A s)) ([.ref b, .int k, .int n] : List Value).toArray s 0 0 (lw_A s)) 0 [(0, .ref b), (1, .int k), (2, .int n)] [] (fun _ _ => 0) 0 0 by
    have hz := hh s.heap [] _ (fun k q h => by cases h) va_S.rf (lv_entry ([.ref b, .int k, .int n]) (n := 4) (Nat.le_of_ble_eq_true rfl))
    rw [lg_entry_eq]
    exact hz
  unfold f_L_part at h
  refine g_iload_n hC 1 rfl rfl dL_part_0 ?_
  refine g_aload_n hC 0 rfl rfl dL_part_1 ?_
  refine g_slen hC hX hbl hbA dL_part_2 ?_
  refine g_icmp_ge (tgt := 12) hC (by decide) dL_part_3 (fun c1 => ?_) (fun c1 => ?_)
  · replace h := gq_t c1 h
    refine g_sipush (v := 967) hC (by decide) dL_part_12 ?_
    refine g_iload_n hC 1 rfl rfl dL_part_15 ?_
    refine g_imul hC dL_part_16 ?_
    refine g_sipush (v := 827) hC (by decide) dL_part_17 ?_
    refine g_iload_n hC 1 rfl rfl dL_part_20 ?_
    refine g_imul hC dL_part_21 ?_
    refine g_iload_n hC 1 rfl rfl dL_part_22 ?_
    refine g_imul hC dL_part_23 ?_
    refine g_iadd hC dL_part_24 ?_
    refine g_topi (fun v1 hv1 => ?_)
    replace h := gq_l_i hv1 h
    exact g_partE hC hr h
  · replace h := gq_f c1 h
    obtain ⟨g1, h⟩ := gq_g_i h
    refine g_aload_n hC 0 rfl rfl dL_part_6 ?_
    refine g_iload_n hC 1 rfl rfl dL_part_7 ?_
    refine g_sld hC hX hbl hbA (gq_in_i g1) dL_part_8 ?_
    refine g_topi (fun v1 hv1 => ?_)
    replace h := gq_l_i hv1 h
    refine g_goto (tgt := 25) hC (by decide) dL_part_9 ?_
    exact g_partE hC hr h
theorem g_part {k n v : Int32} {index : Nat} (hC : gq_C p s m args meth c D A cI cZ ad mt own cc nL) (hX : va_X b sl xs s s.heap) (hbl : b < s.heap.size) (hbA : ¬ A b) (hc : gq_Ct l D cI cZ b sl xs k n v) (hl2 : Cond.methodLink own index yL_part ∈ gT) (hW : (st.map fun v => v.category).sum ≤ 8) (hR : 0 + 1 ≤ R.frames ∧ 8 + (4 + 11) + 48 * 0 ≤ R.locals) (hk : kc ≤ R.cells ∧ ks ≤ R.slots) (d : decode cc pc = .ok (.invokestatic index, 3)) (kk : gq_W p l e R s m args below meth c D A cI cZ ad mt nL Q (pc + 3) L (.int v :: st) M kc ks) : gq_W p l e R s m args below meth c D A cI cZ ad mt nL Q pc L (.int n :: .int k :: .ref b :: st) M kc ks := by
  intro H locs ls hP hS hl
  have hm := mS_L_part
  refine va_calli (va_runS (As := [.ref b, .int k, .int n]) (rest := st) ⟨hC.1, hC.2.1, hC.2.2.1, hC.2.2.2.1, hC.2.2.2.2.1⟩ (hc H.size) ⟨gq_call hC hm.1 hm.2.1 hl2 hm.2.2.2 hR, hC.2.2.2.2.1 _ hm.2.2.1⟩ ⟨gq_blindP, fun U hU hW => ⟨rfl, by rw [hU], va_K.moved hW.alike hC.2.2.2.2.2.1, va_X.kept (va_X.moved hW.alike hX) (by rw [hU]; exact hS.2.1 b hbl hbA), Nat.lt_of_lt_of_le hbl hS.1⟩⟩ rfl rfl hl.1 rfl (lv_room (pc := pc) (ls := ls) (rest := st) (m := m) hW) d ⟨by omega, by omega⟩) hS (fun q h1 h2 => absurd h1 (Nat.not_lt.mpr h2)) (fun q h => hC.2.2.2.2.2.2.2.1 q (Nat.le_trans hS.1 h)) (fun r u t H1 locs1 ht hvm hw hB hz hk2 hS1 => ?_)
  subst hw
  exact kk H1 locs1 ls (hP.kept (fun i x hx => hk2 x.1 (hP i x hx).lt (Nat.not_le.mpr (hP i x hx).lt))) hS1 hl
theorem g_lawret {x : Int32} {M9 : gq_M} (hC : gq_C p s m #[Value.ref b] meth c D (lw_A s) cI cZ ad mtL RL cL_law 23) (hr : meth.sig.returnType = ret) (hkc : kc ≤ 600074) (hks : ks ≤ 7301550) (h : some (x, M) = some (1, M9)) (d : decode cL_law pc = .ok (.ireturn, 1)) : gq_W p l e room_1 s m #[Value.ref b] below meth c D (lw_A s) cI cZ ad mtL 23 (lw_Z below #[Value.ref b] s) pc L [.int x] M kc ks := by
  cases h
  refine g_widen (kc2 := 600074) (ks2 := 7301550) hkc hks ?_
  intro H locs ls hP hS hl
  refine va_forget (fun q hq => hS.2.2 q hq) ?_
  exact lw_ret hC.1 hC.2.1 hr hC.2.2.2.2.2.2.1 d
end PART
