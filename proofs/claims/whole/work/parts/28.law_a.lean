/-! the law's own rows -/
section GL
variable {p : Program} {l : Launch} {e : Env} {R : Room} {s : State} {m : MethodId} {args : Array Value} {below : List Frame} {meth : Method} {c : Code} {Q : State → Prop}
variable {D : va_G} {A : Nat → Prop} {cI cZ cL : ClassId} {own : String} {cc : ByteArray} {nL : Nat}
variable {pc : Nat} {L : List (Nat × Value)} {st : List Value} {kc ks : Nat} {ws : va_W}
theorem gl_iload (hC : gc_C p s m args meth c D A cI cZ own cc nL) {i : Nat} {x : Int32} (j : Nat) (hk : L[j]? = some (i, .int x)) (d : decode cc pc = .ok (.iload i, 2)) (kk : gc_W p l e R s m args below meth c D A nL Q ws (pc + 2) L (.int x :: st) kc ks) : gc_W p l e R s m args below meth c D A nL Q ws pc L st kc ks := fun H locs ls hP hD hS hl => lv_iload hC.1 hC.2.1 d (lv_at hl j hk) (kk H locs ls hP hD hS hl)
theorem gl_aload (hC : gc_C p s m args meth c D A cI cZ own cc nL) {i x : Nat} (j : Nat) (hk : L[j]? = some (i, .ref x)) (d : decode cc pc = .ok (.aload i, 2)) (kk : gc_W p l e R s m args below meth c D A nL Q ws (pc + 2) L (.ref x :: st) kc ks) : gc_W p l e R s m args below meth c D A nL Q ws pc L st kc ks := fun H locs ls hP hD hS hl => lv_aload hC.1 hC.2.1 d (lv_at hl j hk) (kk H locs ls hP hD hS hl)
theorem gl_istore (hC : gc_C p s m args meth c D A cI cZ own cc nL) {i : Nat} {x : Int32} {L2 : List (Nat × Value)} (hn : i < nL) (hl2 : (i, Value.int x) :: L.filter (fun q => !(q.1 == i) && !(q.1 + 1 == i && q.2.category == 2)) = L2) (d : decode cc pc = .ok (.istore i, 2)) (kk : gc_W p l e R s m args below meth c D A nL Q ws (pc + 2) L2 st kc ks) : gc_W p l e R s m args below meth c D A nL Q ws pc L (.int x :: st) kc ks := fun H locs ls hP hD hS hl => lv_istore hC.1 hC.2.1 d hl hn hl2 (fun ls hl => (kk H locs ls hP hD hS hl))
theorem gl_astore_n (hC : gc_C p s m args meth c D A cI cZ own cc nL) {k : Fin 4} {i : Nat} {x : Nat} {L2 : List (Nat × Value)} (hi : (k : Nat) = i) (hn : i < nL) (hl2 : (i, Value.ref x) :: L.filter (fun q => !(q.1 == i) && !(q.1 + 1 == i && q.2.category == 2)) = L2) (d : decode cc pc = .ok (.astore_n k, 1)) (kk : gc_W p l e R s m args below meth c D A nL Q ws (pc + 1) L2 st kc ks) : gc_W p l e R s m args below meth c D A nL Q ws pc L (.ref x :: st) kc ks := fun H locs ls hP hD hS hl => lv_astore_n hC.1 hC.2.1 d hi hl hn hl2 (fun ls hl => (kk H locs ls hP hD hS hl))
theorem gl_astore (hC : gc_C p s m args meth c D A cI cZ own cc nL) {i : Nat} {x : Nat} {L2 : List (Nat × Value)} (hn : i < nL) (hl2 : (i, Value.ref x) :: L.filter (fun q => !(q.1 == i) && !(q.1 + 1 == i && q.2.category == 2)) = L2) (d : decode cc pc = .ok (.astore i, 2)) (kk : gc_W p l e R s m args below meth c D A nL Q ws (pc + 2) L2 st kc ks) : gc_W p l e R s m args below meth c D A nL Q ws pc L (.ref x :: st) kc ks := fun H locs ls hP hD hS hl => lv_astore hC.1 hC.2.1 d hl hn hl2 (fun ls hl => (kk H locs ls hP hD hS hl))
theorem gl_iinc (hC : gc_C p s m args meth c D A cI cZ own cc nL) {i : Nat} {n : Int} {x v : Int32} {L2 : List (Nat × Value)} (j : Nat) (hk : L[j]? = some (i, .int x)) (hv : x + Int32.ofInt n = v) (hn : i < nL) (hl2 : (i, Value.int v) :: L.filter (fun q => !(q.1 == i) && !(q.1 + 1 == i && q.2.category == 2)) = L2) (d : decode cc pc = .ok (.iinc i n, 3)) (kk : gc_W p l e R s m args below meth c D A nL Q ws (pc + 3) L2 st kc ks) : gc_W p l e R s m args below meth c D A nL Q ws pc L st kc ks := fun H locs ls hP hD hS hl => lv_iinc hC.1 hC.2.1 d hl hk hv hn hl2 (fun ls hl => (kk H locs ls hP hD hS hl))
theorem gl_lconst (hC : gc_C p s m args meth c D A cI cZ own cc nL) {n : Fin 2} {v : Int64} (hv : Int64.ofNat (n : Nat) = v) (d : decode cc pc = .ok (.lconst n, 1)) (kk : gc_W p l e R s m args below meth c D A nL Q ws (pc + 1) L (.long v :: st) kc ks) : gc_W p l e R s m args below meth c D A nL Q ws pc L st kc ks := fun H locs ls hP hD hS hl => lv_lconst hC.1 hC.2.1 d hv (kk H locs ls hP hD hS hl)
theorem gl_iadd (hC : gc_C p s m args meth c D A cI cZ own cc nL) {x y : Int32}  (d : decode cc pc = .ok (.iadd, 1)) (kk : gc_W p l e R s m args below meth c D A nL Q ws (pc + 1) L (.int (x + y) :: st) kc ks) : gc_W p l e R s m args below meth c D A nL Q ws pc L (.int y :: .int x :: st) kc ks := fun H locs ls hP hD hS hl => lv_iadd hC.1 hC.2.1 d (kk H locs ls hP hD hS hl)
theorem gl_isub (hC : gc_C p s m args meth c D A cI cZ own cc nL) {x y : Int32}  (d : decode cc pc = .ok (.isub, 1)) (kk : gc_W p l e R s m args below meth c D A nL Q ws (pc + 1) L (.int (x - y) :: st) kc ks) : gc_W p l e R s m args below meth c D A nL Q ws pc L (.int y :: .int x :: st) kc ks := fun H locs ls hP hD hS hl => lv_isub hC.1 hC.2.1 d (kk H locs ls hP hD hS hl)
theorem gl_iand (hC : gc_C p s m args meth c D A cI cZ own cc nL) {x y : Int32}  (d : decode cc pc = .ok (.iand, 1)) (kk : gc_W p l e R s m args below meth c D A nL Q ws (pc + 1) L (.int (x &&& y) :: st) kc ks) : gc_W p l e R s m args below meth c D A nL Q ws pc L (.int y :: .int x :: st) kc ks := fun H locs ls hP hD hS hl => lv_iand hC.1 hC.2.1 d (kk H locs ls hP hD hS hl)
theorem gl_i2l (hC : gc_C p s m args meth c D A cI cZ own cc nL) {x : Int32}  (d : decode cc pc = .ok (.i2l, 1)) (kk : gc_W p l e R s m args below meth c D A nL Q ws (pc + 1) L (.long x.toInt64 :: st) kc ks) : gc_W p l e R s m args below meth c D A nL Q ws pc L (.int x :: st) kc ks := fun H locs ls hP hD hS hl => lv_i2l hC.1 hC.2.1 d rfl (kk H locs ls hP hD hS hl)
theorem gl_lcmp (hC : gc_C p s m args meth c D A cI cZ own cc nL) {x y : Int64}  (d : decode cc pc = .ok (.lcmp, 1)) (kk : gc_W p l e R s m args below meth c D A nL Q ws (pc + 1) L (.int (lg_cmp x y) :: st) kc ks) : gc_W p l e R s m args below meth c D A nL Q ws pc L (.long y :: .long x :: st) kc ks := fun H locs ls hP hD hS hl => W.lcmp hC.1 hC.2.1 d (kk H locs ls hP hD hS hl)
theorem gl_goto (hC : gc_C p s m args meth c D A cI cZ own cc nL) {off : Int} {tgt : Nat} (ht : (pc : Int) + off = (tgt : Int)) (d : decode cc pc = .ok (.goto off, 3)) (kk : gc_W p l e R s m args below meth c D A nL Q ws tgt L st kc ks) : gc_W p l e R s m args below meth c D A nL Q ws pc L st kc ks := fun H locs ls hP hD hS hl => lv_goto hC.1 hC.2.1 d ht (kk H locs ls hP hD hS hl)
theorem gl_icmp_eq (hC : gc_C p s m args meth c D A cI cZ own cc nL) {x y : Int32} {off : Int} {tgt : Nat} (ht : (pc : Int) + off = (tgt : Int)) (d : decode cc pc = .ok (.if_icmp .eq off, 3)) (kt : x = y → gc_W p l e R s m args below meth c D A nL Q ws tgt L st kc ks) (kf : ¬ x = y → gc_W p l e R s m args below meth c D A nL Q ws (pc + 3) L st kc ks) : gc_W p l e R s m args below meth c D A nL Q ws pc L (.int y :: .int x :: st) kc ks := fun H locs ls hP hD hS hl => lv_icmp_eq hC.1 hC.2.1 d ht (fun q => kt q H locs ls hP hD hS hl) (fun q => kf q H locs ls hP hD hS hl)
theorem gl_if_eq (hC : gc_C p s m args meth c D A cI cZ own cc nL) {x : Int32} {off : Int} {tgt : Nat} (ht : (pc : Int) + off = (tgt : Int)) (d : decode cc pc = .ok (.ifCond .eq off, 3)) (kt : x = 0 → gc_W p l e R s m args below meth c D A nL Q ws tgt L st kc ks) (kf : ¬ x = 0 → gc_W p l e R s m args below meth c D A nL Q ws (pc + 3) L st kc ks) : gc_W p l e R s m args below meth c D A nL Q ws pc L (.int x :: st) kc ks := fun H locs ls hP hD hS hl => lv_if_eq hC.1 hC.2.1 d ht (fun q => kt q H locs ls hP hD hS hl) (fun q => kf q H locs ls hP hD hS hl)
theorem gl_icmp_ne (hC : gc_C p s m args meth c D A cI cZ own cc nL) {x y : Int32} {off : Int} {tgt : Nat} (ht : (pc : Int) + off = (tgt : Int)) (d : decode cc pc = .ok (.if_icmp .ne off, 3)) (kt : ¬ x = y → gc_W p l e R s m args below meth c D A nL Q ws tgt L st kc ks) (kf : x = y → gc_W p l e R s m args below meth c D A nL Q ws (pc + 3) L st kc ks) : gc_W p l e R s m args below meth c D A nL Q ws pc L (.int y :: .int x :: st) kc ks := fun H locs ls hP hD hS hl => lv_icmp_ne hC.1 hC.2.1 d ht (fun q => kt q H locs ls hP hD hS hl) (fun q => kf q H locs ls hP hD hS hl)
theorem gl_if_ne (hC : gc_C p s m args meth c D A cI cZ own cc nL) {x : Int32} {off : Int} {tgt : Nat} (ht : (pc : Int) + off = (tgt : Int)) (d : decode cc pc = .ok (.ifCond .ne off, 3)) (kt : ¬ x = 0 → gc_W p l e R s m args below meth c D A nL Q ws tgt L st kc ks) (kf : x = 0 → gc_W p l e R s m args below meth c D A nL Q ws (pc + 3) L st kc ks) : gc_W p l e R s m args below meth c D A nL Q ws pc L (.int x :: st) kc ks := fun H locs ls hP hD hS hl => lv_if_ne hC.1 hC.2.1 d ht (fun q => kt q H locs ls hP hD hS hl) (fun q => kf q H locs ls hP hD hS hl)
theorem gl_icmp_gt (hC : gc_C p s m args meth c D A cI cZ own cc nL) {x y : Int32} {off : Int} {tgt : Nat} (ht : (pc : Int) + off = (tgt : Int)) (d : decode cc pc = .ok (.if_icmp .gt off, 3)) (kt : y < x → gc_W p l e R s m args below meth c D A nL Q ws tgt L st kc ks) (kf : ¬ y < x → gc_W p l e R s m args below meth c D A nL Q ws (pc + 3) L st kc ks) : gc_W p l e R s m args below meth c D A nL Q ws pc L (.int y :: .int x :: st) kc ks := fun H locs ls hP hD hS hl => lv_icmp_gt hC.1 hC.2.1 d ht (fun q => kt q H locs ls hP hD hS hl) (fun q => kf q H locs ls hP hD hS hl)
theorem gl_if_gt (hC : gc_C p s m args meth c D A cI cZ own cc nL) {x : Int32} {off : Int} {tgt : Nat} (ht : (pc : Int) + off = (tgt : Int)) (d : decode cc pc = .ok (.ifCond .gt off, 3)) (kt : 0 < x → gc_W p l e R s m args below meth c D A nL Q ws tgt L st kc ks) (kf : ¬ 0 < x → gc_W p l e R s m args below meth c D A nL Q ws (pc + 3) L st kc ks) : gc_W p l e R s m args below meth c D A nL Q ws pc L (.int x :: st) kc ks := fun H locs ls hP hD hS hl => lv_if_gt hC.1 hC.2.1 d ht (fun q => kt q H locs ls hP hD hS hl) (fun q => kf q H locs ls hP hD hS hl)
theorem gl_tsIn (hC : gc_C p s m args meth c D A cI cZ own cc nL) {dflt lo hi : Int} {offs : Array Int} {len : Nat} {x : Int32} {off : Int} {tgt : Nat} (h1 : ¬ x.toInt < lo) (h2 : ¬ hi < x.toInt) (ho : offs[(x.toInt - lo).toNat]? = some off) (ht : (pc : Int) + off = (tgt : Int)) (d : decode cc pc = .ok (.tableswitch dflt lo hi offs, len)) (kk : gc_W p l e R s m args below meth c D A nL Q ws tgt L st kc ks) : gc_W p l e R s m args below meth c D A nL Q ws pc L (.int x :: st) kc ks := fun H locs ls hP hD hS hl => lv_tableIn hC.1 hC.2.1 d h1 h2 ho ht (kk H locs ls hP hD hS hl)
theorem gl_tsOut (hC : gc_C p s m args meth c D A cI cZ own cc nL) {dflt lo hi : Int} {offs : Array Int} {len : Nat} {x : Int32} {tgt : Nat} (h : x.toInt < lo ∨ hi < x.toInt) (ht : (pc : Int) + dflt = (tgt : Int)) (d : decode cc pc = .ok (.tableswitch dflt lo hi offs, len)) (kk : gc_W p l e R s m args below meth c D A nL Q ws tgt L st kc ks) : gc_W p l e R s m args below meth c D A nL Q ws pc L (.int x :: st) kc ks := fun H locs ls hP hD hS hl => lv_tableOut hC.1 hC.2.1 d h ht (kk H locs ls hP hD hS hl)
theorem gl_weak (ks2 : List Nat) {L2 : List (Nat × Value)} (h : lv_pick L ks2 = L2) (kk : gc_W p l e R s m args below meth c D A nL Q ws pc L2 st kc ks) : gc_W p l e R s m args below meth c D A nL Q ws pc L st kc ks := fun H locs ls hP hD hS hl => kk H locs ls hP hD hS (lv_sub hl ks2 h)
theorem gl_topi {x : Int32} (kk : ∀ y : Int32, y = x → gc_W p l e R s m args below meth c D A nL Q ws pc L (.int y :: st) kc ks) : gc_W p l e R s m args below meth c D A nL Q ws pc L (.int x :: st) kc ks := kk x rfl
theorem gl_widen {kc2 ks2 : Nat} (h1 : kc ≤ kc2) (h2 : ks ≤ ks2) (kk : gc_W p l e R s m args below meth c D A nL Q ws pc L st kc2 ks2) : gc_W p l e R s m args below meth c D A nL Q ws pc L st kc ks := fun H locs ls hP hD hS hl => W.widen h1 h2 (kk H locs ls hP hD hS hl)
theorem va_P_comm {D : va_G} {cl : List vw_C} {X Y : va_W} {H : Heap} (h : va_P D cl (X ++ Y) H) : va_P D cl (Y ++ X) H :=
  va_P.app (fun k x hx => h (X.length + k) x (by rw [List.getElem?_append_right (by omega), Nat.add_sub_cancel_left]; exact hx)) (fun k x hx => h k x (by rw [List.getElem?_append_left (List.getElem?_eq_some_iff.mp hx).1]; exact hx))
theorem va_D_comm {A : Nat → Prop} {X Y : va_W} (h : va_D A (X ++ Y)) : va_D A (Y ++ X) := by
  have hx : ∀ (k : Nat) (x : Nat × va_E), X[k]? = some x → (X ++ Y)[k]? = some x := fun k x hx => by rw [List.getElem?_append_left (List.getElem?_eq_some_iff.mp hx).1]; exact hx
  have hy : ∀ (k : Nat) (x : Nat × va_E), Y[k]? = some x → (X ++ Y)[X.length + k]? = some x := fun k x hx => by rw [List.getElem?_append_right (by omega), Nat.add_sub_cancel_left]; exact hx
  refine va_D.app ⟨fun i j a b ha hb hab => ?_, fun k a ha => h.2 _ a (hy k a ha)⟩ ⟨fun i j a b ha hb hab => h.1 i j a b (hx i a ha) (hx j b hb) hab, fun k a ha => h.2 k a (hx k a ha)⟩ (fun i j a b ha hb hab => ?_)
  · have := h.1 _ _ a b (hy i a ha) (hy j b hb) hab
    omega
  · have h1 := h.1 _ _ b a (hx j b hb) (hy i a ha) hab.symm
    have h2 := (List.getElem?_eq_some_iff.mp hb).1
    omega
theorem gl_comm {X Y : va_W} (kk : gc_W p l e R s m args below meth c D A nL Q (Y ++ X) pc L st kc ks) : gc_W p l e R s m args below meth c D A nL Q (X ++ Y) pc L st kc ks := fun H locs ls hP hD hS hl => kk H locs ls (va_P_comm hP) (va_D_comm hD) hS hl
theorem va_D_fst {A : Nat → Prop} {X Y : va_W} (h : X.map (·.1) = Y.map (·.1)) (hD : va_D A X) : va_D A Y := by
  have key : ∀ (k : Nat) (y : Nat × va_E), Y[k]? = some y → ∃ x, X[k]? = some x ∧ x.1 = y.1 := by
    intro k y hy
    have h1 : (X.map (·.1))[k]? = some y.1 := by rw [h, List.getElem?_map, hy]; rfl
    rw [List.getElem?_map] at h1
    cases hx : X[k]? with
    | none => rw [hx] at h1; cases h1
    | some x => rw [hx] at h1; exact ⟨x, rfl, Option.some.inj h1⟩
  refine ⟨fun i j a b ha hb hab => ?_, fun k a ha => ?_⟩
  · obtain ⟨x, h1, h2⟩ := key i a ha
    obtain ⟨z, h3, h4⟩ := key j b hb
    exact hD.1 i j x z h1 h3 (by rw [h2, h4]; exact hab)
  · obtain ⟨x, h1, h2⟩ := key k a ha
    rw [← h2]; exact hD.2 k x h1
theorem gq_ws_fst {ad : Nat → Nat} {M M2 : gq_M} : ∀ (k : Nat) (mt : List gq_T), (gq_ws cI cZ ad M k mt).map (·.1) = (gq_ws cI cZ ad M2 k mt).map (·.1)
  | _, [] => rfl
  | k, t :: r => by show ad k :: _ = ad k :: _; rw [gq_ws_fst (k + 1) r]
theorem gl_sub {ad : Nat → Nat} {mt : List gq_T} {M : gq_M} {sz q : Nat} (h : gq_A ad mt.length sz q) : va_A (gq_ws cI cZ ad M 0 mt) sz q := by
  rcases h with ⟨k, hk, rfl⟩ | h
  · exact Or.inl ⟨k, _, gq_ws_get (List.getElem?_eq_getElem hk)⟩
  · exact Or.inr h
/-- the parts of a world that a call speaks of -/
theorem gl_part {ad : Nat → Nat} {mt : List gq_T} {M : gq_M} {X : va_W} {H : Heap} (hP : va_P D vwCl (X ++ gq_ws cI cZ ad M 0 mt) H) (hD : va_D A (X ++ gq_ws cI cZ ad M 0 mt)) : va_P D vwCl (gq_ws cI cZ ad M 0 mt) H ∧ gq_inj ad mt.length := by
  refine ⟨fun k x hx => hP (X.length + k) x (by rw [List.getElem?_append_right (by omega), Nat.add_sub_cancel_left]; exact hx), fun i j hi hj h => ?_⟩
  have g : ∀ i (hi : i < mt.length), (X ++ gq_ws cI cZ ad M 0 mt)[X.length + i]? = some (ad i, gq_e cI cZ ad (M i) mt[i]) := fun i hi => by
    rw [List.getElem?_append_right (by omega), Nat.add_sub_cancel_left]
    exact gq_ws_get (List.getElem?_eq_getElem hi)
  have := hD.1 _ _ _ _ (g i hi) (g j hj) h
  omega
theorem gl_back {ad : Nat → Nat} {mt : List gq_T} {M M' : gq_M} {X : va_W} {H H1 : Heap} {H0 : Heap} {locs : List Loc} (hP : va_P D vwCl (X ++ gq_ws cI cZ ad M 0 mt) H) (hD : va_D A (X ++ gq_ws cI cZ ad M 0 mt)) (hS : va_S A H0 H locs) (hA : ∀ q, H0.size ≤ q → A q)
    (hk : ∀ q : Nat, q < H.size → ¬ gq_A ad mt.length H.size q → H1[q]? = H[q]?) (hP1 : va_P D vwCl (gq_ws cI cZ ad M' 0 mt) H1) : va_P D vwCl (X ++ gq_ws cI cZ ad M' 0 mt) H1 ∧ va_D A (X ++ gq_ws cI cZ ad M' 0 mt) := by
  refine gc_frame hP hD (fun q h1 h2 => hk q h1 (fun h3 => h2 (gl_sub h3))) (gc_freeA hD hS hA) hP1 ?_
  exact gq_D ⟨(gl_part hP hD).2, fun k hk => gl_sub (Or.inl ⟨k, hk, rfl⟩)⟩
variable {y : MethodName} {bytes : ByteArray} {maxL : Nat} {ret : Option FieldType} {dm : Nat} {index q n : Nat} {as stk : List Value} {v : Int32}
theorem gl_Ale {ad : Nat → Nat} {mt : List gq_T} {M : gq_M} {X : va_W} {H H0 : Heap} {locs : List Loc} (hD : va_D A (X ++ gq_ws cI cZ ad M 0 mt)) (hS : va_S A H0 H locs) (hA : ∀ q, H0.size ≤ q → A q) : ∀ q, gq_A ad mt.length H.size q → A q := fun q h => gc_freeA hD hS hA q (gl_sub h)
theorem gl_Vi {X : va_W} {ad : Nat → Nat} {mt : List gq_T} {M M' : gq_M} (hC : gc_C p s m args meth c D A cI cZ own cc nL) (hc : gq_Ci l D cI cZ ad mt y bytes maxL ret dm (.ref (ad q) :: as) M v M') (hm : gq_MV y bytes maxL ret n) (hl2 : Cond.methodLink own index y ∈ gT) (hq : gq_ob mt q y.cls) (hn : as.length = n) (hst : stk = as.reverse ++ .ref (ad q) :: st) (hW : (st.map fun v => v.category).sum ≤ 8) (hR : dm + 1 ≤ R.frames ∧ 8 + (maxL + 11) + 37 * dm ≤ R.locals) (hk : kc ≤ R.cells ∧ ks ≤ R.slots) (d : decode cc pc = .ok (.invokevirtual index, 3)) (kk : gc_W p l e R s m args below meth c D A nL Q (X ++ gq_ws cI cZ ad M' 0 mt) (pc + 3) L (.int v :: st) kc ks) : gc_W p l e R s m args below meth c D A nL Q (X ++ gq_ws cI cZ ad M 0 mt) pc L stk kc ks := by
  intro H locs ls hP hD hS hl
  subst hst
  obtain ⟨hPc, hinj⟩ := gl_part hP hD
  have hF := gl_Ale hD hS hC.2.2.2.2.2.2.2
  obtain ⟨ci, fd, r, g1, g2, g3⟩ := hq
  have hrec := va_recv hC.2.2.2.2.2.1 hPc g2 (gq_ws_get g1)
  rw [g3] at hrec
  refine va_calli (va_runV (As := as) (rest := st) ⟨hC.1, hC.2.1, hC.2.2.1, hC.2.2.2.1, hC.2.2.2.2.1⟩ (hc hinj H.size) ⟨callB_of n hC.2.2.2.2.1 (gq_goodC hm.1) rfl rfl rfl (hC.2.2.2.2.1 _ hm.2.1) (hC.2.2.2.2.1 _ hl2) hm.2.2.2.2 hR, hC.2.2.2.2.1 _ hm.2.2.1, hC.2.2.2.2.1 _ hm.2.2.2.1⟩ ⟨gq_blind, hrec, fun U hU hW => ⟨rfl, by rw [hU], by rw [hU]; exact hPc, va_K.moved hW.alike hC.2.2.2.2.2.1⟩⟩ rfl hn hl.1 rfl (lv_room (pc := pc) (ls := ls) (rest := st) (m := m) hW) d ⟨by omega, by omega⟩) hS (fun q _ h => hF q h) hF (fun r u t H1 locs1 ht hvm hw hB hz hk hS1 => ?_)
  obtain ⟨hP2, hD2⟩ := gl_back hP hD hS hC.2.2.2.2.2.2.2 hk (by rw [← ht]; exact hB.1)
  subst hw; exact kk H1 locs1 ls hP2 hD2 hS1 hl
theorem gl_Vv {X : va_W} {ad : Nat → Nat} {mt : List gq_T} {M M' : gq_M} (hC : gc_C p s m args meth c D A cI cZ own cc nL) (hc : gq_Cv l D cI cZ ad mt y bytes maxL dm (.ref (ad q) :: as) M M') (hm : gq_MV y bytes maxL none n) (hl2 : Cond.methodLink own index y ∈ gT) (hq : gq_ob mt q y.cls) (hn : as.length = n) (hst : stk = as.reverse ++ .ref (ad q) :: st) (hW : (st.map fun v => v.category).sum ≤ 8) (hR : dm + 1 ≤ R.frames ∧ 8 + (maxL + 11) + 37 * dm ≤ R.locals) (hk : kc ≤ R.cells ∧ ks ≤ R.slots) (d : decode cc pc = .ok (.invokevirtual index, 3)) (kk : gc_W p l e R s m args below meth c D A nL Q (X ++ gq_ws cI cZ ad M' 0 mt) (pc + 3) L st kc ks) : gc_W p l e R s m args below meth c D A nL Q (X ++ gq_ws cI cZ ad M 0 mt) pc L stk kc ks := by
  intro H locs ls hP hD hS hl
  subst hst
  obtain ⟨hPc, hinj⟩ := gl_part hP hD
  have hF := gl_Ale hD hS hC.2.2.2.2.2.2.2
  obtain ⟨ci, fd, r, g1, g2, g3⟩ := hq
  have hrec := va_recv hC.2.2.2.2.2.1 hPc g2 (gq_ws_get g1)
  rw [g3] at hrec
  refine va_callv (va_runV (As := as) (rest := st) ⟨hC.1, hC.2.1, hC.2.2.1, hC.2.2.2.1, hC.2.2.2.2.1⟩ (hc hinj H.size) ⟨callB_of n hC.2.2.2.2.1 (gq_goodC hm.1) rfl rfl rfl (hC.2.2.2.2.1 _ hm.2.1) (hC.2.2.2.2.1 _ hl2) hm.2.2.2.2 hR, hC.2.2.2.2.1 _ hm.2.2.1, hC.2.2.2.2.1 _ hm.2.2.2.1⟩ ⟨gq_blind, hrec, fun U hU hW => ⟨rfl, by rw [hU], by rw [hU]; exact hPc, va_K.moved hW.alike hC.2.2.2.2.2.1⟩⟩ rfl hn hl.1 rfl (lv_room (pc := pc) (ls := ls) (rest := st) (m := m) hW) d ⟨by omega, by omega⟩) hS (fun q _ h => hF q h) hF (fun u t H1 locs1 ht hvm hw hB hz hk hS1 => ?_)
  obtain ⟨hP2, hD2⟩ := gl_back hP hD hS hC.2.2.2.2.2.2.2 hk (by rw [← ht]; exact hB.1)
  exact kk H1 locs1 ls hP2 hD2 hS1 hl
def gl_K (D : va_G) (cI cZ cL : ClassId) (U : State) : Prop := va_K D vwCl [(cI, .int), (cZ, .boolean), (cL, .long)] U
theorem gl_Kq {U : State} (h : gl_K D cI cZ cL U) : gq_K D cI cZ U := va_K.sub h [0, 1] rfl
/-- the three exceptions are none of each other's -/
def gl_N (U : State) : Prop := ∀ a b : Nat, 1 ≤ a → a ≤ 3 → 1 ≤ b → b ≤ 3 → a ≠ b → va_Nc (gq_exn a) (gq_exn b) U
theorem gl_N.moved {u U : State} (hvm : u.vm.Alike U.vm) (h : gl_N u) : gl_N U := fun a b h1 h2 h3 h4 h5 => va_Nc.moved hvm (h a b h1 h2 h3 h4 h5)
/-- the law's answer cell -/
def gl_out (cL : ClassId) (o : Nat) (ov : Int64) : Nat × va_E := (o, .inl (cL, 1, .inr (.inl (fun _ => ov))))
theorem gl_lald {X : va_W} {oa : Nat} {ov : Int64} (hC : gc_C p s m args meth c D A cI cZ own cc nL) (hKL : gl_K D cI cZ cL s) (d : decode cc pc = .ok (.laload, 1)) (kk : gc_W p l e R s m args below meth c D A nL Q (gl_out cL oa ov :: X) (pc + 1) L (.long ov :: st) kc ks) : gc_W p l e R s m args below meth c D A nL Q (gl_out cL oa ov :: X) pc L (.int 0 :: .ref oa :: st) kc ks := fun H locs ls hP hD hS hl =>
  va_lald hC.1 hC.2.1 hKL hP 0 2 (n := 1) (f := fun _ => ov) rfl rfl (i := 0) (by unfold vp_in; decide) d (kk H locs ls hP hD hS hl)
theorem gl_last {X : va_W} {oa : Nat} {ov x : Int64} (hC : gc_C p s m args meth c D A cI cZ own cc nL) (hKL : gl_K D cI cZ cL s) (d : decode cc pc = .ok (.lastore, 1)) (kk : gc_W p l e R s m args below meth c D A nL Q (gl_out cL oa x :: X) (pc + 1) L st kc ks) : gc_W p l e R s m args below meth c D A nL Q (gl_out cL oa ov :: X) pc L (.long x :: .int 0 :: .ref oa :: st) kc ks := by
  intro H locs ls hP hD hS hl
  refine va_last hC.1 hC.2.1 hKL hP hD hS 0 2 (n := 1) (f := fun _ => ov) rfl rfl (i := 0) (by unfold vp_in; decide) d (fun H1 locs1 hP1 hD1 hS1 => ?_)
  refine kk H1 locs1 ls (fun k q hq => ?_) (va_D_fst (X := gl_out cL oa ov :: X) (Y := gl_out cL oa x :: X) rfl hD) hS1 hl
  cases k with
  | zero =>
    cases hq
    have h1 := hP1 0 _ rfl
    have h2 : arrV cL 1 (fun j => .long (vp_updL (fun _ => ov) (0 : Int32).toNatClampNeg x j)) = arrV cL 1 (fun _ => .long x) := by
      unfold arrV
      congr 1
    show H1[oa]? = some (arrV cL 1 (fun _ => .long x))
    rw [← h2]; exact h1
  | succ k => exact hP1 (k + 1) q hq
def gc_T (p : Program) (l : Launch) (e : Env) (R : Room) (s : State) (m : MethodId) (args : Array Value) (below : List Frame) (meth : Method) (c : Code) (D : va_G) (A : Nat → Prop) (nL : Nat) (Q : State → Prop) (ws : va_W) (pc : Nat) (L : List (Nat × Value)) (st : List Value) (ex : Nat) (kc ks : Nat) : Prop :=
  ∀ (H : Heap) (locs : List Loc) (ls : Array Slot) (q9 : Addr) (ce : Cell), va_P D vwCl ws H → va_D A ws → va_S A s.heap H locs → lv_has ls nL L → H[q9]? = some ce → ce.vm = .none → s.vm.findClass (gq_exn ex) = some ce.cls → vx_W p l e R s m args below meth c H locs kc ks Q (F0 m pc ls st) q9
theorem gl_catch {ex : Nat} {hh : List (Nat × Nat × Nat × Nat)} (hC : gc_C p s m args meth c D A cI cZ own cc nL) (hZ : gq_Z A s) (htab : c.exceptionTable.toList = tableOf hh) (pre : List ExceptionTableEntry) (x : ExceptionTableEntry) (suf : List ExceptionTableEntry) (hs : tableOf hh = pre ++ x :: suf)
    (hpass : ∀ z ∈ pre, z.catchType ≠ 0 ∧ ∃ k : Nat, Cond.classLink own z.catchType (gq_exn k) ∈ gT ∧ va_Nc (gq_exn ex) (gq_exn k) s) (hx : covers x pc = true) (h0 : x.catchType ≠ 0) (hl2 : Cond.classLink own x.catchType (gq_exn ex) ∈ gT) (kk : ∀ q9 : Nat, gc_W p l e R s m args below meth c D A nL Q ws x.handlerPc L [.ref q9] kc ks) : gc_T p l e R s m args below meth c D A nL Q ws pc L st ex kc ks := fun H locs ls q9 ce hP hD hS hl hce hcv hcl =>
  vx_catch hC.2.2.2.1 pre x suf (htab.trans hs) (fun z hz => Or.inr ⟨(hpass z hz).1, by obtain ⟨k, h1, h2⟩ := (hpass z hz).2; exact ⟨_, hC.2.2.2.2.1 _ h1, h2⟩⟩) hx h0 (hC.2.2.2.2.1 _ hl2) (va_Nw.use rfl (hZ.2.2.1 _ gq_xw_castable)) hce hcv hcl (kk q9 H locs ls hP hD hS hl)
theorem gl_pre {X : va_W} {ad : Nat → Nat} {mt : List gq_T} {M : gq_M} (hC : gc_C p s m args meth c D A cI cZ own cc nL) (hZ : gq_Z A s) {H : Heap} {locs : List Loc} (hP : va_P D vwCl (X ++ gq_ws cI cZ ad M 0 mt) H) (hD : va_D A (X ++ gq_ws cI cZ ad M 0 mt)) (hS : va_S A s.heap H locs) (as : List Value) : ∀ U : State, U.heap = H → s.WarmedH U.vm → gq_Px D cI cZ ad mt as M H.size as.toArray U :=
  fun U hU hW => ⟨rfl, by rw [hU], ⟨by rw [hU]; exact (gl_part hP hD).1, va_K.moved hW.alike hC.2.2.2.2.2.1⟩, gq_Z_to hZ (by rw [hU]; exact hS.2.1) hW (gl_Ale hD hS hC.2.2.2.2.2.2.2)⟩
theorem gl_Xi {X : va_W} {ad : Nat → Nat} {mt : List gq_T} {M M' : gq_M} {ex : Nat} (hC : gc_C p s m args meth c D A cI cZ own cc nL) (hZ : gq_Z A s) (hc : gq_Xi l D cI cZ ad mt y bytes maxL ret dm (.ref (ad q) :: as) M ex v M') (hm : gq_MV y bytes maxL ret n) (hl2 : Cond.methodLink own index y ∈ gT) (hq : gq_ob mt q y.cls) (hn : as.length = n) (hst : stk = as.reverse ++ .ref (ad q) :: st) (hW : (st.map fun v => v.category).sum ≤ 8) (hR : dm + 1 ≤ R.frames ∧ 8 + (maxL + 11) + 37 * dm ≤ R.locals) (hk : kc + 1 ≤ R.cells ∧ ks + 6 ≤ R.slots) (d : decode cc pc = .ok (.invokevirtual index, 3))
    (kk : ex = 0 → gc_W p l e R s m args below meth c D A nL Q (X ++ gq_ws cI cZ ad M' 0 mt) (pc + 3) L (.int v :: st) (kc + 1) (ks + 6)) (kx : ex ≠ 0 → gc_T p l e R s m args below meth c D A nL Q (X ++ gq_ws cI cZ ad M' 0 mt) pc L st ex (kc + 1) (ks + 6)) : gc_W p l e R s m args below meth c D A nL Q (X ++ gq_ws cI cZ ad M 0 mt) pc L stk kc ks := by
  intro H locs ls hP hD hS hl
  subst hst
  obtain ⟨hPc, hinj⟩ := gl_part hP hD
  have hF := gl_Ale hD hS hC.2.2.2.2.2.2.2
  obtain ⟨ci, fd, r, g1, g2, g3⟩ := hq
  have hrec := va_recv hC.2.2.2.2.2.1 hPc g2 (gq_ws_get g1)
  rw [g3] at hrec
  refine vx_calli (vx_runV (As := as) (rest := st) ⟨hC.1, hC.2.1, hC.2.2.1, hC.2.2.2.1, hC.2.2.2.2.1⟩ (hc hinj H.size) ⟨callB_of n hC.2.2.2.2.1 (gq_goodC hm.1) rfl rfl rfl (hC.2.2.2.2.1 _ hm.2.1) (hC.2.2.2.2.1 _ hl2) hm.2.2.2.2 hR, hC.2.2.2.2.1 _ hm.2.2.1, hC.2.2.2.2.1 _ hm.2.2.2.1⟩ ⟨gq_blindX, hrec, gl_pre hC hZ hP hD hS (.ref (ad q) :: as)⟩ rfl hn hl.1 rfl (lv_room (pc := pc) (ls := ls) (rest := st) (m := m) hW) d hk) hS (fun q _ h => hF q h) hF (fun q _ h => hF q h) (fun E ce q9 u t H1 locs1 ht hvm hp hB hz hk2 hS1 hce hcv hcl => ?_) (fun r u t H1 locs1 ht hvm hw hB hz hk hS1 => ?_)
  · obtain ⟨hP2, hD2⟩ := gl_back hP hD hS hC.2.2.2.2.2.2.2 hk2 (by rw [← ht]; exact hB.2.1)
    exact kx hp H1 locs1 ls q9 ce hP2 hD2 hS1 hl hce hcv (by rw [← hB.1]; exact hcl)
  · obtain ⟨hP2, hD2⟩ := gl_back hP hD hS hC.2.2.2.2.2.2.2 hk (by rw [← ht]; exact hB.1)
    obtain ⟨hw1, hw2⟩ := hw; subst hw2; exact kk hw1 H1 locs1 ls hP2 hD2 hS1 hl
theorem gl_Xv {X : va_W} {ad : Nat → Nat} {mt : List gq_T} {M M' : gq_M} {ex : Nat} (hC : gc_C p s m args meth c D A cI cZ own cc nL) (hZ : gq_Z A s) (hc : gq_Xv l D cI cZ ad mt y bytes maxL dm (.ref (ad q) :: as) M ex M') (hm : gq_MV y bytes maxL none n) (hl2 : Cond.methodLink own index y ∈ gT) (hq : gq_ob mt q y.cls) (hn : as.length = n) (hst : stk = as.reverse ++ .ref (ad q) :: st) (hW : (st.map fun v => v.category).sum ≤ 8) (hR : dm + 1 ≤ R.frames ∧ 8 + (maxL + 11) + 37 * dm ≤ R.locals) (hk : kc + 1 ≤ R.cells ∧ ks + 6 ≤ R.slots) (d : decode cc pc = .ok (.invokevirtual index, 3))
    (kk : ex = 0 → gc_W p l e R s m args below meth c D A nL Q (X ++ gq_ws cI cZ ad M' 0 mt) (pc + 3) L st (kc + 1) (ks + 6)) (kx : ex ≠ 0 → gc_T p l e R s m args below meth c D A nL Q (X ++ gq_ws cI cZ ad M' 0 mt) pc L st ex (kc + 1) (ks + 6)) : gc_W p l e R s m args below meth c D A nL Q (X ++ gq_ws cI cZ ad M 0 mt) pc L stk kc ks := by
  intro H locs ls hP hD hS hl
  subst hst
  obtain ⟨hPc, hinj⟩ := gl_part hP hD
  have hF := gl_Ale hD hS hC.2.2.2.2.2.2.2
  obtain ⟨ci, fd, r, g1, g2, g3⟩ := hq
  have hrec := va_recv hC.2.2.2.2.2.1 hPc g2 (gq_ws_get g1)
  rw [g3] at hrec
  refine vx_callv (vx_runV (As := as) (rest := st) ⟨hC.1, hC.2.1, hC.2.2.1, hC.2.2.2.1, hC.2.2.2.2.1⟩ (hc hinj H.size) ⟨callB_of n hC.2.2.2.2.1 (gq_goodC hm.1) rfl rfl rfl (hC.2.2.2.2.1 _ hm.2.1) (hC.2.2.2.2.1 _ hl2) hm.2.2.2.2 hR, hC.2.2.2.2.1 _ hm.2.2.1, hC.2.2.2.2.1 _ hm.2.2.2.1⟩ ⟨gq_blindX, hrec, gl_pre hC hZ hP hD hS (.ref (ad q) :: as)⟩ rfl hn hl.1 rfl (lv_room (pc := pc) (ls := ls) (rest := st) (m := m) hW) d hk) hS (fun q _ h => hF q h) hF (fun q _ h => hF q h) (fun E ce q9 u t H1 locs1 ht hvm hp hB hz hk2 hS1 hce hcv hcl => ?_) (fun u t H1 locs1 ht hvm hw hB hz hk hS1 => ?_)
  · obtain ⟨hP2, hD2⟩ := gl_back hP hD hS hC.2.2.2.2.2.2.2 hk2 (by rw [← ht]; exact hB.2.1)
    exact kx hp H1 locs1 ls q9 ce hP2 hD2 hS1 hl hce hcv (by rw [← hB.1]; exact hcl)
  · obtain ⟨hP2, hD2⟩ := gl_back hP hD hS hC.2.2.2.2.2.2.2 hk (by rw [← ht]; exact hB.1)
    exact kk hw H1 locs1 ls hP2 hD2 hS1 hl
/-! helpers: static methods with a table, which return an int -/
def gl_Pc (D : va_G) (cI cZ cL : ClassId) (as : List Value) (ws : va_W) (sz : Nat) : Array Value → State → Prop := va_Pc as (fun U => U.heap.size = sz ∧ va_P D vwCl ws U.heap ∧ gl_K D cI cZ cL U ∧ va_D (fun _ => True) ws ∧ gq_Z (va_A ws sz) U ∧ gl_N U)
theorem gl_blind {as : List Value} {sz : Nat} : FrameBlind (gl_Pc D cI cZ cL as ws sz) := fun a U g mk q => ⟨q.1, q.2.1, q.2.2.1, va_K.moved (u := U) (U := U.calling g mk a) (Vm.Alike.refl U.vm) q.2.2.2.1, q.2.2.2.2.1, gq_Z_call q.2.2.2.2.2.1, gl_N.moved (u := U) (U := U.calling g mk a) (Vm.Alike.refl U.vm) q.2.2.2.2.2.2⟩
def gl_Qi (D : va_G) (cI cZ cL : ClassId) (k : Int32) (ws' : va_W) (A : Nat → Prop) : Array Value → State → Outcome → State → Prop := va_Qi (fun r (_ : Unit) => r = k) (fun _ t => va_P D vwCl ws' t.heap ∧ gl_K D cI cZ cL t) A
def gl_Ct (l : Launch) (D : va_G) (cI cZ cL : ClassId) (y : MethodName) (cc : ByteArray) (nL : Nat) (hh : List (Nat × Nat × Nat × Nat)) (d : Nat) (as : List Value) (ws : va_W) (k : Int32) (ws' : va_W) : Prop :=
  ∀ sz, vx_Met l y (.codeWith y cc nL (some .int) hh :: gT) (gq_rx d) (gl_Pc D cI cZ cL as ws sz) (gl_Qi D cI cZ cL k ws' (va_A ws sz)) (vx_X (fun (_ : Unit) => False) (fun _ _ _ => True) (va_A ws sz)) 1 6 (va_A ws sz)
theorem gl_intro {ws' : va_W} {k : Int32} {hh : List (Nat × Nat × Nat × Nat)} (hy : plainName y.cls = true) (hown : y.cls = own) (hle : (lg_sl as).length ≤ nL)
    (body : ∀ (p : Program) (e : Env) (s : State) (m : MethodId) (below : List Frame) (meth : Method) (c : Code), gc_C p s m as.toArray meth c D (va_A ws s.heap.size) cI cZ own cc nL → meth.sig.returnType = some .int → gl_K D cI cZ cL s → gq_Z (va_A ws s.heap.size) s → gl_N s → c.exceptionTable.toList = tableOf hh →
      gc_W p l e (gq_rx dm) s m as.toArray below meth c D (va_A ws s.heap.size) nL (vx_MQ below (gl_Qi D cI cZ cL k ws' (va_A ws s.heap.size)) (vx_X (fun (_ : Unit) => False) (fun _ _ _ => True) (va_A ws s.heap.size)) as.toArray s 1 6 (va_A ws s.heap.size)) ws 0 (lv_args 0 as) [] 0 0) : gl_Ct l D cI cZ cL y cc nL hh dm as ws k ws' := by
  subst hown
  intro sz
  refine vx_ofWH (cc := cc) (maxL := nL) (ret := some .int) (hh := hh) hy rfl ?_
  intro p e s m args below meth c s₁ B hml hv
  obtain ⟨rfl, hsz, hP, hK, hD0, hZ, hN⟩ := hv
  subst hsz
  have hts := atoms_spec (ws := .codeWith y cc nL (some .int) hh :: gT) B.pre
  have h0 := body p e s m below meth c ⟨B.exec, B.bytes, hml, findClass_of_methodNamed B.named, fun w h => hts w (List.mem_cons_of_mem _ h), gl_Kq hK, B.notSynchronized, fun q h => Or.inr h⟩ B.returns hK hZ hN (vx_table (x := y) B (hts _ List.mem_cons_self)) s.heap [] _ hP hD0.self va_S.rf (lv_entry as hle)
  rw [lg_entry_eq]
  exact h0
theorem gl_iret {k : Int32} {XC : String → State → State → Prop} (hC : gc_C p s m args meth c D A cI cZ own cc nL) (hKL : gl_K D cI cZ cL s) (hr : meth.sig.returnType = some .int) (d : decode cc pc = .ok (.ireturn, 1)) (hkc : kc ≤ 1) (hks : ks ≤ 6) : gc_W p l e R s m args below meth c D A nL (vx_MQ below (gl_Qi D cI cZ cL k ws A) XC args s 1 6 A) ws pc L [.int k] kc ks :=
  gl_widen (kc2 := 1) (ks2 := 6) hkc hks (fun H locs ls hP hD hS hl => vx_ret (W.iret hC.1 hC.2.1 hr (fun t ht hW => ⟨⟨k, (), rfl, rfl, by show va_P _ _ _ t.heap; rw [ht]; exact hP, va_K.moved hW.alike hKL⟩, hS.F ht⟩) hS.2.2 d hC.2.2.2.2.2.2.1))
def gl_MH (y : MethodName) (cc : ByteArray) (nL : Nat) (hh : List (Nat × Nat × Nat × Nat)) (n : Nat) : Prop := Cond.codeWith y cc nL (some .int) hh ∈ gT ∧ Cond.initialized y.cls ∈ gT ∧ Cond.static y ∈ gT ∧ (y.cls ≠ "java/lang/invoke/MethodHandle" ∧ y.cls ≠ "java/lang/invoke/VarHandle" ∧ (parseMethodDescriptor y.desc).map (fun d => d.parameters.length) = some n)
theorem gl_H {X wc wc' : va_W} {k : Int32} {hh : List (Nat × Nat × Nat × Nat)} (hC : gc_C p s m args meth c D A cI cZ own cc nL) (hKL : gl_K D cI cZ cL s) (hZ : gq_Z A s) (hN : gl_N s) (hc : gl_Ct l D cI cZ cL y bytes maxL hh dm as wc k wc') (hfst : wc.map (·.1) = wc'.map (·.1)) (hm : gl_MH y bytes maxL hh n) (hl2 : Cond.methodLink own index y ∈ gT) (hn : as.length = n) (hst : stk = as.reverse ++ st) (hW : (st.map fun v => v.category).sum ≤ 8) (hR : dm + 1 ≤ R.frames ∧ 8 + (maxL + 11) + 37 * dm ≤ R.locals) (hk : kc + 1 ≤ R.cells ∧ ks + 6 ≤ R.slots) (d : decode cc pc = .ok (.invokestatic index, 3))
    (kk : gc_W p l e R s m args below meth c D A nL Q (X ++ wc') (pc + 3) L (.int k :: st) (kc + 1) (ks + 6)) : gc_W p l e R s m args below meth c D A nL Q (X ++ wc) pc L stk kc ks := by
  intro H locs ls hP hD hS hl
  subst hst
  have hPc : va_P D vwCl wc H := fun k x hx => hP (X.length + k) x (by rw [List.getElem?_append_right (by omega), Nat.add_sub_cancel_left]; exact hx)
  have hDc : va_D (fun _ => True) wc := ⟨fun i j x z hx hz h => by
    have := hD.1 (X.length + i) (X.length + j) x z (by rw [List.getElem?_append_right (by omega), Nat.add_sub_cancel_left]; exact hx) (by rw [List.getElem?_append_right (by omega), Nat.add_sub_cancel_left]; exact hz) h
    omega, fun _ _ _ => trivial⟩
  have hF := gc_freeA hD hS hC.2.2.2.2.2.2.2
  refine vx_calli (vx_runSX (As := as) (rest := st) (hh := hh) ⟨hC.1, hC.2.1, hC.2.2.1, hC.2.2.2.1, hC.2.2.2.2.1⟩ (hc H.size) ⟨⟨rfl, rfl, hR.1, hR.2, pay_in hC.2.2.2.2.1 (gq_goodC hm.1), List.mem_cons_self⟩, hC.2.2.2.2.1 _ hm.1, hC.2.2.2.2.1 _ hm.2.1, ⟨hm.2.2.2.1, hm.2.2.2.2.1⟩, fun sig h => by have h2 := hm.2.2.2.2.2; rw [h] at h2; exact (Option.some.inj h2).symm, hC.2.2.2.2.1 _ hl2, hC.2.2.2.2.1 _ hm.2.2.1⟩ ⟨gl_blind, fun U hU hW => ⟨rfl, by rw [hU], by rw [hU]; exact hPc, va_K.moved hW.alike hKL, hDc, gq_Z_to hZ (by rw [hU]; exact hS.2.1) hW hF, gl_N.moved hW.alike hN⟩⟩ rfl hn hl.1 rfl (lv_room (pc := pc) (ls := ls) (rest := st) (m := m) hW) d hk) hS (fun q _ h => hF q h) hF (fun q _ h => hF q h) (fun E ce q9 u t H1 locs1 ht hvm hp hB hz hk2 hS1 hce hcv hcl => hp.elim) (fun r u t H1 locs1 ht hvm hw hB hz hk2 hS1 => ?_)
  obtain ⟨hP2, hD2⟩ := gc_frame hP hD hk2 hF (w1 := wc') (by rw [← ht]; exact hB.1) (va_D_fst hfst (va_D.self hDc))
  subst hw
  exact kk H1 locs1 ls hP2 hD2 hS1 hl
def gq_y {β : Type} (o : Option (Nat × Int32 × gq_M)) (f : Nat → Int32 → gq_M → Option β) : Option β := match o with
  | some (k, v, M) => f k v M
  | none => none
theorem gq_y_i {β : Type} {o : Option (Nat × Int32 × gq_M)} {f : Nat → Int32 → gq_M → Option β} {r : β} (h : gq_y o f = some r) : ∃ (k : Nat) (v : Int32) (M : gq_M), o = some (k, v, M) ∧ f k v M = some r := by
  cases o with
  | none => cases h
  | some q => exact ⟨q.1, q.2.1, q.2.2, rfl, h⟩
theorem gl_sld {b Ln : Nat} {xs : Nat → Int32} {i : Int32} (hC : gc_C p s m args meth c D A cI cZ own cc nL) (hX : va_X b Ln xs s s.heap) (hbl : b < s.heap.size) (hbA : ¬ A b) (hin : vp_in i Ln) (d : decode cc pc = .ok (.iaload, 1)) (kk : gc_W p l e R s m args below meth c D A nL Q ws (pc + 1) L (.int (xs i.toNatClampNeg) :: st) kc ks) : gc_W p l e R s m args below meth c D A nL Q ws pc L (.int i :: .ref b :: st) kc ks := fun H locs ls hP hD hS hl => va_sld hC.1 hC.2.1 hX hbl hbA hS hin d (kk H locs ls hP hD hS hl)
theorem gl_slen {b Ln : Nat} {xs : Nat → Int32} (hC : gc_C p s m args meth c D A cI cZ own cc nL) (hX : va_X b Ln xs s s.heap) (hbl : b < s.heap.size) (hbA : ¬ A b) (d : decode cc pc = .ok (.arraylength, 1)) (kk : gc_W p l e R s m args below meth c D A nL Q ws (pc + 1) L (.int (nI Ln) :: st) kc ks) : gc_W p l e R s m args below meth c D A nL Q ws pc L (.ref b :: st) kc ks := fun H locs ls hP hD hS hl => va_slen hC.1 hC.2.1 hX hbl hbA hS d (kk H locs ls hP hD hS hl)
end GL
theorem wx_13 : Cond.classLink RL 13 (gq_exn 1) ∈ gT := gT_2 135 rfl rfl
theorem wx_15 : Cond.classLink RL 15 (gq_exn 2) ∈ gT := gT_2 136 rfl rfl
theorem wx_43 : Cond.classLink RL 43 (gq_exn 3) ∈ gT := gT_3 51 rfl rfl
theorem mH_L_quota : gl_MH yL_quota cL_quota 6 [(0, 12, 15, 13), (0, 12, 19, 15)] 5 := ⟨gT_2 134 rfl rfl, wn_L, wt_L_quota, ⟨by decide, by decide, by decide +kernel⟩⟩
theorem mH_L_aid : gl_MH yL_aid cL_aid 6 [(0, 12, 15, 13), (0, 12, 19, 15)] 5 := ⟨gT_3 6 rfl rfl, wn_L, wt_L_aid, ⟨by decide, by decide, by decide +kernel⟩⟩
theorem mH_L_kind : gl_MH yL_kind cL_kind 6 [(0, 9, 12, 13), (0, 9, 16, 15)] 5 := ⟨gT_3 14 rfl rfl, wn_L, wt_L_kind, ⟨by decide, by decide, by decide +kernel⟩⟩
theorem mH_L_step : gl_MH yL_step cL_step 5 [(0, 10, 13, 13), (0, 10, 17, 15)] 4 := ⟨gT_3 21 rfl rfl, wn_L, wt_L_step, ⟨by decide, by decide, by decide +kernel⟩⟩
theorem mH_L_buyer : gl_MH yL_buyer cL_buyer 6 [(0, 12, 15, 13), (0, 12, 19, 15)] 5 := ⟨gT_3 28 rfl rfl, wn_L, wt_L_buyer, ⟨by decide, by decide, by decide +kernel⟩⟩
theorem mH_L_power : gl_MH yL_power cL_power 5 [(0, 17, 20, 13)] 4 := ⟨gT_3 36 rfl rfl, wn_L, wt_L_power, ⟨by decide, by decide, by decide +kernel⟩⟩
theorem mH_L_line : gl_MH yL_line cL_line 5 [(0, 17, 20, 13)] 4 := ⟨gT_3 43 rfl rfl, wn_L, wt_L_line, ⟨by decide, by decide, by decide +kernel⟩⟩
theorem mH_L_land : gl_MH yL_land cL_land 9 [(0, 18, 21, 13), (0, 18, 25, 15), (0, 18, 29, 43)] 8 := ⟨gT_3 50 rfl rfl, wn_L, wt_L_land, ⟨by decide, by decide, by decide +kernel⟩⟩
theorem mH_L_open : gl_MH yL_open cL_open 3 [(0, 8, 11, 43)] 2 := ⟨gT_3 103 rfl rfl, wn_L, wt_L_open, ⟨by decide, by decide, by decide +kernel⟩⟩
theorem mH_L_end : gl_MH yL_end cL_end 3 [(0, 8, 11, 43)] 2 := ⟨gT_3 194 rfl rfl, wn_L, wt_L_end, ⟨by decide, by decide, by decide +kernel⟩⟩
theorem mH_L_press : gl_MH yL_press cL_press 5 [(0, 10, 13, 13), (0, 10, 17, 43)] 4 := ⟨gT_3 232 rfl rfl, wn_L, wt_L_press, ⟨by decide, by decide, by decide +kernel⟩⟩
theorem mH_L_take : gl_MH yL_take cL_take 6 [(0, 12, 15, 13), (0, 12, 19, 43)] 5 := ⟨gT_4 8 rfl rfl, wn_L, wt_L_take, ⟨by decide, by decide, by decide +kernel⟩⟩
theorem mH_L_pass : gl_MH yL_pass cL_pass 4 [(0, 9, 12, 15), (0, 9, 15, 43)] 3 := ⟨gT_4 37 rfl rfl, wn_L, wt_L_pass, ⟨by decide, by decide, by decide +kernel⟩⟩
theorem mH_L_lorry : gl_MH yL_lorry cL_lorry 6 [(0, 12, 15, 13), (0, 12, 19, 15), (0, 12, 23, 43)] 5 := ⟨gT_4 107 rfl rfl, wn_L, wt_L_lorry, ⟨by decide, by decide, by decide +kernel⟩⟩
theorem mH_L_pay : gl_MH yL_pay cL_pay 5 [(0, 10, 13, 13), (0, 10, 17, 15)] 4 := ⟨gT_4 119 rfl rfl, wn_L, wt_L_pay, ⟨by decide, by decide, by decide +kernel⟩⟩
theorem mH_L_claim : gl_MH yL_claim cL_claim 5 [(0, 10, 13, 13), (0, 10, 17, 43)] 4 := ⟨gT_4 130 rfl rfl, wn_L, wt_L_claim, ⟨by decide, by decide, by decide +kernel⟩⟩
theorem mH_L_settle : gl_MH yL_settle cL_settle 6 [(0, 12, 15, 13), (0, 12, 19, 15)] 5 := ⟨gT_4 141 rfl rfl, wn_L, wt_L_settle, ⟨by decide, by decide, by decide +kernel⟩⟩
theorem mH_L_told : gl_MH yL_told cL_told 5 [(0, 10, 13, 13), (0, 10, 17, 15)] 4 := ⟨gT_4 153 rfl rfl, wn_L, wt_L_told, ⟨by decide, by decide, by decide +kernel⟩⟩
theorem mH_L_lot : gl_MH yL_lot cL_lot 5 [(0, 10, 13, 13), (0, 10, 17, 15)] 4 := ⟨gT_4 161 rfl rfl, wn_L, wt_L_lot, ⟨by decide, by decide, by decide +kernel⟩⟩
theorem mH_L_hall : gl_MH yL_hall cL_hall 5 [(0, 10, 13, 13), (0, 10, 17, 15)] 4 := ⟨gT_4 169 rfl rfl, wn_L, wt_L_hall, ⟨by decide, by decide, by decide +kernel⟩⟩
theorem mH_L_account : gl_MH yL_account cL_account 5 [(0, 10, 13, 13), (0, 10, 17, 15)] 4 := ⟨gT_4 176 rfl rfl, wn_L, wt_L_account, ⟨by decide, by decide, by decide +kernel⟩⟩
theorem mH_L_ship : gl_MH yL_ship cL_ship 5 [(0, 10, 13, 13), (0, 10, 17, 15)] 4 := ⟨gT_4 183 rfl rfl, wn_L, wt_L_ship, ⟨by decide, by decide, by decide +kernel⟩⟩
theorem mH_L_kilos : gl_MH yL_kilos cL_kilos 4 [(0, 9, 12, 15)] 3 := ⟨gT_4 190 rfl rfl, wn_L, wt_L_kilos, ⟨by decide, by decide, by decide +kernel⟩⟩
theorem mH_L_kilosAnew : gl_MH yL_kilosAnew cL_kilosAnew 4 [(0, 9, 12, 15)] 3 := ⟨gT_4 197 rfl rfl, wn_L, wt_L_kilosAnew, ⟨by decide, by decide, by decide +kernel⟩⟩
theorem mH_L_average : gl_MH yL_average cL_average 5 [(0, 10, 13, 13), (0, 10, 17, 15)] 4 := ⟨gT_4 205 rfl rfl, wn_L, wt_L_average, ⟨by decide, by decide, by decide +kernel⟩⟩
theorem mH_L_loaded : gl_MH yL_loaded cL_loaded 4 [(0, 9, 12, 13)] 3 := ⟨gT_4 212 rfl rfl, wn_L, wt_L_loaded, ⟨by decide, by decide, by decide +kernel⟩⟩
