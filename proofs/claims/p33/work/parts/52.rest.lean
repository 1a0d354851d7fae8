/-! pure: a lot's rest is withdrawn -/
theorem rg_not {i k : Nat} : i ∉ rg (i + 1) k := fun h => by have := (rg_m.mp h).1; omega
def isO (R : gq_M) (l b : Nat) : Bool := decide (R 26 b = nI l ∧ R 19 b = 2)
theorem offl_eq (nb l : Nat) (R : gq_M) : offl nb (R 26) (R 19) l = (rg 0 nb).filter (isO R l) := rfl
def runC (N : Nat) : List Nat → gq_M → gq_M → Prop
  | [], C, C2 => C2 = C
  | b :: t, C, C2 => ∃ C1, f_X9_withdraw N (nI b) C = some (0, C1) ∧ fr fwC C C1 ∧ runC N t C1 C2
theorem core_nb {nb nl nr tn : Nat} {C R : gq_M} (H : CORE nb nl nr tn C R) : C 34 13 = nI nb ∧ R 0 16 = nI nb ∧ nb ≤ 150 := H.1
theorem core_nl {nb nl nr tn : Nat} {C R : gq_M} (H : CORE nb nl nr tn C R) : C 61 7 = nI nl ∧ R 0 31 = nI nl ∧ nl ≤ nb := H.2.1
theorem core_nr {nb nl nr tn : Nat} {C R : gq_M} (H : CORE nb nl nr tn C R) : C 100 4 = nI nr ∧ R 0 49 = nI nr ∧ nr ≤ 20 := H.2.2.1
theorem core_tn {nb nl nr tn : Nat} {C R : gq_M} (H : CORE nb nl nr tn C R) : C 0 8 = nI tn ∧ R 0 0 = nI tn ∧ tn ≤ 100000 := H.2.2.2.1
set_option maxHeartbeats 1000000 in
theorem w_ref {N l nb nl nr tn : Nat} : ∀ (k i n9 : Nat) (acc : Int32) (C R : gq_M), CORE nb nl nr tn C R → i + k = nb → k < n9 → ∃ C2 R2, f_X10_withdrawsAll_4 N n9 (nI l) acc (nI i) R = some (acc + nI ((rg i k).filter (isO R l)).length, R2) ∧ runC N ((rg i k).filter (isO R l)) C C2 ∧ CORE nb nl nr tn C2 R2 ∧ (∀ b, b ∈ (rg i k).filter (isO R l) → R2 19 b ≠ 2) ∧ (∀ b, b ∉ (rg i k).filter (isO R l) → R2 19 b = R 19 b) ∧ fr fwC C C2 ∧ fr fwR R R2 := by
  intro k
  induction k with
  | zero =>
    intro i n9 acc C R H hi h9
    obtain ⟨n9, rfl⟩ : ∃ z, n9 = z + 1 := ⟨n9 - 1, by omega⟩
    have hM := (core_nb H).2.1
    have hl := (core_nb H).2.2
    have he : nb ≤ i := by omega
    refine ⟨C, R, ?_, rfl, H, fun b hb => absurd hb List.not_mem_nil, fun b _ => rfl, fr_rf _ _, fr_rf _ _⟩
    show f_X10_withdrawsAll_4_b N (f_X10_withdrawsAll_4 N n9) (nI l) acc (nI i) R = _
    unfold f_X10_withdrawsAll_4_b
    simp (disch := omega) only [hM, nI_leI, he, ↓reduceIte]
    exact congrArg (fun x => some (x, R)) (zadd acc).symm
  | succ k ih =>
    intro i n9 acc C R H hi h9
    obtain ⟨n9, rfl⟩ : ∃ z, n9 = z + 1 := ⟨n9 - 1, by omega⟩
    have hM := (core_nb H).2.1
    have hl := (core_nb H).2.2
    have he : ¬ nb ≤ i := by omega
    have hb : ∀ F, f_X10_withdrawsAll_4_b N F (nI l) acc (nI i) R = if isO R l i = true then gq_b (f_X10_withdraws N (nI i) R) (fun _ M9 => F (nI l) (acc + 1) (nI (i + 1)) M9) else F (nI l) acc (nI (i + 1)) R := by
      intro F
      unfold f_X10_withdrawsAll_4_b isO
      simp (disch := omega) only [hM, nI_leI, he, ↓reduceIte, g_inN, ↓gq_l_e, nI_clamp, f_X10_withdrawsAll_40, nI_1, decide_eq_true_eq]
      by_cases c1 : R 26 i = nI l
      · by_cases c2 : R 19 i = 2
        · simp only [c1, c2, and_self, ↓reduceIte]
        · simp only [c1, c2, and_false, ↓reduceIte]
      · simp only [c1, false_and, ↓reduceIte]
    show ∃ C2 R2, f_X10_withdrawsAll_4_b N (f_X10_withdrawsAll_4 N n9) (nI l) acc (nI i) R = _ ∧ _
    rw [hb, rg_s, List.filter_cons]
    by_cases c : isO R l i = true
    · have c' := of_decide_eq_true c
      obtain ⟨C1, R1, v, h1, h2, H1, hv, hst, f1, f2⟩ := s_withdraw (N := N) H (by omega) c'.2
      have hf : (rg (i + 1) k).filter (isO R1 l) = (rg (i + 1) k).filter (isO R l) := List.filter_congr fun b hb => by
        have := (rg_m.mp hb).1
        unfold isO
        rw [f2 26 (by decide), hst, upd_n (by omega)]
      obtain ⟨C2, R2, e1, e2, H2, e3, e4, f3, f4⟩ := ih (i + 1) n9 (acc + 1) C1 R1 H1 (by omega) (by omega)
      rw [hf] at e1 e2 e3 e4
      rw [if_pos c, if_pos c, h2, gq_b_s, e1]
      have hni : i ∉ (rg (i + 1) k).filter (isO R l) := fun h => rg_not (List.mem_filter.mp h).1
      refine ⟨C2, R2, ?_, ⟨C1, h1, f1, e2⟩, H2, fun b hb => ?_, fun b hb => ?_, fr_tr f1 f3, fr_tr f2 f4⟩
      · rw [List.length_cons, cadd, Nat.add_comm]
      · rcases List.mem_cons.mp hb with rfl | hb
        · rw [e4 _ hni, hst, upd_s]; exact hv
        · exact e3 b hb
      · rw [e4 b (fun h => hb (List.mem_cons_of_mem _ h)), hst, upd_n (k := b) (j := i) (fun h => hb (by rw [h]; exact List.mem_cons_self))]
    · rw [if_neg c, if_neg c]
      exact ih (i + 1) n9 acc C R H (by omega) (by omega)
set_option maxHeartbeats 1000000 in
theorem w_cls {N l f len : Nat} (hl : l < 150) (hlen : len ≤ 150) : ∀ (T : List Nat) (p n9 : Nat) (C C2 : gq_M), runC N T C C2 → (∀ i b, T[i]? = some b → C 73 (f + p + i) = nI b) → C 69 l = nI f → f + p + T.length ≤ 150 → p + T.length = len → T.length < n9 → f_X9_withdrawRest_11 N n9 (nI l) (nI len) (nI p) C = some (nI len, gq_up C2 69 l (nI (f + len))) := by
  intro T
  induction T with
  | nil =>
    intro p n9 C C2 hr ho hf h1 h2 h9
    obtain ⟨n9, rfl⟩ : ∃ z, n9 = z + 1 := ⟨n9 - 1, by have := h9; simp at this; omega⟩
    have he : len ≤ p := by simp at h2; omega
    cases (hr : C2 = C)
    show f_X9_withdrawRest_11_b N (f_X9_withdrawRest_11 N n9) (nI l) (nI len) (nI p) C = _
    unfold f_X9_withdrawRest_11_b
    simp (disch := omega) only [nI_leI, he, ↓reduceIte, ↓b_addN, hf, nI_add]
  | cons b t ih =>
    intro p n9 C C2 hr ho hf h1 h2 h9
    rw [List.length_cons] at h1 h2 h9
    obtain ⟨n9, rfl⟩ : ∃ z, n9 = z + 1 := ⟨n9 - 1, by omega⟩
    have he : ¬ len ≤ p := by omega
    obtain ⟨C1, e1, f1, hr⟩ := hr
    have hob : C 73 (f + p) = nI b := ho 0 b rfl
    show f_X9_withdrawRest_11_b N (f_X9_withdrawRest_11 N n9) (nI l) (nI len) (nI p) C = _
    unfold f_X9_withdrawRest_11_b f_X6_boxAt
    simp (disch := omega) only [nI_leI, he, ↓reduceIte, ↓b_atN, hf, nI_add, hob, ↓gq_b_s, e1, nI_1]
    refine ih (p + 1) n9 C1 C2 hr (fun i c hi => ?_) ?_ (by omega) (by omega) (by omega)
    · rw [f1 73 (by decide), show f + (p + 1) + i = f + p + (i + 1) by omega]
      exact ho (i + 1) c hi
    · rw [f1 69 (by decide)]; exact hf
theorem offl_len (nb l : Nat) (lo st : Nat → Int32) : (offl nb lo st l).length ≤ nb := cnt_rg 0 nb _
theorem s_withdrawRest {N l nb nl nr tn : Nat} {C R : gq_M} (H : CORE nb nl nr tn C R) (hN : 600 ≤ N) (hl : l < nl) (hg : K_seg1 (C 69) (C 71) (C 73) l (offl nb (R 26) (R 19) l)) : ∃ C2 R2, f_X9_withdrawRest N (nI l) C = some (nI (offl nb (R 26) (R 19) l).length, C2) ∧ f_X10_withdrawsAll N (nI l) R = some (nI (offl nb (R 26) (R 19) l).length, R2) ∧ CORE nb nl nr tn C2 R2 ∧ (∀ b, b ∈ offl nb (R 26) (R 19) l → R2 19 b ≠ 2) ∧ (∀ b, b ∉ offl nb (R 26) (R 19) l → R2 19 b = R 19 b) ∧ fr (69 :: fwC) C C2 ∧ fr fwR R R2 ∧ C2 69 = upd (C 69) l (C 71 l) := by
  have hnb := core_nb H
  have hnl := core_nl H
  have hlen := offl_len nb l (R 26) (R 19)
  obtain ⟨f, g1, g2, g3, g4⟩ := hg
  obtain ⟨C2, R2, e1, e2, H2, e3, e4, f1, f2⟩ := w_ref (N := N) (l := l) nb 0 N 0 C R H (by omega) (by omega)
  rw [← offl_eq] at e1 e2 e3 e4
  have e5 := w_cls (N := N) (l := l) (f := f) (len := (offl nb (R 26) (R 19) l).length) (by omega) (by omega) _ 0 N C C2 e2 (fun i b hi => g4 i b hi) g1 (by omega) (by omega) (by omega)
  refine ⟨gq_up C2 69 l (nI (f + (offl nb (R 26) (R 19) l).length)), R2, ?_, ?_, ?_, e3, e4, fr_up (fr_sub f1 fun a ha => List.mem_cons_of_mem _ ha) (by decide), f2, ?_⟩
  · unfold f_X9_withdrawRest f_X6_left
    simp (disch := omega) only [↓b_atN, g1, g2, ↓gq_b_s]
    rw [nI_sub (Nat.le_add_right _ _), Nat.add_sub_cancel_left]
    exact e5
  · unfold f_X10_withdrawsAll
    exact e1.trans (by rw [Int32.zero_add])
  · exact H2
  · rw [up_row, f1 69 (by decide), g2]

