/-! pure: the first box of a lot; who is ahead -/
theorem r_firstOf_l {N l nb : Nat} {M : gq_M} (hl : nb ≤ 150) : ∀ (k n9 : Nat) (v : Int32), k ≤ nb → k < n9 → f_X10_firstOf_9 N n9 (nI l) v (nI k - 1) M = some (hd ((rg 0 k).filter (isO M l)) v, M) := by
  intro k
  induction k with
  | zero =>
    intro n9 v hk h9
    obtain ⟨n9, rfl⟩ : ∃ z, n9 = z + 1 := ⟨n9 - 1, by omega⟩
    show f_X10_firstOf_9_b N (f_X10_firstOf_9 N n9) (nI l) v (nI 0 - 1) M = _
    unfold f_X10_firstOf_9_b
    rw [if_pos (show (nI 0 - 1 : Int32) < 0 by decide)]
    rfl
  | succ k ih =>
    intro n9 v hk h9
    obtain ⟨n9, rfl⟩ : ∃ z, n9 = z + 1 := ⟨n9 - 1, by omega⟩
    have hp : ¬ nI k < 0 := nI_pos (by omega)
    have hm : nI k + -1 = nI k - 1 := (Int32.sub_eq_add_neg _ _).symm
    rw [nI_pred, rg_c, List.filter_append, Nat.zero_add, List.filter_cons]
    show f_X10_firstOf_9_b N (f_X10_firstOf_9 N n9) (nI l) v (nI k) M = _
    have step : f_X10_firstOf_9_b N (f_X10_firstOf_9 N n9) (nI l) v (nI k) M = f_X10_firstOf_9 N n9 (nI l) (if isO M l k = true then nI k else v) (nI k - 1) M := by
      generalize f_X10_firstOf_9 N n9 = F2
      unfold f_X10_firstOf_9_b f_X10_firstOf_37 f_X10_firstOf_38 isO
      by_cases c1 : M 26 k = nI l
      · by_cases c2 : M 19 k = 2
        · simp (disch := omega) only [hp, ↓reduceIte, ↓g_inN, ↓gq_l_e, nI_clamp, c1, c2, and_self, decide_true, hm]
        · simp (disch := omega) only [hp, ↓reduceIte, ↓g_inN, ↓gq_l_e, nI_clamp, c1, c2, and_false, decide_false, hm, Bool.false_eq_true]
      · simp (disch := omega) only [hp, ↓reduceIte, ↓g_inN, ↓gq_l_e, nI_clamp, c1, false_and, decide_false, hm, Bool.false_eq_true]
    rw [step, ih n9 _ (by omega) (by omega)]
    by_cases c : isO M l k = true
    · rw [if_pos c, if_pos c, List.filter_nil, hd_app1]
    · rw [if_neg c, if_neg c, List.filter_nil, List.append_nil]
theorem r_firstOf {N l nb : Nat} {M : gq_M} (hM : M 0 16 = nI nb) (hl : nb ≤ 150) (hN : 600 ≤ N) : f_X10_firstOf N (nI l) M = some (hd (offl nb (M 26) (M 19) l) (-1), M) := by
  unfold f_X10_firstOf
  rw [hM]
  exact r_firstOf_l hl nb N (-1) (Nat.le_refl _) (by omega)
theorem mod8 {h w : Nat} (hh : h < 3) (hw : w < 8) : nI (8 * h + w) - nI (8 * h + w) / 8 * 8 = nI w := by
  rw [show (8 : Int32) = nI 8 from rfl, nI_div (by omega) (by omega), nI_mul, nI_sub (by omega)]
  congr 1
  omega
theorem df_pos {a b : Nat} (ha : a < 1000000) (hb : b < 1000000) : (0 < nI a - nI b) = (b < a) := by
  apply propext
  rw [Int32.lt_iff_toInt_lt, ti_sub (by rw [nI_toInt (by omega), nI_toInt (by omega)]; omega) (by rw [nI_toInt (by omega), nI_toInt (by omega)]; omega), nI_toInt (by omega), nI_toInt (by omega), show (0 : Int32).toInt = 0 from rfl]
  omega
theorem df_zero {a b : Nat} (ha : a < 1000000) (hb : b < 1000000) : (nI a - nI b = 0) = (a = b) := by
  apply propext
  rw [← Int32.toInt_inj, ti_sub (by rw [nI_toInt (by omega), nI_toInt (by omega)]; omega) (by rw [nI_toInt (by omega), nI_toInt (by omega)]; omega), nI_toInt (by omega), nI_toInt (by omega), show (0 : Int32).toInt = 0 from rfl]
  omega
theorem df_nn {a b : Nat} (ha : a < 1000000) (hb : b < 1000000) : (0 ≤ nI a - nI b) = (b ≤ a) := by
  apply propext
  rw [Int32.le_iff_toInt_le, ti_sub (by rw [nI_toInt (by omega), nI_toInt (by omega)]; omega) (by rw [nI_toInt (by omega), nI_toInt (by omega)]; omega), nI_toInt (by omega), nI_toInt (by omega), show (0 : Int32).toInt = 0 from rfl]
  omega
theorem b_ahead {β : Type} {N h j b p q t u : Nat} {M : gq_M} {F : Int32 → gq_M → Option β} (hh : h < 3) (hj : j < 8) (hb : b < 8) (h1 : M 95 (8 * h + j) = nI p) (h2 : M 95 (8 * h + b) = nI q) (h3 : M 97 (8 * h + j) = nI t) (h4 : M 97 (8 * h + b) = nI u) (hp : p ≤ 10000) (hq : q ≤ 10000) (ht : t ≤ 100000) (hu : u ≤ 100000) : gq_b (f_X7_isAhead N (nI h) (nI j) (nI b) M) F = F (bI (q < p ∨ p = q ∧ t < u)) M := by
  skip
  skip
  skip
  unfold f_X7_isAhead f_X7_isAhead_57 f_X7_isAhead_61 f_X7_isAhead_62 f_X7_priceOf f_X7_placeOf
  by_cases c1 : q < p
  · rw [bI_t (Or.inl c1)]
    have x1 := y1.trans (eq_true c1)
    sorry
  · have x1 := y1.trans (eq_false c1)
    by_cases c2 : p = q
    · have x2 := y2.trans (eq_true c2)
      by_cases c3 : u ≤ t
      · rw [bI_f (by omega)]
        have x3 := y3.trans (eq_true c3)
        sorry
      · rw [bI_t (by omega)]
        have x3 := y3.trans (eq_false c3)
        sorry
    · rw [bI_f (by omega)]
      have x2 := y2.trans (eq_false c2)
      sorry

