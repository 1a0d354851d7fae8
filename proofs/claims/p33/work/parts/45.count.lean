/-! pure: loops that count, and the calls that look at them -/
theorem zadd (a : Int32) : a + nI 0 = a := by rw [nI_0]; exact Int32.add_zero a
theorem lsum0 (a : Int32) (i : Nat) (f : Nat → Int32) : a + lsum (rg i 0) f = a := Int32.add_zero a
theorem cadd (a : Int32) (c : Nat) : a + 1 + nI c = a + nI (1 + c) := by rw [← nI_add]; exact Int32.add_assoc a 1 (nI c)
theorem cadd0 (a : Int32) (c : Nat) : a + nI c = a + nI (0 + c) := by rw [Nat.zero_add]

set_option maxHeartbeats 1000000 in
theorem r_lotsOf_l {N : Nat} {M : gq_M} {nl h : Nat} (hM : M 0 31 = nI nl) (hl : nl ≤ 150) : ∀ (k i n9 : Nat) (acc : Int32), i + k = nl → k < n9 → f_X10_lotsOf_4 N n9 (nI h) acc (nI i) M = some (acc + nI (cnt (rg i k) (isNd (M 31) (M 32) h)), M) := by
  intro k
  induction k with
  | zero =>
    intro i n9 acc hi h9
    obtain ⟨n9, rfl⟩ : ∃ z, n9 = z + 1 := ⟨n9 - 1, by omega⟩
    have he : nl ≤ i := by omega
    show f_X10_lotsOf_4_b N (f_X10_lotsOf_4 N n9) (nI h) acc (nI i) M = _
    unfold f_X10_lotsOf_4_b
    simp (disch := omega) only [he, nI_leI, reduceIte, g_inN, g_bb0, g_bb1, nI_clamp, gq_b_s, gq_l_e, m_atN, m_putN, m_addN, nI_1, f_X10_lotsOf_37, f_X10_lotsOf_36, f_X10_lotsOf, hM]
    exact congrArg (fun x => some (x, M)) (zadd acc).symm
  | succ k ih =>
    intro i n9 acc hi h9
    obtain ⟨n9, rfl⟩ : ∃ z, n9 = z + 1 := ⟨n9 - 1, by omega⟩
    have he : ¬ nl ≤ i := by omega
    show f_X10_lotsOf_4_b N (f_X10_lotsOf_4 N n9) (nI h) acc (nI i) M = _
    unfold f_X10_lotsOf_4_b
    by_cases c1 : M 31 i = nI h
    · skip
      by_cases c2 : M 32 i = 0
      · skip
        simp (disch := omega) only [he, ih (i + 1) n9, nI_leI, reduceIte, g_inN, g_bb0, g_bb1, nI_clamp, gq_b_s, gq_l_e, m_atN, m_putN, m_addN, nI_1, f_X10_lotsOf_37, f_X10_lotsOf_36, f_X10_lotsOf, hM, eq_true c1, eq_true c2]
        simp only [rg_s, cnt_cons, isNd, eq_true c1, eq_true c2, decide_true, decide_false, and_self, and_true, true_and, false_and, and_false, reduceIte, Int32.add_zero, cadd, Nat.zero_add, Bool.false_eq_true]
      · skip
        simp (disch := omega) only [he, ih (i + 1) n9, nI_leI, reduceIte, g_inN, g_bb0, g_bb1, nI_clamp, gq_b_s, gq_l_e, m_atN, m_putN, m_addN, nI_1, f_X10_lotsOf_37, f_X10_lotsOf_36, f_X10_lotsOf, hM, eq_true c1, eq_false c2]
        simp only [rg_s, cnt_cons, isNd, eq_true c1, eq_false c2, decide_true, decide_false, and_self, and_true, true_and, false_and, and_false, reduceIte, Int32.add_zero, cadd, Nat.zero_add, Bool.false_eq_true]
    · skip
      simp (disch := omega) only [he, ih (i + 1) n9, nI_leI, reduceIte, g_inN, g_bb0, g_bb1, nI_clamp, gq_b_s, gq_l_e, m_atN, m_putN, m_addN, nI_1, f_X10_lotsOf_37, f_X10_lotsOf_36, f_X10_lotsOf, hM, eq_false c1]
      simp only [rg_s, cnt_cons, isNd, eq_false c1, decide_true, decide_false, and_self, and_true, true_and, false_and, and_false, reduceIte, Int32.add_zero, cadd, Nat.zero_add, Bool.false_eq_true]
theorem r_lotsOf {N : Nat} {M : gq_M} {nl h : Nat} (hM : M 0 31 = nI nl) (hl : nl ≤ 150) (hN : 600 ≤ N) : f_X10_lotsOf N (nI h) M = some (nI (cnt (rg 0 nl) (isNd (M 31) (M 32) h)), M) := by
  unfold f_X10_lotsOf
  rw [show (f_X10_lotsOf_4 N N (nI h) 0 0 M) = f_X10_lotsOf_4 N N (nI h) 0 (nI 0) M from rfl, r_lotsOf_l hM hl nl 0 N 0 (by omega) (by omega), Int32.zero_add]
set_option maxHeartbeats 1000000 in
theorem r_leftOf_l {N : Nat} {M : gq_M} {nb l : Nat} (hM : M 0 16 = nI nb) (hl : nb ≤ 150) : ∀ (k i n9 : Nat) (acc : Int32), i + k = nb → k < n9 → f_X10_leftOf_4 N n9 (nI l) acc (nI i) M = some (acc + nI (cnt (rg i k) (fun b => decide (M 26 b = nI l ∧ M 19 b = 2))), M) := by
  intro k
  induction k with
  | zero =>
    intro i n9 acc hi h9
    obtain ⟨n9, rfl⟩ : ∃ z, n9 = z + 1 := ⟨n9 - 1, by omega⟩
    have he : nb ≤ i := by omega
    show f_X10_leftOf_4_b N (f_X10_leftOf_4 N n9) (nI l) acc (nI i) M = _
    unfold f_X10_leftOf_4_b
    simp (disch := omega) only [he, nI_leI, reduceIte, g_inN, g_bb0, g_bb1, nI_clamp, gq_b_s, gq_l_e, m_atN, m_putN, m_addN, nI_1, f_X10_leftOf_38, f_X10_leftOf_37, f_X10_leftOf, hM]
    exact congrArg (fun x => some (x, M)) (zadd acc).symm
  | succ k ih =>
    intro i n9 acc hi h9
    obtain ⟨n9, rfl⟩ : ∃ z, n9 = z + 1 := ⟨n9 - 1, by omega⟩
    have he : ¬ nb ≤ i := by omega
    show f_X10_leftOf_4_b N (f_X10_leftOf_4 N n9) (nI l) acc (nI i) M = _
    unfold f_X10_leftOf_4_b
    by_cases c1 : M 26 i = nI l
    · skip
      by_cases c2 : M 19 i = 2
      · skip
        simp (disch := omega) only [he, ih (i + 1) n9, nI_leI, reduceIte, g_inN, g_bb0, g_bb1, nI_clamp, gq_b_s, gq_l_e, m_atN, m_putN, m_addN, nI_1, f_X10_leftOf_38, f_X10_leftOf_37, f_X10_leftOf, hM, eq_true c1, eq_true c2]
        simp only [rg_s, cnt_cons, eq_true c1, eq_true c2, decide_true, decide_false, and_self, and_true, true_and, false_and, and_false, reduceIte, Int32.add_zero, cadd, Nat.zero_add, Bool.false_eq_true]
      · skip
        simp (disch := omega) only [he, ih (i + 1) n9, nI_leI, reduceIte, g_inN, g_bb0, g_bb1, nI_clamp, gq_b_s, gq_l_e, m_atN, m_putN, m_addN, nI_1, f_X10_leftOf_38, f_X10_leftOf_37, f_X10_leftOf, hM, eq_true c1, eq_false c2]
        simp only [rg_s, cnt_cons, eq_true c1, eq_false c2, decide_true, decide_false, and_self, and_true, true_and, false_and, and_false, reduceIte, Int32.add_zero, cadd, Nat.zero_add, Bool.false_eq_true]
    · skip
      simp (disch := omega) only [he, ih (i + 1) n9, nI_leI, reduceIte, g_inN, g_bb0, g_bb1, nI_clamp, gq_b_s, gq_l_e, m_atN, m_putN, m_addN, nI_1, f_X10_leftOf_38, f_X10_leftOf_37, f_X10_leftOf, hM, eq_false c1]
      simp only [rg_s, cnt_cons, eq_false c1, decide_true, decide_false, and_self, and_true, true_and, false_and, and_false, reduceIte, Int32.add_zero, cadd, Nat.zero_add, Bool.false_eq_true]
theorem r_leftOf {N : Nat} {M : gq_M} {nb l : Nat} (hM : M 0 16 = nI nb) (hl : nb ≤ 150) (hN : 600 ≤ N) : f_X10_leftOf N (nI l) M = some (nI (offl nb (M 26) (M 19) l).length, M) := by
  unfold f_X10_leftOf
  rw [show (f_X10_leftOf_4 N N (nI l) 0 0 M) = f_X10_leftOf_4 N N (nI l) 0 (nI 0) M from rfl, r_leftOf_l hM hl nb 0 N 0 (by omega) (by omega), Int32.zero_add]
  rfl
theorem r_isOf {N : Nat} {M : gq_M} : ∀ s, s < 8 → ∀ w, w < 6 → f_X10_isOf N (nI s) (nI w) M = some (bI (inS (nI s) w = true), M) := by
  intro s hs w hw
  rcases (by omega : w = 0 ∨ w = 1 ∨ w = 2 ∨ w = 3 ∨ w = 4 ∨ w = 5) with rfl | rfl | rfl | rfl | rfl | rfl
  all_goals rcases (by omega : s = 0 ∨ s = 1 ∨ s = 2 ∨ s = 3 ∨ s = 4 ∨ s = 5 ∨ s = 6 ∨ s = 7) with rfl | rfl | rfl | rfl | rfl | rfl | rfl | rfl
  all_goals rfl
theorem m_sumOf {N : Nat} {M : gq_M} : ∀ s, s < 8 → f_X1_sumOf N (nI s) M = some (nI (smN (nI s)), M) := by
  intro s hs
  rcases (by omega : s = 0 ∨ s = 1 ∨ s = 2 ∨ s = 3 ∨ s = 4 ∨ s = 5 ∨ s = 6 ∨ s = 7) with rfl | rfl | rfl | rfl | rfl | rfl | rfl | rfl
  all_goals rfl
theorem r_isOf' {N w : Nat} {M : gq_M} {v : Int32} (h : rng 0 7 v) (hw : w < 6) : f_X10_isOf N v (nI w) M = some (bI (inS v w = true), M) := by
  obtain ⟨s, _, hs, rfl⟩ := h
  exact r_isOf s (by omega) w hw
theorem m_sumOf' {N : Nat} {M : gq_M} {v : Int32} (h : rng 0 7 v) : f_X1_sumOf N v M = some (nI (smN v), M) := by
  obtain ⟨s, _, hs, rfl⟩ := h
  exact m_sumOf s (by omega)
theorem smN_lt (v : Int32) : smN v < 6 ∧ 0 < smN v := by
  unfold smN
  split
  · omega
  · split
    · omega
    · split
      · omega
      · split
        · omega
        · split <;> omega
set_option maxHeartbeats 1000000 in
theorem r_kilos_l {N : Nat} {M : gq_M} {nb w : Nat} (hM : M 0 16 = nI nb) (hl : nb ≤ 150) (hs : rngs nb 0 7 (M 19)) (hw : w < 6) : ∀ (k i n9 : Nat) (acc : Int32), i + k = nb → k < n9 → f_X10_kilos_27 N n9 (nI w) acc (nI i) M = some (acc + lsum (rg i k) (fun b => if inS (M 19 b) w = true then M 17 b else 0), M) := by
  intro k
  induction k with
  | zero =>
    intro i n9 acc hi h9
    obtain ⟨n9, rfl⟩ : ∃ z, n9 = z + 1 := ⟨n9 - 1, by omega⟩
    have he : nb ≤ i := by omega
    have hsi : i < nb → rng 0 7 (M 19 i) := hs i
    show f_X10_kilos_27_b N (f_X10_kilos_27 N n9) (nI w) acc (nI i) M = _
    unfold f_X10_kilos_27_b
    simp (disch := omega) only [he, nI_leI, reduceIte, g_inN, g_bb0, g_bb1, nI_clamp, gq_b_s, gq_l_e, m_atN, m_putN, m_addN, nI_1, f_X10_kilos_59, f_X10_kilos_15, f_X10_kilos, hM, bI_z, Classical.not_not, ite_not]
    exact congrArg (fun x => some (x, M)) (lsum0 acc _ _).symm
  | succ k ih =>
    intro i n9 acc hi h9
    obtain ⟨n9, rfl⟩ : ∃ z, n9 = z + 1 := ⟨n9 - 1, by omega⟩
    have he : ¬ nb ≤ i := by omega
    have hsi : i < nb → rng 0 7 (M 19 i) := hs i
    show f_X10_kilos_27_b N (f_X10_kilos_27 N n9) (nI w) acc (nI i) M = _
    unfold f_X10_kilos_27_b
    by_cases c1 : inS (M 19 i) w = true
    · skip
      simp (disch := omega) only [he, ih (i + 1) n9, nI_leI, reduceIte, g_inN, g_bb0, g_bb1, nI_clamp, gq_b_s, gq_l_e, m_atN, m_putN, m_addN, nI_1, f_X10_kilos_59, f_X10_kilos_15, f_X10_kilos, hM, bI_z, Classical.not_not, ite_not, r_isOf' (hsi (by omega)) hw, eq_true c1]
      simp only [rg_s, lsum, eq_true c1, decide_true, decide_false, and_self, and_true, true_and, false_and, and_false, reduceIte, Int32.add_assoc, Int32.zero_add, Int32.add_zero, Bool.false_eq_true]
    · skip
      simp (disch := omega) only [he, ih (i + 1) n9, nI_leI, reduceIte, g_inN, g_bb0, g_bb1, nI_clamp, gq_b_s, gq_l_e, m_atN, m_putN, m_addN, nI_1, f_X10_kilos_59, f_X10_kilos_15, f_X10_kilos, hM, bI_z, Classical.not_not, ite_not, r_isOf' (hsi (by omega)) hw, eq_false c1]
      simp only [rg_s, lsum, eq_false c1, decide_true, decide_false, and_self, and_true, true_and, false_and, and_false, reduceIte, Int32.add_assoc, Int32.zero_add, Int32.add_zero, Bool.false_eq_true]
set_option maxHeartbeats 1000000 in
theorem m_kilosAnew_l {N : Nat} {M : gq_M} {nb w : Nat} (hM : M 34 13 = nI nb) (hl : nb ≤ 150) (hs : rngs nb 0 7 (M 44)) (hw : w < 6) : ∀ (k i n9 : Nat) (acc : Int32), i + k = nb → k < n9 → f_X9_kilosAnew_10 N n9 (nI w) acc (nI i) M = some (0, acc + lsum (rg i k) (fun b => if inS (M 44 b) w = true then M 40 b else 0), M) := by
  intro k
  induction k with
  | zero =>
    intro i n9 acc hi h9
    obtain ⟨n9, rfl⟩ : ∃ z, n9 = z + 1 := ⟨n9 - 1, by omega⟩
    have he : nb ≤ i := by omega
    have hsi : i < nb → rng 0 7 (M 44 i) := hs i
    have hsm := smN_lt (M 44 i)
    have hw0 : (nI w = 0) = (w = 0) := propext (nI_eq (b := 0) (by omega) (by omega))
    have hsw : (nI (smN (M 44 i)) = nI w) = (smN (M 44 i) = w) := propext (nI_eq (by omega) (by omega))
    show f_X9_kilosAnew_10_b N (f_X9_kilosAnew_10 N n9) (nI w) acc (nI i) M = _
    unfold f_X9_kilosAnew_10_b
    simp (disch := omega) only [he, nI_leI, reduceIte, g_inN, g_bb0, g_bb1, nI_clamp, gq_b_s, gq_l_e, m_atN, m_putN, m_addN, nI_1, f_X9_kilosAnew_57, f_X9_kilosAnew_43, f_X9_kilosAnew, hM]
    exact congrArg (fun x => some (0, x, M)) (lsum0 acc _ _).symm
  | succ k ih =>
    intro i n9 acc hi h9
    obtain ⟨n9, rfl⟩ : ∃ z, n9 = z + 1 := ⟨n9 - 1, by omega⟩
    have he : ¬ nb ≤ i := by omega
    have hsi : i < nb → rng 0 7 (M 44 i) := hs i
    have hsm := smN_lt (M 44 i)
    have hw0 : (nI w = 0) = (w = 0) := propext (nI_eq (b := 0) (by omega) (by omega))
    have hsw : (nI (smN (M 44 i)) = nI w) = (smN (M 44 i) = w) := propext (nI_eq (by omega) (by omega))
    show f_X9_kilosAnew_10_b N (f_X9_kilosAnew_10 N n9) (nI w) acc (nI i) M = _
    unfold f_X9_kilosAnew_10_b
    by_cases c1 : w = 0
    · skip
      by_cases c2 : smN (M 44 i) = w
      · skip
        simp (disch := omega) only [he, ih (i + 1) n9, nI_leI, reduceIte, g_inN, g_bb0, g_bb1, nI_clamp, gq_b_s, gq_l_e, m_atN, m_putN, m_addN, nI_1, f_X9_kilosAnew_57, f_X9_kilosAnew_43, f_X9_kilosAnew, hM, hw0, hsw, m_sumOf' (hsi (by omega)), eq_true c1, eq_true c2]
        simp only [rg_s, lsum, inS, decide_eq_true_eq, true_or, or_true, or_self, false_or, eq_true c1, eq_true c2, decide_true, decide_false, and_self, and_true, true_and, false_and, and_false, reduceIte, Int32.add_assoc, Int32.zero_add, Int32.add_zero, Bool.false_eq_true]
      · skip
        simp (disch := omega) only [he, ih (i + 1) n9, nI_leI, reduceIte, g_inN, g_bb0, g_bb1, nI_clamp, gq_b_s, gq_l_e, m_atN, m_putN, m_addN, nI_1, f_X9_kilosAnew_57, f_X9_kilosAnew_43, f_X9_kilosAnew, hM, hw0, hsw, m_sumOf' (hsi (by omega)), eq_true c1, eq_false c2]
        simp only [rg_s, lsum, inS, decide_eq_true_eq, true_or, or_true, or_self, false_or, eq_true c1, eq_false c2, decide_true, decide_false, and_self, and_true, true_and, false_and, and_false, reduceIte, Int32.add_assoc, Int32.zero_add, Int32.add_zero, Bool.false_eq_true]
    · skip
      by_cases c2 : smN (M 44 i) = w
      · skip
        simp (disch := omega) only [he, ih (i + 1) n9, nI_leI, reduceIte, g_inN, g_bb0, g_bb1, nI_clamp, gq_b_s, gq_l_e, m_atN, m_putN, m_addN, nI_1, f_X9_kilosAnew_57, f_X9_kilosAnew_43, f_X9_kilosAnew, hM, hw0, hsw, m_sumOf' (hsi (by omega)), eq_false c1, eq_true c2]
        simp only [rg_s, lsum, inS, decide_eq_true_eq, true_or, or_true, or_self, false_or, eq_false c1, eq_true c2, decide_true, decide_false, and_self, and_true, true_and, false_and, and_false, reduceIte, Int32.add_assoc, Int32.zero_add, Int32.add_zero, Bool.false_eq_true]
      · skip
        simp (disch := omega) only [he, ih (i + 1) n9, nI_leI, reduceIte, g_inN, g_bb0, g_bb1, nI_clamp, gq_b_s, gq_l_e, m_atN, m_putN, m_addN, nI_1, f_X9_kilosAnew_57, f_X9_kilosAnew_43, f_X9_kilosAnew, hM, hw0, hsw, m_sumOf' (hsi (by omega)), eq_false c1, eq_false c2]
        simp only [rg_s, lsum, inS, decide_eq_true_eq, true_or, or_true, or_self, false_or, eq_false c1, eq_false c2, decide_true, decide_false, and_self, and_true, true_and, false_and, and_false, reduceIte, Int32.add_assoc, Int32.zero_add, Int32.add_zero, Bool.false_eq_true]
theorem pl4c (j : Nat) : 4 * nI j + 4 = nI (4 * j + 4) := pl4b j 4
theorem pl8c (j : Nat) : 8 * nI j + 8 = nI (8 * j + 8) := pl8b j 8
theorem pl8z (j : Nat) : 8 * nI j = nI (8 * j) := by rw [show (8 : Int32) = nI 8 from rfl, nI_mul]
theorem pl4z (j : Nat) : 4 * nI j = nI (4 * j) := by rw [show (4 : Int32) = nI 4 from rfl, nI_mul]
def avR (M : gq_M) (a b : Int32) : Option (Int32 × gq_M) := if b = 0 then some (-1, M) else gq_g (gq_nz b) (some (a / b, M))
def avC (M : gq_M) (a b : Int32) : Option (Nat × Int32 × gq_M) := if b ≤ 0 then some (0, -1, M) else gq_g (gq_nz b) (some (0, a / b, M))
set_option maxHeartbeats 1000000 in
theorem r_account_l {N : Nat} {M : gq_M} {nb j : Nat} {w : Int32} (hM : M 0 16 = nI nb) (hl : nb ≤ 150) (hj : j < 8) : ∀ (k i n9 : Nat) (acc : Int32), i + k = nb → k < n9 → f_X10_account_39 N n9 (nI j) w acc (nI i) M = if w = 0 then some (M 9 j, M) else if w = 1 then some (M 11 j, M) else some (acc + nI (cnt (rg i k) (fun b => decide (M 21 b = nI j))), M) := by
  intro k
  induction k with
  | zero =>
    intro i n9 acc hi h9
    obtain ⟨n9, rfl⟩ : ∃ z, n9 = z + 1 := ⟨n9 - 1, by omega⟩
    have he : nb ≤ i := by omega
    show f_X10_account_39_b N (f_X10_account_39 N n9) (nI j) w acc (nI i) M = _
    unfold f_X10_account_39_b
    simp (disch := omega) only [he, nI_leI, reduceIte, g_inN, g_bb0, g_bb1, nI_clamp, gq_b_s, gq_l_e, m_atN, m_putN, m_addN, nI_1, f_X10_account_101, f_X10_account_65, f_X10_account_26, f_X10_account, hM]
    rw [show acc + nI (cnt (rg i 0) (fun b => decide (M 21 b = nI j))) = acc from zadd acc]
  | succ k ih =>
    intro i n9 acc hi h9
    obtain ⟨n9, rfl⟩ : ∃ z, n9 = z + 1 := ⟨n9 - 1, by omega⟩
    have he : ¬ nb ≤ i := by omega
    show f_X10_account_39_b N (f_X10_account_39 N n9) (nI j) w acc (nI i) M = _
    unfold f_X10_account_39_b
    by_cases c1 : M 21 i = nI j
    · skip
      simp (disch := omega) only [he, ih (i + 1) n9, nI_leI, reduceIte, g_inN, g_bb0, g_bb1, nI_clamp, gq_b_s, gq_l_e, m_atN, m_putN, m_addN, nI_1, f_X10_account_101, f_X10_account_65, f_X10_account_26, f_X10_account, hM, eq_true c1]
      simp only [rg_s, cnt_cons, eq_true c1, decide_true, decide_false, reduceIte, Int32.add_zero, cadd, Nat.zero_add, Bool.false_eq_true]
    · skip
      simp (disch := omega) only [he, ih (i + 1) n9, nI_leI, reduceIte, g_inN, g_bb0, g_bb1, nI_clamp, gq_b_s, gq_l_e, m_atN, m_putN, m_addN, nI_1, f_X10_account_101, f_X10_account_65, f_X10_account_26, f_X10_account, hM, eq_false c1]
      simp only [rg_s, cnt_cons, eq_false c1, decide_true, decide_false, reduceIte, Int32.add_zero, cadd, Nat.zero_add, Bool.false_eq_true]
set_option maxHeartbeats 1000000 in
theorem r_ship_l {N : Nat} {M : gq_M} {j : Nat} {w : Int32} (hj : j < 8) : ∀ (k i n9 : Nat) (acc : Int32), i + k = 4 * j + 4 → k < n9 → f_X10_ship_41 N n9 (nI j) w acc (nI i) M = if w = 0 then some (M 5 j, M) else if w = 1 then some (M 3 j, M) else some (acc + lsum (rg i k) (M 2), M) := by
  intro k
  induction k with
  | zero =>
    intro i n9 acc hi h9
    obtain ⟨n9, rfl⟩ : ∃ z, n9 = z + 1 := ⟨n9 - 1, by omega⟩
    have he : 4 * j + 4 ≤ i := by omega
    show f_X10_ship_41_b N (f_X10_ship_41 N n9) (nI j) w acc (nI i) M = _
    unfold f_X10_ship_41_b
    simp (disch := omega) only [he, nI_leI, reduceIte, g_inN, g_bb0, g_bb1, nI_clamp, gq_b_s, gq_l_e, m_atN, m_putN, m_addN, nI_1, f_X10_ship_95, f_X10_ship_26, f_X10_ship, pl4c]
    rw [lsum0]
  | succ k ih =>
    intro i n9 acc hi h9
    obtain ⟨n9, rfl⟩ : ∃ z, n9 = z + 1 := ⟨n9 - 1, by omega⟩
    have he : ¬ 4 * j + 4 ≤ i := by omega
    show f_X10_ship_41_b N (f_X10_ship_41 N n9) (nI j) w acc (nI i) M = _
    unfold f_X10_ship_41_b
    simp (disch := omega) only [he, ih (i + 1) n9, nI_leI, reduceIte, g_inN, g_bb0, g_bb1, nI_clamp, gq_b_s, gq_l_e, m_atN, m_putN, m_addN, nI_1, f_X10_ship_95, f_X10_ship_26, f_X10_ship, pl4c]
    simp only [rg_s, lsum, Int32.add_assoc]
set_option maxHeartbeats 1000000 in
theorem r_average_l {N : Nat} {M : gq_M} {nb : Nat} {x1 x2 : Int32} (hM : M 0 16 = nI nb) (hl : nb ≤ 150) : ∀ (k i n9 : Nat) (acc : Int32) (acd : Int32), i + k = nb → k < n9 → f_X10_average_45 N n9 x1 x2 acc acd (nI i) M = avR M (acc + lsum (rg i k) (fun b => if M 14 b = x1 ∧ ¬ M 21 b = -1 ∧ M 24 b = x2 then M 17 b * M 22 b else 0)) (acd + lsum (rg i k) (fun b => if M 14 b = x1 ∧ ¬ M 21 b = -1 ∧ M 24 b = x2 then M 17 b else 0)) := by
  intro k
  induction k with
  | zero =>
    intro i n9 acc acd hi h9
    obtain ⟨n9, rfl⟩ : ∃ z, n9 = z + 1 := ⟨n9 - 1, by omega⟩
    have he : nb ≤ i := by omega
    show f_X10_average_45_b N (f_X10_average_45 N n9) x1 x2 acc acd (nI i) M = _
    unfold f_X10_average_45_b
    simp (disch := omega) only [he, nI_leI, reduceIte, g_inN, g_bb0, g_bb1, nI_clamp, gq_b_s, gq_l_e, m_atN, m_putN, m_addN, nI_1, f_X10_average_161, f_X10_average_139, f_X10_average_119, f_X10_average_92, f_X10_average_91, f_X10_average_29, f_X10_average, hM]
    rw [lsum0, lsum0]; rfl
  | succ k ih =>
    intro i n9 acc acd hi h9
    obtain ⟨n9, rfl⟩ : ∃ z, n9 = z + 1 := ⟨n9 - 1, by omega⟩
    have he : ¬ nb ≤ i := by omega
    show f_X10_average_45_b N (f_X10_average_45 N n9) x1 x2 acc acd (nI i) M = _
    unfold f_X10_average_45_b
    by_cases c1 : M 14 i = x1
    · skip
      by_cases c2 : M 21 i = -1
      · skip
        by_cases c3 : M 24 i = x2
        · skip
          simp (disch := omega) only [he, ih (i + 1) n9, nI_leI, reduceIte, g_inN, g_bb0, g_bb1, nI_clamp, gq_b_s, gq_l_e, m_atN, m_putN, m_addN, nI_1, f_X10_average_161, f_X10_average_139, f_X10_average_119, f_X10_average_92, f_X10_average_91, f_X10_average_29, f_X10_average, hM, f10, eq_true c1, eq_true c2, eq_true c3]
          simp only [rg_s, lsum, not_true_eq_false, not_false_eq_true, eq_true c1, eq_true c2, eq_true c3, decide_true, decide_false, and_self, and_true, true_and, false_and, and_false, reduceIte, Int32.add_assoc, Int32.zero_add, Int32.add_zero, Bool.false_eq_true]
        · skip
          simp (disch := omega) only [he, ih (i + 1) n9, nI_leI, reduceIte, g_inN, g_bb0, g_bb1, nI_clamp, gq_b_s, gq_l_e, m_atN, m_putN, m_addN, nI_1, f_X10_average_161, f_X10_average_139, f_X10_average_119, f_X10_average_92, f_X10_average_91, f_X10_average_29, f_X10_average, hM, f10, eq_true c1, eq_true c2, eq_false c3]
          simp only [rg_s, lsum, not_true_eq_false, not_false_eq_true, eq_true c1, eq_true c2, eq_false c3, decide_true, decide_false, and_self, and_true, true_and, false_and, and_false, reduceIte, Int32.add_assoc, Int32.zero_add, Int32.add_zero, Bool.false_eq_true]
      · skip
        by_cases c3 : M 24 i = x2
        · skip
          simp (disch := omega) only [he, ih (i + 1) n9, nI_leI, reduceIte, g_inN, g_bb0, g_bb1, nI_clamp, gq_b_s, gq_l_e, m_atN, m_putN, m_addN, nI_1, f_X10_average_161, f_X10_average_139, f_X10_average_119, f_X10_average_92, f_X10_average_91, f_X10_average_29, f_X10_average, hM, f10, eq_true c1, eq_false c2, eq_true c3]
          simp only [rg_s, lsum, not_true_eq_false, not_false_eq_true, eq_true c1, eq_false c2, eq_true c3, decide_true, decide_false, and_self, and_true, true_and, false_and, and_false, reduceIte, Int32.add_assoc, Int32.zero_add, Int32.add_zero, Bool.false_eq_true]
        · skip
          simp (disch := omega) only [he, ih (i + 1) n9, nI_leI, reduceIte, g_inN, g_bb0, g_bb1, nI_clamp, gq_b_s, gq_l_e, m_atN, m_putN, m_addN, nI_1, f_X10_average_161, f_X10_average_139, f_X10_average_119, f_X10_average_92, f_X10_average_91, f_X10_average_29, f_X10_average, hM, f10, eq_true c1, eq_false c2, eq_false c3]
          simp only [rg_s, lsum, not_true_eq_false, not_false_eq_true, eq_true c1, eq_false c2, eq_false c3, decide_true, decide_false, and_self, and_true, true_and, false_and, and_false, reduceIte, Int32.add_assoc, Int32.zero_add, Int32.add_zero, Bool.false_eq_true]
    · skip
      by_cases c2 : M 21 i = -1
      · skip
        by_cases c3 : M 24 i = x2
        · skip
          simp (disch := omega) only [he, ih (i + 1) n9, nI_leI, reduceIte, g_inN, g_bb0, g_bb1, nI_clamp, gq_b_s, gq_l_e, m_atN, m_putN, m_addN, nI_1, f_X10_average_161, f_X10_average_139, f_X10_average_119, f_X10_average_92, f_X10_average_91, f_X10_average_29, f_X10_average, hM, f10, eq_false c1, eq_true c2, eq_true c3]
          simp only [rg_s, lsum, not_true_eq_false, not_false_eq_true, eq_false c1, eq_true c2, eq_true c3, decide_true, decide_false, and_self, and_true, true_and, false_and, and_false, reduceIte, Int32.add_assoc, Int32.zero_add, Int32.add_zero, Bool.false_eq_true]
        · skip
          simp (disch := omega) only [he, ih (i + 1) n9, nI_leI, reduceIte, g_inN, g_bb0, g_bb1, nI_clamp, gq_b_s, gq_l_e, m_atN, m_putN, m_addN, nI_1, f_X10_average_161, f_X10_average_139, f_X10_average_119, f_X10_average_92, f_X10_average_91, f_X10_average_29, f_X10_average, hM, f10, eq_false c1, eq_true c2, eq_false c3]
          simp only [rg_s, lsum, not_true_eq_false, not_false_eq_true, eq_false c1, eq_true c2, eq_false c3, decide_true, decide_false, and_self, and_true, true_and, false_and, and_false, reduceIte, Int32.add_assoc, Int32.zero_add, Int32.add_zero, Bool.false_eq_true]
      · skip
        by_cases c3 : M 24 i = x2
        · skip
          simp (disch := omega) only [he, ih (i + 1) n9, nI_leI, reduceIte, g_inN, g_bb0, g_bb1, nI_clamp, gq_b_s, gq_l_e, m_atN, m_putN, m_addN, nI_1, f_X10_average_161, f_X10_average_139, f_X10_average_119, f_X10_average_92, f_X10_average_91, f_X10_average_29, f_X10_average, hM, f10, eq_false c1, eq_false c2, eq_true c3]
          simp only [rg_s, lsum, not_true_eq_false, not_false_eq_true, eq_false c1, eq_false c2, eq_true c3, decide_true, decide_false, and_self, and_true, true_and, false_and, and_false, reduceIte, Int32.add_assoc, Int32.zero_add, Int32.add_zero, Bool.false_eq_true]
        · skip
          simp (disch := omega) only [he, ih (i + 1) n9, nI_leI, reduceIte, g_inN, g_bb0, g_bb1, nI_clamp, gq_b_s, gq_l_e, m_atN, m_putN, m_addN, nI_1, f_X10_average_161, f_X10_average_139, f_X10_average_119, f_X10_average_92, f_X10_average_91, f_X10_average_29, f_X10_average, hM, f10, eq_false c1, eq_false c2, eq_false c3]
          simp only [rg_s, lsum, not_true_eq_false, not_false_eq_true, eq_false c1, eq_false c2, eq_false c3, decide_true, decide_false, and_self, and_true, true_and, false_and, and_false, reduceIte, Int32.add_assoc, Int32.zero_add, Int32.add_zero, Bool.false_eq_true]
set_option maxHeartbeats 1000000 in
theorem m_average_l {N : Nat} {M : gq_M} {nb : Nat} {x1 x2 : Int32} (hM : M 34 13 = nI nb) (hl : nb ≤ 150) : ∀ (k i n9 : Nat) (acc : Int32) (acd : Int32), i + k = nb → k < n9 → f_X9_average_22 N n9 x1 x2 acc acd (nI i) M = avC M (acc + lsum (rg i k) (fun b => if M 54 b = x2 ∧ M 38 b / 27 = x1 then M 40 b * M 50 b else 0)) (acd + lsum (rg i k) (fun b => if M 54 b = x2 ∧ M 38 b / 27 = x1 then M 40 b else 0)) := by
  intro k
  induction k with
  | zero =>
    intro i n9 acc acd hi h9
    obtain ⟨n9, rfl⟩ : ∃ z, n9 = z + 1 := ⟨n9 - 1, by omega⟩
    have he : nb ≤ i := by omega
    show f_X9_average_22_b N (f_X9_average_22 N n9) x1 x2 acc acd (nI i) M = _
    unfold f_X9_average_22_b
    simp (disch := omega) only [he, nI_leI, reduceIte, g_inN, g_bb0, g_bb1, nI_clamp, gq_b_s, gq_l_e, m_atN, m_putN, m_addN, nI_1, f_X9_average_133, f_X9_average_114, f_X9_average, hM, f_X1_kindOf]
    rw [lsum0, lsum0]; rfl
  | succ k ih =>
    intro i n9 acc acd hi h9
    obtain ⟨n9, rfl⟩ : ∃ z, n9 = z + 1 := ⟨n9 - 1, by omega⟩
    have he : ¬ nb ≤ i := by omega
    show f_X9_average_22_b N (f_X9_average_22 N n9) x1 x2 acc acd (nI i) M = _
    unfold f_X9_average_22_b
    by_cases c1 : M 54 i = x2
    · skip
      by_cases c2 : M 38 i / 27 = x1
      · skip
        simp (disch := omega) only [he, ih (i + 1) n9, nI_leI, reduceIte, g_inN, g_bb0, g_bb1, nI_clamp, gq_b_s, gq_l_e, m_atN, m_putN, m_addN, nI_1, f_X9_average_133, f_X9_average_114, f_X9_average, hM, f_X1_kindOf, f10, eq_true c1, eq_true c2]
        simp only [rg_s, lsum, eq_true c1, eq_true c2, decide_true, decide_false, and_self, and_true, true_and, false_and, and_false, reduceIte, Int32.add_assoc, Int32.zero_add, Int32.add_zero, Bool.false_eq_true]
      · skip
        simp (disch := omega) only [he, ih (i + 1) n9, nI_leI, reduceIte, g_inN, g_bb0, g_bb1, nI_clamp, gq_b_s, gq_l_e, m_atN, m_putN, m_addN, nI_1, f_X9_average_133, f_X9_average_114, f_X9_average, hM, f_X1_kindOf, f10, eq_true c1, eq_false c2]
        simp only [rg_s, lsum, eq_true c1, eq_false c2, decide_true, decide_false, and_self, and_true, true_and, false_and, and_false, reduceIte, Int32.add_assoc, Int32.zero_add, Int32.add_zero, Bool.false_eq_true]
    · skip
      by_cases c2 : M 38 i / 27 = x1
      · skip
        simp (disch := omega) only [he, ih (i + 1) n9, nI_leI, reduceIte, g_inN, g_bb0, g_bb1, nI_clamp, gq_b_s, gq_l_e, m_atN, m_putN, m_addN, nI_1, f_X9_average_133, f_X9_average_114, f_X9_average, hM, f_X1_kindOf, f10, eq_false c1, eq_true c2]
        simp only [rg_s, lsum, eq_false c1, eq_true c2, decide_true, decide_false, and_self, and_true, true_and, false_and, and_false, reduceIte, Int32.add_assoc, Int32.zero_add, Int32.add_zero, Bool.false_eq_true]
      · skip
        simp (disch := omega) only [he, ih (i + 1) n9, nI_leI, reduceIte, g_inN, g_bb0, g_bb1, nI_clamp, gq_b_s, gq_l_e, m_atN, m_putN, m_addN, nI_1, f_X9_average_133, f_X9_average_114, f_X9_average, hM, f_X1_kindOf, f10, eq_false c1, eq_false c2]
        simp only [rg_s, lsum, eq_false c1, eq_false c2, decide_true, decide_false, and_self, and_true, true_and, false_and, and_false, reduceIte, Int32.add_assoc, Int32.zero_add, Int32.add_zero, Bool.false_eq_true]
