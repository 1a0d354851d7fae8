/-! pure: presses that are heard; delays -/
def newH (R : gq_M) (j : Nat) : Bool := decide (¬ R 40 j = -1 ∧ R 43 j = 0 ∧ ¬ R 0 0 < R 41 j)
def hrR (i n : Nat) (R : gq_M) : gq_M := fun a => if a = 43 then (fun j => if (i ≤ j ∧ j < n) ∧ newH R j = true then 1 else R a j) else R a
theorem hr_0 {i n : Nat} {R : gq_M} (h : n ≤ i) : hrR i n R = R := by
  funext a
  unfold hrR
  split
  · funext j
    exact if_neg (fun hh => by omega)
  · rfl
theorem hr_id {i n : Nat} {R : gq_M} (h : ∀ j, i ≤ j → j < n → newH R j = false) : hrR i n R = R := by
  funext a
  unfold hrR
  split
  · funext j
    exact if_neg (fun hh => by rw [h j hh.1.1 hh.1.2] at hh; exact absurd hh.2 (by decide))
  · rfl
theorem newH_up {R : gq_M} {i j : Nat} {v : Int32} (h : j ≠ i) : newH (gq_up R 43 i v) j = newH R j := by
  show decide (¬ R 40 j = -1 ∧ upd (R 43) i v j = 0 ∧ ¬ R 0 0 < R 41 j) = _
  rw [upd_n h]
  rfl
theorem hr_s1 {i n : Nat} {R : gq_M} (h : i < n) (hc : newH R i = true) : hrR (i + 1) n (gq_up R 43 i 1) = hrR i n R := by
  funext a
  unfold hrR
  by_cases ha : a = 43
  · subst ha
    rw [if_pos rfl, if_pos rfl, up_row]
    funext j
    by_cases hj : j = i
    · subst hj
      rw [if_neg (by omega), upd_s, if_pos ⟨by omega, hc⟩]
    · rw [newH_up hj, upd_n hj]
      by_cases h2 : (i ≤ j ∧ j < n) ∧ newH R j = true
      · rw [if_pos h2, if_pos ⟨by omega, h2.2⟩]
      · rw [if_neg h2, if_neg (fun h3 => h2 ⟨by omega, h3.2⟩)]
  · rw [if_neg ha, if_neg ha, up_ne ha]
theorem hr_s0 {i n : Nat} {R : gq_M} (hc : newH R i = false) : hrR (i + 1) n R = hrR i n R := by
  funext a
  unfold hrR
  split
  · funext j
    by_cases hj : j = i
    · subst hj
      rw [if_neg (by omega), if_neg (fun hh => by rw [hc] at hh; exact absurd hh.2 (by decide))]
    · by_cases h2 : (i ≤ j ∧ j < n) ∧ newH R j = true
      · rw [if_pos h2, if_pos ⟨by omega, h2.2⟩]
      · rw [if_neg h2, if_neg (fun h3 => h2 ⟨by omega, h3.2⟩)]
  · rfl
theorem r_hears_l {N h : Nat} (hh : h < 3) : ∀ (k i n9 : Nat) (acc : Int32) (R : gq_M), bit acc → i + k = 8 * h + 8 → k < n9 → f_X10_hears_7 N n9 (nI h) acc (nI i) R = some (if (rg i k).any (newH R) = true then 1 else acc, hrR i (8 * h + 8) R) := by
  intro k
  induction k with
  | zero =>
    intro i n9 acc R hb hi h9
    obtain ⟨n9, rfl⟩ : ∃ z, n9 = z + 1 := ⟨n9 - 1, by omega⟩
    have he : 8 * h + 8 ≤ i := by omega
    show f_X10_hears_7_b N (f_X10_hears_7 N n9) (nI h) acc (nI i) R = _
    unfold f_X10_hears_7_b
    simp (disch := omega) only [pl8c, nI_leI, he, ↓reduceIte]
    rw [g_bit hb, hr_0 (by omega)]
    rfl
  | succ k ih =>
    intro i n9 acc R hb hi h9
    obtain ⟨n9, rfl⟩ : ∃ z, n9 = z + 1 := ⟨n9 - 1, by omega⟩
    have he : ¬ 8 * h + 8 ≤ i := by omega
    have hstep : f_X10_hears_7_b N (f_X10_hears_7 N n9) (nI h) acc (nI i) R = if newH R i = true then f_X10_hears_7 N n9 (nI h) 1 (nI (i + 1)) (gq_up R 43 i 1) else f_X10_hears_7 N n9 (nI h) acc (nI (i + 1)) R := by
      generalize f_X10_hears_7 N n9 = F
      unfold f_X10_hears_7_b f_X10_hears_59 newH
      simp (disch := omega) only [pl8c, nI_leI, he, ↓reduceIte, g_inN, ↓gq_l_e, nI_clamp, nI_1, g_bb1, decide_eq_true_eq]
      by_cases c1 : R 40 i = -1
      · simp only [c1, ↓reduceIte, not_true_eq_false, false_and]
      · by_cases c2 : R 43 i = 0
        · by_cases c3 : R 0 0 < R 41 i
          · simp only [c1, c2, c3, ↓reduceIte, not_true_eq_false, and_false, not_false_eq_true, true_and]
          · simp only [c1, c2, c3, ↓reduceIte, not_false_eq_true, true_and]
        · simp only [c1, c2, ↓reduceIte, not_false_eq_true, true_and, false_and]
    show f_X10_hears_7_b N (f_X10_hears_7 N n9) (nI h) acc (nI i) R = _
    rw [hstep, rg_s, List.any_cons]
    by_cases c : newH R i = true
    · have ha : (rg (i + 1) k).any (newH (gq_up R 43 i 1)) = (rg (i + 1) k).any (newH R) := by
        rw [Bool.eq_iff_iff, List.any_eq_true, List.any_eq_true]
        constructor
        · rintro ⟨x, h1, h2⟩
          exact ⟨x, h1, by rwa [newH_up (by have := (rg_m.mp h1).1; omega)] at h2⟩
        · rintro ⟨x, h1, h2⟩
          exact ⟨x, h1, by rwa [newH_up (by have := (rg_m.mp h1).1; omega)]⟩
      rw [if_pos c, ih (i + 1) n9 1 _ (Or.inr rfl) (by omega) (by omega), hr_s1 (by omega) c, c]
      simp
    · have c' := Bool.eq_false_iff.mpr c
      rw [if_neg c, ih (i + 1) n9 acc R hb (by omega) (by omega), hr_s0 c', c', Bool.false_or]
theorem r_hears {N h : Nat} {R : gq_M} (hh : h < 3) (hN : 600 ≤ N) : f_X10_hears N (nI h) R = some (if (rg (8 * h) 8).any (newH R) = true then 1 else 0, hrR (8 * h) (8 * h + 8) R) := by
  unfold f_X10_hears
  rw [pl8z]
  exact r_hears_l hh 8 (8 * h) N 0 R (Or.inl rfl) (by omega) (by omega)
def hdC (h : Nat) (v : Int32) (M : gq_M) (j : Nat) : Bool := decide (¬ M 99 (8 * h + j) = -1 ∧ ¬ v < M 99 (8 * h + j))
theorem b_isHeard {β : Type} {N h j : Nat} {v : Int32} {M : gq_M} {F : Int32 → gq_M → Option β} (hh : h < 3) (hj : j < 8) : gq_b (f_X7_isHeard N (nI h) (nI j) v M) F = F (bI (hdC h v M j = true)) M := by
  unfold f_X7_isHeard f_X7_isMade f_X7_placeOf f_X7_isHeard_29 f_X7_isHeard_30 f_X7_isMade_21 hdC
  by_cases c1 : M 99 (8 * h + j) = -1
  · simp (disch := omega) only [↓gq_b_s, pl8, ↓b_atN, c1, ↓reduceIte, g_bb0, not_true_eq_false, false_and, decide_false, Bool.false_eq_true]
    rfl
  · by_cases c2 : v < M 99 (8 * h + j)
    · simp (disch := omega) only [↓gq_b_s, pl8, ↓b_atN, c1, c2, f10, ↓reduceIte, g_bb0, g_bb1, not_true_eq_false, not_false_eq_true, true_and, and_false, decide_false, Bool.false_eq_true]
      rfl
    · simp (disch := omega) only [↓gq_b_s, pl8, ↓b_atN, c1, c2, f10, ↓reduceIte, g_bb0, g_bb1, not_false_eq_true, and_self, decide_true]
      rfl
theorem m_any_l {N h : Nat} {v : Int32} {M : gq_M} (hh : h < 3) : ∀ (k i n9 : Nat), i + k = 8 → k < n9 → f_X7_isAnyHeard_2 N n9 (nI h) v (nI i) M = some (bI ((rg i k).any (hdC h v M) = true), M) := by
  intro k
  induction k with
  | zero =>
    intro i n9 hi h9
    obtain ⟨n9, rfl⟩ : ∃ z, n9 = z + 1 := ⟨n9 - 1, by omega⟩
    have he : (8 : Int32) ≤ nI i := (nI_leI (a := 8) (by omega) (by omega)).mpr (by omega)
    show f_X7_isAnyHeard_2_b N (f_X7_isAnyHeard_2 N n9) (nI h) v (nI i) M = _
    unfold f_X7_isAnyHeard_2_b
    rw [if_pos he]
    rfl
  | succ k ih =>
    intro i n9 hi h9
    obtain ⟨n9, rfl⟩ : ∃ z, n9 = z + 1 := ⟨n9 - 1, by omega⟩
    have he : ¬ (8 : Int32) ≤ nI i := fun h2 => by have := (nI_leI (a := 8) (by omega) (by omega)).mp h2; omega
    show f_X7_isAnyHeard_2_b N (f_X7_isAnyHeard_2 N n9) (nI h) v (nI i) M = _
    unfold f_X7_isAnyHeard_2_b
    rw [if_neg he, b_isHeard hh (by omega), nI_1, ih (i + 1) n9 (by omega) (by omega), rg_s, List.any_cons]
    by_cases c : hdC h v M i = true
    · rw [if_neg (fun h2 => bI_z.mp h2 c), c]; rfl
    · rw [if_pos (bI_z.mpr c), Bool.eq_false_iff.mpr c, Bool.false_or]
theorem m_any {N h : Nat} {v : Int32} {M : gq_M} (hh : h < 3) (hN : 600 ≤ N) : f_X7_isAnyHeard N (nI h) v M = some (bI ((rg 0 8).any (hdC h v M) = true), M) := m_any_l hh 8 0 N (by omega) (by omega)
theorem any_sh {h : Nat} {p q : Nat → Bool} (hp : ∀ j, j < 8 → p j = q (8 * h + j)) : (rg 0 8).any p = (rg (8 * h) 8).any q := by
  rw [Bool.eq_iff_iff, List.any_eq_true, List.any_eq_true]
  constructor
  · rintro ⟨x, h1, h2⟩
    have := rg_m.mp h1
    exact ⟨8 * h + x, rg_m.mpr (by omega), (hp x (by omega)) ▸ h2⟩
  · rintro ⟨x, h1, h2⟩
    have := rg_m.mp h1
    refine ⟨x - 8 * h, rg_m.mpr (by omega), ?_⟩
    rw [hp (x - 8 * h) (by omega), show 8 * h + (x - 8 * h) = x by omega]
    exact h2
def mx (f : Nat → Int32) : List Nat → Int32 → Int32
  | [], a => a
  | b :: t, a => mx f t (if a < f b then f b else a)
theorem mx_congr {f g : Nat → Int32} : ∀ {L : List Nat} {a : Int32}, (∀ b, b ∈ L → f b = g b) → mx f L a = mx g L a := by
  intro L
  induction L with
  | nil => intro a _; rfl
  | cons b t ih =>
    intro a h
    show mx f t _ = mx g t _
    rw [h b List.mem_cons_self, ih fun c hc => h c (List.mem_cons_of_mem _ hc)]
theorem m_mx_l {N : Nat} {M : gq_M} : ∀ (k i n9 : Nat) (acc : Int32), i + k = 8 → k < n9 → f_X2_greatestDelay_4 N n9 acc (nI i) M = some (mx (M 27) (rg i k) acc, M) := by
  intro k
  induction k with
  | zero =>
    intro i n9 acc hi h9
    obtain ⟨n9, rfl⟩ : ∃ z, n9 = z + 1 := ⟨n9 - 1, by omega⟩
    have he : (8 : Int32) ≤ nI i := (nI_leI (a := 8) (by omega) (by omega)).mpr (by omega)
    show f_X2_greatestDelay_4_b N (f_X2_greatestDelay_4 N n9) acc (nI i) M = _
    unfold f_X2_greatestDelay_4_b
    rw [if_pos he]
    rfl
  | succ k ih =>
    intro i n9 acc hi h9
    obtain ⟨n9, rfl⟩ : ∃ z, n9 = z + 1 := ⟨n9 - 1, by omega⟩
    have he : ¬ (8 : Int32) ≤ nI i := fun h2 => by have := (nI_leI (a := 8) (by omega) (by omega)).mp h2; omega
    show f_X2_greatestDelay_4_b N (f_X2_greatestDelay_4 N n9) acc (nI i) M = _
    unfold f_X2_greatestDelay_4_b
    simp (disch := omega) only [he, ↓reduceIte, ↓b_atN, ↓gq_l_e, nI_1]
    rw [ih (i + 1) n9 _ (by omega) (by omega), rg_s]
    rfl
theorem r_mx_l {N : Nat} {M : gq_M} : ∀ (k i n9 : Nat) (acc : Int32), i + k = 8 → k < n9 → f_X10_slowest_4 N n9 acc (nI i) M = some (mx (M 10) (rg i k) acc, M) := by
  intro k
  induction k with
  | zero =>
    intro i n9 acc hi h9
    obtain ⟨n9, rfl⟩ : ∃ z, n9 = z + 1 := ⟨n9 - 1, by omega⟩
    have he : (8 : Int32) ≤ nI i := (nI_leI (a := 8) (by omega) (by omega)).mpr (by omega)
    show f_X10_slowest_4_b N (f_X10_slowest_4 N n9) acc (nI i) M = _
    unfold f_X10_slowest_4_b
    rw [if_pos he]
    rfl
  | succ k ih =>
    intro i n9 acc hi h9
    obtain ⟨n9, rfl⟩ : ∃ z, n9 = z + 1 := ⟨n9 - 1, by omega⟩
    have he : ¬ (8 : Int32) ≤ nI i := fun h2 => by have := (nI_leI (a := 8) (by omega) (by omega)).mp h2; omega
    show f_X10_slowest_4_b N (f_X10_slowest_4 N n9) acc (nI i) M = _
    unfold f_X10_slowest_4_b f_X10_slowest_30
    rw [rg_s]
    show _ = some (mx (M 10) (rg (i + 1) k) (if acc < M 10 i then M 10 i else acc), M)
    by_cases c : M 10 i ≤ acc
    · rw [if_neg (Int32.not_lt.mpr c)]
      simp (disch := omega) only [he, ↓reduceIte, ↓g_inN, ↓gq_l_e, nI_clamp, nI_1, c]
      exact ih (i + 1) n9 _ (by omega) (by omega)
    · rw [if_pos (Int32.not_le.mp c)]
      simp (disch := omega) only [he, ↓reduceIte, ↓g_inN, ↓gq_l_e, nI_clamp, nI_1, c]
      exact ih (i + 1) n9 _ (by omega) (by omega)
theorem m_mx {N : Nat} {M : gq_M} (hN : 600 ≤ N) : f_X2_greatestDelay N M = some (mx (M 27) (rg 0 8) 0, M) := m_mx_l 8 0 N 0 (by omega) (by omega)
theorem r_mx {N : Nat} {M : gq_M} (hN : 600 ≤ N) : f_X10_slowest N M = some (mx (M 10) (rg 0 8) 0, M) := r_mx_l 8 0 N 0 (by omega) (by omega)

