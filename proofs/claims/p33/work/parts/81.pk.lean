/-! the law's arrays as a picture of the mind's reference -/
theorem up_no {M : gq_M} {k j a b : Nat} {v : Int32} (h : ¬ (a = k ∧ b = j)) : gq_up M k j v a b = M a b := by
  unfold gq_up
  by_cases h1 : a = k
  · rw [if_pos h1]
    exact if_neg (fun h2 => h ⟨h1, h2⟩)
  · rw [if_neg h1]
def HS (M R : gq_M) (h : Nat) : Prop := M 115 (8 * h + 3) = R 38 h ∧ M 115 (8 * h + 5) = R 33 h ∧ M 115 (8 * h + 6) = R 34 h ∧ rng 1 500 (R 33 h) ∧ bit (R 34 h)
def HA (nl : Nat) (M R : gq_M) (h : Nat) : Prop := M 115 (8 * h) = R 35 h ∧ M 115 (8 * h + 1) = R 36 h ∧ M 115 (8 * h + 2) = R 37 h ∧ M 115 (8 * h + 4) = R 39 h ∧ (R 36 h = -1 ∨ ∃ a, a < nl ∧ R 36 h = nI a ∧ R 32 a = 0 ∧ R 31 a = nI h) ∧ (R 39 h = -1 ∨ ∃ w, w < 8 ∧ R 39 h = nI w) ∧ rng 0 10000 (R 37 h)
def PR (M R : gq_M) (j : Nat) : Prop := (R 40 j = -1 ∧ R 43 j = 0 ∧ M 116 j = -1) ∨ ∃ t p : Nat, t ≤ 3000 ∧ 1 ≤ p ∧ p ≤ 10000 ∧ R 40 j = nI t ∧ M 116 j = nI t ∧ M 117 j = R 41 j ∧ R 42 j = nI p ∧ ((R 43 j = 0 ∧ M 118 j = nI p) ∨ (R 43 j = 1 ∧ M 118 j = nI (p + 65536)))
def BX (M R : gq_M) (b : Nat) : Prop := ∃ bo ki si fr st wc cl kl re so : Nat, (bo < 8 ∧ ki < 4 ∧ si < 3 ∧ 1 ≤ fr ∧ fr ≤ 9 ∧ st < 8 ∧ wc < 2 ∧ cl < 2 ∧ 1 ≤ kl ∧ kl ≤ 100 ∧ 1 ≤ re ∧ re ≤ 100 ∧ so < 131072) ∧ (R 13 b = nI bo ∧ R 14 b = nI ki ∧ R 15 b = nI si ∧ R 16 b = nI fr ∧ R 19 b = nI st ∧ R 20 b = nI wc ∧ R 25 b = nI cl ∧ R 17 b = nI kl ∧ R 18 b = nI re) ∧ M 109 b = nI (bo + 8 * ki + 32 * si + 128 * fr + 2048 * st + 16384 * wc + 32768 * cl) ∧ M 110 b = nI (kl + 128 * re + 16384 * so) ∧ M 111 b = R 26 b ∧
  ((R 21 b = -1 ∧ R 22 b = -1 ∧ M 112 b = 0 ∧ M 113 b = 0) ∨ ∃ w p t d : Nat, w < 8 ∧ 1 ≤ p ∧ p ≤ 10000 ∧ t ≤ 3000 ∧ d ≤ 100 ∧ R 21 b = nI w ∧ R 22 b = nI p ∧ R 23 b = nI t ∧ R 24 b = nI d ∧ M 112 b = nI (w + 1 + 16 * p) ∧ M 113 b = nI (t + 131072 * d))
def LT (M R : gq_M) (k : Nat) : Prop := ∃ bo ki si fr ha dn : Nat, (bo < 8 ∧ ki < 4 ∧ si < 3 ∧ 1 ≤ fr ∧ fr ≤ 9 ∧ ha < 3 ∧ dn < 2) ∧ (R 27 k = nI bo ∧ R 28 k = nI ki ∧ R 29 k = nI si ∧ R 30 k = nI fr ∧ R 31 k = nI ha ∧ R 32 k = nI dn) ∧ M 114 k = nI (bo + 8 * ki + 32 * si + 128 * fr + 2048 * ha + 8192 * dn)
def PK (S : Nat → Prop) (nb nl nr tn dn : Nat) (M R : gq_M) : Prop := (M 119 4 = nI nb ∧ R 0 16 = nI nb ∧ nb ≤ 40) ∧ (M 119 5 = nI nl ∧ R 0 31 = nI nl ∧ nl ≤ nb) ∧ (M 119 6 = nI nr ∧ R 0 49 = nI nr ∧ nr ≤ 10) ∧ (M 119 0 = nI tn ∧ R 0 0 = nI tn ∧ tn ≤ 3000) ∧ (M 119 1 = nI dn ∧ R 0 1 = nI dn ∧ dn ≤ 100) ∧ (M 119 2 = R 0 2 ∧ bit (R 0 2)) ∧ (M 119 3 = R 0 3) ∧ (∀ j, j < 4 → M 119 (8 + j) = R 6 j ∧ M 119 (12 + j) = R 7 j ∧ M 119 (16 + j) = R 8 j ∧ rng 1 10000 (R 6 j) ∧ rng 1 10000 (R 7 j) ∧ rng 0 2 (R 8 j)) ∧ (∀ j, j < 8 → M 119 (24 + j) = R 9 j ∧ M 119 (32 + j) = R 10 j ∧ M 119 (40 + j) = R 11 j ∧ M 119 (48 + j) = R 12 j ∧ rng 1 9 (R 10 j) ∧ bit (R 12 j)) ∧ (∀ j, j < 32 → M 120 j = R 1 j ∧ M 120 (32 + j) = R 2 j) ∧ (∀ j, j < 8 → M 121 j = R 3 j ∧ M 121 (8 + j) = R 4 j ∧ M 121 (16 + j) = R 5 j ∧ bit (R 4 j)) ∧ (∀ h, h < 3 → HS M R h ∧ (S h → HA nl M R h)) ∧ (∀ j, j < 24 → PR M R j) ∧ (∀ b, b < nb → BX M R b) ∧ (∀ b, nb ≤ b → b < 40 → M 112 b = 0 ∧ M 113 b = 0) ∧ (∀ k, k < nl → LT M R k) ∧ (∀ k, k < nr → M 122 (4 * k) = R 44 k ∧ M 122 (4 * k + 1) = R 45 k ∧ M 122 (4 * k + 2) = R 46 k ∧ M 122 (4 * k + 3) = R 47 k)
theorem BX_cg {M R M2 R2 : gq_M} {b : Nat} (h : BX M R b) (hM : ∀ a, 109 ≤ a → a ≤ 113 → M2 a b = M a b) (hR : ∀ a, 13 ≤ a → a ≤ 26 → R2 a b = R a b) : BX M2 R2 b := by
  obtain ⟨bo, ki, si, fr, st, wc, cl, kl, re, so, h1, h2, h3, h4, h5, h6⟩ := h
  refine ⟨bo, ki, si, fr, st, wc, cl, kl, re, so, h1, ?_, ?_, ?_, ?_, ?_⟩
  · rw [hR 13 (by omega) (by omega), hR 14 (by omega) (by omega), hR 15 (by omega) (by omega), hR 16 (by omega) (by omega), hR 17 (by omega) (by omega), hR 18 (by omega) (by omega), hR 19 (by omega) (by omega), hR 20 (by omega) (by omega), hR 25 (by omega) (by omega)]
    exact h2
  · rw [hM 109 (by omega) (by omega)]; exact h3
  · rw [hM 110 (by omega) (by omega)]; exact h4
  · rw [hM 111 (by omega) (by omega), hR 26 (by omega) (by omega)]; exact h5
  · rw [hM 112 (by omega) (by omega), hM 113 (by omega) (by omega), hR 21 (by omega) (by omega), hR 22 (by omega) (by omega), hR 23 (by omega) (by omega), hR 24 (by omega) (by omega)]
    exact h6
theorem LT_cg {M R M2 R2 : gq_M} {k : Nat} (h : LT M R k) (hM : M2 114 k = M 114 k) (hR : ∀ a, 27 ≤ a → a ≤ 32 → R2 a k = R a k) : LT M2 R2 k := by
  obtain ⟨bo, ki, si, fr, ha, dn, h1, h2, h3⟩ := h
  refine ⟨bo, ki, si, fr, ha, dn, h1, ?_, ?_⟩
  · rw [hR 27 (by omega) (by omega), hR 28 (by omega) (by omega), hR 29 (by omega) (by omega), hR 30 (by omega) (by omega), hR 31 (by omega) (by omega), hR 32 (by omega) (by omega)]
    exact h2
  · rw [hM]; exact h3
theorem HS_cg {M R M2 R2 : gq_M} {h : Nat} (k : HS M R h) (hM : ∀ i, i < 7 → i = 3 ∨ i = 5 ∨ i = 6 → M2 115 (8 * h + i) = M 115 (8 * h + i)) (hR : ∀ a, a = 33 ∨ a = 34 ∨ a = 38 → R2 a h = R a h) : HS M2 R2 h := by
  obtain ⟨h1, h2, h3, h4, h5⟩ := k
  refine ⟨?_, ?_, ?_, ?_, ?_⟩
  · rw [hR 38 (by omega)]; exact (hM 3 (by omega) (by omega)).trans h1
  · rw [hR 33 (by omega)]; exact (hM 5 (by omega) (by omega)).trans h2
  · rw [hR 34 (by omega)]; exact (hM 6 (by omega) (by omega)).trans h3
  · rw [hR 33 (by omega)]; exact h4
  · rw [hR 34 (by omega)]; exact h5
theorem HA_cg {nl nl2 : Nat} {M R M2 R2 : gq_M} {h : Nat} (k : HA nl M R h) (hM : ∀ i, i < 5 → i ≠ 3 → M2 115 (8 * h + i) = M 115 (8 * h + i)) (hR : ∀ a, 35 ≤ a → a ≤ 39 → a ≠ 38 → R2 a h = R a h) (hn : nl ≤ nl2) (hl : ∀ a, a < nl → R 32 a = 0 → R 31 a = nI h → R2 32 a = 0 ∧ R2 31 a = nI h) : HA nl2 M2 R2 h := by
  obtain ⟨h1, h2, h3, h5, h10, h11, h12⟩ := k
  refine ⟨?_, ?_, ?_, ?_, ?_, ?_, ?_⟩
  · rw [hR 35 (by omega) (by omega) (by omega)]; exact (hM 0 (by omega) (by omega)).trans h1
  · rw [hR 36 (by omega) (by omega) (by omega)]; exact (hM 1 (by omega) (by omega)).trans h2
  · rw [hR 37 (by omega) (by omega) (by omega)]; exact (hM 2 (by omega) (by omega)).trans h3
  · rw [hR 39 (by omega) (by omega) (by omega)]; exact (hM 4 (by omega) (by omega)).trans h5
  · rw [hR 36 (by omega) (by omega) (by omega)]
    rcases h10 with h10 | ⟨a, q1, q2, q3, q4⟩
    · exact Or.inl h10
    · exact Or.inr ⟨a, by omega, q2, hl a q1 q3 q4⟩
  · rw [hR 39 (by omega) (by omega) (by omega)]; exact h11
  · rw [hR 37 (by omega) (by omega) (by omega)]; exact h12
theorem PR_cg {M R M2 R2 : gq_M} {j : Nat} (h : PR M R j) (hM : ∀ a, 116 ≤ a → a ≤ 118 → M2 a j = M a j) (hR : ∀ a, 40 ≤ a → a ≤ 43 → R2 a j = R a j) : PR M2 R2 j := by
  unfold PR
  rw [hM 116 (by omega) (by omega), hM 117 (by omega) (by omega), hM 118 (by omega) (by omega), hR 40 (by omega) (by omega), hR 41 (by omega) (by omega), hR 42 (by omega) (by omega), hR 43 (by omega) (by omega)]
  exact h
-- what is read out of a number
theorem rd {n a b : Nat} (ha : a < 2 ^ 31) (hb : b < 2 ^ 31) (hn : n < 2 ^ 31) : nI n / nI a - nI n / nI a / nI b * nI b = nI (n / a % b) := by
  have h1 : n / a ≤ n := Nat.div_le_self n a
  have h2 : n / a / b ≤ n / a := Nat.div_le_self _ _
  have h3 : n / a / b * b ≤ n / a := Nat.div_mul_le_self _ _
  rw [nI_div hn ha, nI_div (by omega) hb, nI_mul, nI_sub h3]
  congr 1
  have := Nat.div_add_mod (n / a) b
  rw [Nat.mul_comm] at this
  omega
theorem rd1 {n b : Nat} (hb : b < 2 ^ 31) (hn : n < 2 ^ 31) : nI n - nI n / nI b * nI b = nI (n % b) := by
  have h3 : n / b * b ≤ n := Nat.div_mul_le_self _ _
  rw [nI_div hn hb, nI_mul, nI_sub h3]
  congr 1
  have := Nat.div_add_mod n b
  rw [Nat.mul_comm] at this
  omega
theorem nI_j {a b : Nat} (ha : a < 2 ^ 31) (hb : b < 2 ^ 31) : nI a = nI b ↔ a = b := by
  constructor
  · intro h
    have := congrArg Int32.toInt h
    rw [nI_toInt ha, nI_toInt hb] at this
    omega
  · intro h; rw [h]
/-- what a box's number holds -/
theorem BX_a {M R : gq_M} {b : Nat} (h : BX M R b) : M 109 b - M 109 b / 8 * 8 = R 13 b ∧ M 109 b / 8 - M 109 b / 8 / 4 * 4 = R 14 b ∧ M 109 b / 32 - M 109 b / 32 / 4 * 4 = R 15 b ∧ M 109 b / 128 - M 109 b / 128 / 16 * 16 = R 16 b ∧ M 109 b / 2048 - M 109 b / 2048 / 8 * 8 = R 19 b ∧ M 109 b / 16384 - M 109 b / 16384 / 2 * 2 = R 20 b ∧ M 109 b / 32768 = R 25 b := by
  obtain ⟨bo, ki, si, fr, st, wc, cl, kl, re, so, h1, h2, h3, -⟩ := h
  obtain ⟨e1, e2, e3, e4, e5, e6, e7, e8, e9⟩ := h2
  have k : bo + 8 * ki + 32 * si + 128 * fr + 2048 * st + 16384 * wc + 32768 * cl < 2 ^ 31 := by omega
  rw [h3, e1, e2, e3, e4, e5, e6, e7]
  refine ⟨(rd1 (b := 8) (by omega) k).trans (congrArg nI (by omega)), (rd (a := 8) (b := 4) (by omega) (by omega) k).trans (congrArg nI (by omega)), (rd (a := 32) (b := 4) (by omega) (by omega) k).trans (congrArg nI (by omega)), (rd (a := 128) (b := 16) (by omega) (by omega) k).trans (congrArg nI (by omega)), (rd (a := 2048) (b := 8) (by omega) (by omega) k).trans (congrArg nI (by omega)), (rd (a := 16384) (b := 2) (by omega) (by omega) k).trans (congrArg nI (by omega)), (nI_div (b := 32768) k (by omega)).trans (congrArg nI (by omega))⟩
theorem BX_e {M R : gq_M} {b : Nat} (h : BX M R b) : M 110 b - M 110 b / 128 * 128 = R 17 b ∧ M 110 b / 128 - M 110 b / 128 / 128 * 128 = R 18 b := by
  obtain ⟨bo, ki, si, fr, st, wc, cl, kl, re, so, h1, h2, h3, h4, -⟩ := h
  obtain ⟨e1, e2, e3, e4, e5, e6, e7, e8, e9⟩ := h2
  have k : kl + 128 * re + 16384 * so < 2 ^ 31 := by omega
  rw [h4, e8, e9]
  exact ⟨(rd1 (b := 128) (by omega) k).trans (congrArg nI (by omega)), (rd (a := 128) (b := 128) (by omega) (by omega) k).trans (congrArg nI (by omega))⟩
theorem BX_d {M R : gq_M} {b : Nat} (h : BX M R b) : M 112 b - M 112 b / 16 * 16 - 1 = R 21 b ∧ (if M 112 b = 0 then (-1 : Int32) else M 112 b / 16) = R 22 b := by
  obtain ⟨bo, ki, si, fr, st, wc, cl, kl, re, so, h1, h2, h3, h4, h5, h6⟩ := h
  rcases h6 with ⟨q1, q2, q3, q4⟩ | ⟨w, p, t, d, b1, b2, b3, b4, b5, q1, q2, q3, q4, q5, q6⟩
  · rw [q1, q2, q3]; exact ⟨by decide, rfl⟩
  · rw [q1, q2, q5]
    have k : w + 1 + 16 * p < 2 ^ 31 := by omega
    refine ⟨?_, ?_⟩
    · have := rd1 (b := 16) (n := w + 1 + 16 * p) (by omega) k
      rw [show nI 16 = (16 : Int32) from rfl] at this
      rw [this, show (w + 1 + 16 * p) % 16 = w + 1 by omega, show (1 : Int32) = nI 1 from rfl, nI_sub (by omega)]
      rfl
    · rw [if_neg (fun h => by have := (nI_j k (show 0 < 2 ^ 31 by omega)).mp h; omega)]
      exact (nI_div (b := 16) k (by omega)).trans (congrArg nI (by omega))
theorem LT_l {M R : gq_M} {k : Nat} (h : LT M R k) : M 114 k - M 114 k / 8 * 8 = R 27 k ∧ M 114 k / 8 - M 114 k / 8 / 4 * 4 = R 28 k ∧ M 114 k / 32 - M 114 k / 32 / 4 * 4 = R 29 k ∧ M 114 k / 128 - M 114 k / 128 / 16 * 16 = R 30 k ∧ M 114 k / 2048 - M 114 k / 2048 / 4 * 4 = R 31 k ∧ (M 114 k ≤ 8191 ↔ R 32 k = 0) := by
  obtain ⟨bo, ki, si, fr, ha, dn, h1, h2, h3⟩ := h
  obtain ⟨e1, e2, e3, e4, e5, e6⟩ := h2
  have k : bo + 8 * ki + 32 * si + 128 * fr + 2048 * ha + 8192 * dn < 2 ^ 31 := by omega
  rw [h3, e1, e2, e3, e4, e5, e6]
  refine ⟨(rd1 (b := 8) (by omega) k).trans (congrArg nI (by omega)), (rd (a := 8) (b := 4) (by omega) (by omega) k).trans (congrArg nI (by omega)), (rd (a := 32) (b := 4) (by omega) (by omega) k).trans (congrArg nI (by omega)), (rd (a := 128) (b := 16) (by omega) (by omega) k).trans (congrArg nI (by omega)), (rd (a := 2048) (b := 4) (by omega) (by omega) k).trans (congrArg nI (by omega)), ?_⟩
  rw [show (8191 : Int32) = nI 8191 from rfl, nI_leI k (by omega), show (0 : Int32) = nI 0 from rfl, nI_j (by omega) (by omega)]
  omega

