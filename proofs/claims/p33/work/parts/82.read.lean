/-! the law's small methods, read -/
theorem nI_lit0 : (0 : Int32) = nI 0 := rfl
theorem l_thr {β : Type} {a b : Nat} (h : a < b) (hb : b < 2 ^ 31) (x y : β) : (if nI b ≤ nI a then x else y) = y := if_neg (nI_ge h hb)
theorem gi0_56 {β : Type} {a : Option β} : gq_g (gq_in 0 56) a = a := rfl
theorem gi1_56 {β : Type} {a : Option β} : gq_g (gq_in 1 56) a = a := rfl
theorem gi2_56 {β : Type} {a : Option β} : gq_g (gq_in 2 56) a = a := rfl
theorem gi3_56 {β : Type} {a : Option β} : gq_g (gq_in 3 56) a = a := rfl
theorem gi4_56 {β : Type} {a : Option β} : gq_g (gq_in 4 56) a = a := rfl
theorem gi5_56 {β : Type} {a : Option β} : gq_g (gq_in 5 56) a = a := rfl
theorem gi6_56 {β : Type} {a : Option β} : gq_g (gq_in 6 56) a = a := rfl
theorem gi7_56 {β : Type} {a : Option β} : gq_g (gq_in 7 56) a = a := rfl
theorem gi8_56 {β : Type} {a : Option β} : gq_g (gq_in 8 56) a = a := rfl
theorem gi9_56 {β : Type} {a : Option β} : gq_g (gq_in 9 56) a = a := rfl
theorem gi0_24 {β : Type} {a : Option β} : gq_g (gq_in 0 24) a = a := rfl
theorem gi1_24 {β : Type} {a : Option β} : gq_g (gq_in 1 24) a = a := rfl
theorem gi2_24 {β : Type} {a : Option β} : gq_g (gq_in 2 24) a = a := rfl
theorem gi3_24 {β : Type} {a : Option β} : gq_g (gq_in 3 24) a = a := rfl
theorem gi4_24 {β : Type} {a : Option β} : gq_g (gq_in 4 24) a = a := rfl
theorem gi5_24 {β : Type} {a : Option β} : gq_g (gq_in 5 24) a = a := rfl
theorem gi6_24 {β : Type} {a : Option β} : gq_g (gq_in 6 24) a = a := rfl
theorem gi7_24 {β : Type} {a : Option β} : gq_g (gq_in 7 24) a = a := rfl
theorem gi8_24 {β : Type} {a : Option β} : gq_g (gq_in 8 24) a = a := rfl
theorem gi9_24 {β : Type} {a : Option β} : gq_g (gq_in 9 24) a = a := rfl
theorem gi0_40 {β : Type} {a : Option β} : gq_g (gq_in 0 40) a = a := rfl
theorem gi1_40 {β : Type} {a : Option β} : gq_g (gq_in 1 40) a = a := rfl
theorem gi2_40 {β : Type} {a : Option β} : gq_g (gq_in 2 40) a = a := rfl
theorem gi3_40 {β : Type} {a : Option β} : gq_g (gq_in 3 40) a = a := rfl
theorem gi4_40 {β : Type} {a : Option β} : gq_g (gq_in 4 40) a = a := rfl
theorem gi5_40 {β : Type} {a : Option β} : gq_g (gq_in 5 40) a = a := rfl
theorem gi6_40 {β : Type} {a : Option β} : gq_g (gq_in 6 40) a = a := rfl
theorem gi7_40 {β : Type} {a : Option β} : gq_g (gq_in 7 40) a = a := rfl
theorem gi8_40 {β : Type} {a : Option β} : gq_g (gq_in 8 40) a = a := rfl
theorem gi9_40 {β : Type} {a : Option β} : gq_g (gq_in 9 40) a = a := rfl
theorem gi0_64 {β : Type} {a : Option β} : gq_g (gq_in 0 64) a = a := rfl
theorem gi1_64 {β : Type} {a : Option β} : gq_g (gq_in 1 64) a = a := rfl
theorem gi2_64 {β : Type} {a : Option β} : gq_g (gq_in 2 64) a = a := rfl
theorem gi3_64 {β : Type} {a : Option β} : gq_g (gq_in 3 64) a = a := rfl
theorem gi4_64 {β : Type} {a : Option β} : gq_g (gq_in 4 64) a = a := rfl
theorem gi5_64 {β : Type} {a : Option β} : gq_g (gq_in 5 64) a = a := rfl
theorem gi6_64 {β : Type} {a : Option β} : gq_g (gq_in 6 64) a = a := rfl
theorem gi7_64 {β : Type} {a : Option β} : gq_g (gq_in 7 64) a = a := rfl
theorem gi8_64 {β : Type} {a : Option β} : gq_g (gq_in 8 64) a = a := rfl
theorem gi9_64 {β : Type} {a : Option β} : gq_g (gq_in 9 64) a = a := rfl
theorem cl0 : (0 : Int32).toNatClampNeg = 0 := rfl
theorem cl1 : (1 : Int32).toNatClampNeg = 1 := rfl
theorem cl2 : (2 : Int32).toNatClampNeg = 2 := rfl
theorem cl3 : (3 : Int32).toNatClampNeg = 3 := rfl
theorem cl4 : (4 : Int32).toNatClampNeg = 4 := rfl
theorem cl5 : (5 : Int32).toNatClampNeg = 5 := rfl
theorem cl6 : (6 : Int32).toNatClampNeg = 6 := rfl
theorem cl7 : (7 : Int32).toNatClampNeg = 7 := rfl
theorem cl8 : (8 : Int32).toNatClampNeg = 8 := rfl
theorem cl9 : (9 : Int32).toNatClampNeg = 9 := rfl
theorem cy0 : (0 : Int32) = nI 0 := rfl
theorem cy1 : (1 : Int32) = nI 1 := rfl
theorem cy2 : (2 : Int32) = nI 2 := rfl
theorem cy3 : (3 : Int32) = nI 3 := rfl
theorem cy4 : (4 : Int32) = nI 4 := rfl
theorem cy5 : (5 : Int32) = nI 5 := rfl
theorem cy6 : (6 : Int32) = nI 6 := rfl
theorem cy7 : (7 : Int32) = nI 7 := rfl
theorem bI_e0 {p : Prop} [Decidable p] : (bI p = 0) = ¬ p := propext bI_z
section
variable {N nb b l : Nat} {M R : gq_M}
theorem l_how (h : BX M R b) (hb : b < 40) : f_L_how N (nI b) M = some (R 19 b, M) := by
  unfold f_L_how
  rw [g_inN hb (by omega), gq_l_e, nI_clamp (by omega), (BX_a h).2.2.2.2.1]
theorem l_isLeft (h : BX M R b) (hb : b < 40) : f_L_isLeft N (nI b) (nI l) M = some (bI (isO R l b = true), M) := by
  have hc : M 111 b = R 26 b := by
    obtain ⟨bo, ki, si, fr, st, wc, cl, kl, re, so, h1, h2, h3, h4, h5, h6⟩ := h
    exact h5
  unfold f_L_isLeft f_L_isLeft_20 f_L_isLeft_21
  rw [g_inN hb (by omega), gq_l_e, nI_clamp (by omega), hc, l_how h hb, gq_b_s, g_bb0, g_bb1]
  unfold isO
  by_cases c1 : R 26 b = nI l
  · by_cases c2 : R 19 b = 2
    · rw [if_pos c1, if_pos c2, bI_t (by simp [c1, c2])]
    · rw [if_pos c1, if_neg c2, bI_f (by simp [c2])]
  · rw [if_neg c1, bI_f (by simp [c1])]
theorem l_toSell (h : BX M R b) (hb : b < 40) : f_L_isToSell N (nI b) M = some (bI (R 19 b = 0 ∨ R 19 b = 6), M) := by
  unfold f_L_isToSell f_L_isToSell_18 f_L_isToSell_23
  rw [l_how h hb, gq_b_s]
  by_cases c1 : R 19 b = 0
  · rw [if_pos c1, bI_t (Or.inl c1)]; rfl
  · rw [if_neg c1, l_how h hb, gq_b_s]
    by_cases c2 : R 19 b = 6
    · rw [if_pos c2, bI_t (Or.inr c2)]; rfl
    · rw [if_neg c2, bI_f (fun h => h.elim c1 c2)]; rfl
theorem l_becomes {v : Int32} (h : BX M R b) (hb : b < 40) : f_L_becomes N (nI b) v M = some (0, gq_up M 109 b (M 109 b + 2048 * (v - R 19 b))) := by
  unfold f_L_becomes
  rw [g_inN hb (by omega), gq_l_e, l_how h hb, gq_b_s, g_inN hb (by omega), gq_l_e, nI_clamp (by omega)]
theorem l_left_l (hM : M 119 4 = nI nb) (hl : nb ≤ 40) (hB : ∀ b, b < nb → BX M R b) : ∀ (k i n9 : Nat) (acc : Int32), i + k = nb → k < n9 → f_L_left_6 N n9 (nI l) acc (nI i) M = some (acc + nI (cnt (rg i k) (isO R l)), M) := by
  intro k
  induction k with
  | zero =>
    intro i n9 acc hi h9
    obtain ⟨n9, rfl⟩ : ∃ z, n9 = z + 1 := ⟨n9 - 1, by omega⟩
    show f_L_left_6_b N (f_L_left_6 N n9) (nI l) acc (nI i) M = _
    unfold f_L_left_6_b
    rw [gi4_56, cl4, gq_l_e, hM, if_pos (nI_le (by omega) (by omega))]
    show _ = some (acc + nI 0, M)
    rw [zadd]
  | succ k ih =>
    intro i n9 acc hi h9
    obtain ⟨n9, rfl⟩ : ∃ z, n9 = z + 1 := ⟨n9 - 1, by omega⟩
    show f_L_left_6_b N (f_L_left_6 N n9) (nI l) acc (nI i) M = _
    unfold f_L_left_6_b f_L_left_32
    rw [gi4_56, cl4, gq_l_e, hM, if_neg (nI_ge (by omega) (by omega)), l_isLeft (hB i (by omega)) (by omega), gq_b_s, nI_1, ih (i + 1) n9 _ (by omega) (by omega), ih (i + 1) n9 _ (by omega) (by omega), rg_s, cnt_cons]
    by_cases c : isO R l i = true
    · rw [if_neg (fun h => (bI_z.mp h) c), if_pos c, cadd]
    · rw [if_pos (bI_z.mpr c), if_neg c, Int32.add_zero, cadd0]
theorem l_left (hM : M 119 4 = nI nb) (hl : nb ≤ 40) (hB : ∀ b, b < nb → BX M R b) (hN : 600 ≤ N) : f_L_left N (nI l) M = some (nI (offl nb (R 26) (R 19) l).length, M) := by
  show f_L_left_6 N N (nI l) 0 (nI 0) M = _
  rw [l_left_l hM hl hB nb 0 N 0 (by omega) (by omega), Int32.zero_add]
  rfl
theorem l_first_l {a : Nat} {t : List Nat} (hM : M 119 4 = nI nb) (hl : nb ≤ 40) (hB : ∀ b, b < nb → BX M R b) : ∀ (k i n9 : Nat), i + k = nb → k < n9 → (rg i k).filter (isO R l) = a :: t → f_L_first_3 N n9 (nI l) (nI i) M = some (nI a, M) := by
  intro k
  induction k with
  | zero => intro i n9 hi h9 hT; cases hT
  | succ k ih =>
    intro i n9 hi h9 hT
    obtain ⟨n9, rfl⟩ : ∃ z, n9 = z + 1 := ⟨n9 - 1, by omega⟩
    show f_L_first_3_b N (f_L_first_3 N n9) (nI l) (nI i) M = _
    unfold f_L_first_3_b f_L_first_30
    have e1 : nI nb - 1 = nI (nb - 1) := by
      rw [show (1 : Int32) = nI 1 from rfl, nI_sub (by omega)]
    rw [gi4_56, cl4, gq_l_e, hM, e1, l_isLeft (hB i (by omega)) (by omega), gq_b_s, nI_1]
    rw [rg_s, List.filter_cons] at hT
    by_cases c : isO R l i = true
    · rw [if_pos c] at hT
      cases hT
      by_cases c2 : nI (nb - 1) ≤ nI a
      · rw [if_pos c2]
      · rw [if_neg c2, if_neg (fun h => (bI_z.mp h) c)]
    · rw [if_neg c] at hT
      have hk : k ≠ 0 := fun h => by rw [h] at hT; cases hT
      rw [if_neg (nI_ge (by omega) (by omega)), if_pos (bI_z.mpr c)]
      exact ih (i + 1) n9 (by omega) (by omega) hT
theorem l_first {a : Nat} {t : List Nat} (hM : M 119 4 = nI nb) (hl : nb ≤ 40) (hB : ∀ b, b < nb → BX M R b) (hN : 600 ≤ N) (hT : offl nb (R 26) (R 19) l = a :: t) : f_L_first N (nI l) M = some (nI a, M) := l_first_l hM hl hB nb 0 N (by omega) (by omega) hT
def bgL (h i : Nat) (M : gq_M) : gq_M := fun a => if a = 116 then blk (8 * h + i) (8 * h + 8) (-1) (M a) else M a
theorem l_begins_l {h : Nat} (hh : h < 3) : ∀ (k i n9 : Nat) (M : gq_M), i + k = 8 → k < n9 → f_L_begins_2 N n9 (nI h) (nI i) M = some (0, bgL h i M) := by
  intro k
  induction k with
  | zero =>
    intro i n9 M hi h9
    obtain ⟨n9, rfl⟩ : ∃ z, n9 = z + 1 := ⟨n9 - 1, by omega⟩
    obtain rfl : i = 8 := by omega
    show f_L_begins_2_b N (f_L_begins_2 N n9) (nI h) (nI 8) M = _
    unfold f_L_begins_2_b
    rw [if_pos (show (8 : Int32) ≤ nI 8 by decide)]
    congr 2
    funext a
    unfold bgL
    by_cases ha : a = 116
    · rw [if_pos ha, blk_0 (by omega)]
    · rw [if_neg ha]
  | succ k ih =>
    intro i n9 M hi h9
    obtain ⟨n9, rfl⟩ : ∃ z, n9 = z + 1 := ⟨n9 - 1, by omega⟩
    show f_L_begins_2_b N (f_L_begins_2 N n9) (nI h) (nI i) M = _
    unfold f_L_begins_2_b
    rw [if_neg (fun h2 => by have := (nI_leI (a := 8) (by omega) (by omega)).mp h2; omega), pl8b, g_inN (by omega) (by omega), gq_l_e, nI_clamp (by omega), nI_1, ih (i + 1) n9 _ (by omega) (by omega)]
    congr 2
    funext a
    unfold bgL
    by_cases ha : a = 116
    · subst ha
      rw [if_pos rfl, if_pos rfl, up_row]
      exact blk_up (i := 8 * h + i) (by omega)
    · rw [if_neg ha, if_neg ha, up_ne ha]
theorem l_begins {h : Nat} {M : gq_M} (hh : h < 3) (hN : 600 ≤ N) : f_L_begins N (nI h) M = some (0, bgL h 0 M) := l_begins_l hh 8 0 N M (by omega) (by omega)
end

