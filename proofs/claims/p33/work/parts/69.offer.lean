/-! pure: the class offers a boat's boxes -/
def crF (nb : Nat) (W : Nat → Bool) (rn : Nat → Nat) (r : Nat) : Nat := cnt (rg 0 nb) (wr W rn r)
def LNf (nl : Nat) (cr : Nat → Nat) (r : Nat) : Nat := nl + cnt (rg 0 r) (ps cr)
def FNf (res : Nat) (cr : Nat → Nat) (r : Nat) : Nat := res + nsum (rg 0 r) cr
def alC (i k : Nat) (W : Nat → Bool) (rn : Nat → Nat) (M : gq_M) : gq_M := fun a => if a = 75 then (fun r => if r < 108 then M a r + nI (cnt (rg i k) (wr W rn r)) else M a r) else M a
theorem m_alike_l {N nb g : Nat} {W : Nat → Bool} {rn : Nat → Nat} (hb : nb ≤ 150) : ∀ (k i n9 : Nat) (M : gq_M), M 34 13 = nI nb → (∀ b, b < nb → (W b = true ↔ ((M 44 b = 0 ∨ M 44 b = 6) ∧ M 36 b = nI g))) → (∀ b, b < nb → rn b < 108 ∧ M 38 b = nI (rn b)) → i + k = nb → k < n9 → f_X9_offerBoat_25 N n9 (nI g) (nI i) M = f_X9_offerBoat_92 N N (nI g) 0 (alC i k W rn M) := by
  intro k
  induction k with
  | zero =>
    intro i n9 M hM hW hr hi h9
    obtain ⟨n9, rfl⟩ : ∃ z, n9 = z + 1 := ⟨n9 - 1, by omega⟩
    have he : nb ≤ i := by omega
    show f_X9_offerBoat_25_b N (f_X9_offerBoat_25 N n9) (nI g) (nI i) M = _
    unfold f_X9_offerBoat_25_b
    simp (disch := omega) only [hM, nI_leI, he, ↓reduceIte]
    congr 1
    funext a
    unfold alC
    split
    · funext j
      split
      · exact (zadd _).symm
      · rfl
    · rfl
  | succ k ih =>
    intro i n9 M hM hW hr hi h9
    obtain ⟨n9, rfl⟩ : ∃ z, n9 = z + 1 := ⟨n9 - 1, by omega⟩
    have he : ¬ nI nb ≤ nI i := fun h2 => by have := (nI_leI (by omega) (by omega)).mp h2; omega
    show f_X9_offerBoat_25_b N (f_X9_offerBoat_25 N n9) (nI g) (nI i) M = _
    unfold f_X9_offerBoat_25_b f_X9_offerBoat_84
    rw [hM, if_neg he, b_atN (by omega) (by omega)]
    have skip : ¬ W i = true → alC (i + 1) k W rn M = alC i (k + 1) W rn M := fun hn => by
      funext a
      unfold alC
      by_cases ha : a = 75
      · rw [if_pos ha, if_pos ha]
        funext j
        by_cases hj : j < 108
        · rw [if_pos hj, if_pos hj, rg_s, cnt_cons, if_neg (fun hz => hn (wr_t.mp hz).1), Nat.zero_add]
        · rw [if_neg hj, if_neg hj]
      · rw [if_neg ha, if_neg ha]
    by_cases c : W i = true
    · obtain ⟨c1, c2⟩ := (hW i (by omega)).mp c
      obtain ⟨r1, r2⟩ := hr i (by omega)
      rw [if_pos c2, b_isWaiting (by omega), bI_t c1, if_neg (show ¬ (1 : Int32) = 0 by decide), b_atN (by omega) (by omega), r2, b_addN (by omega) (by omega), nI_1, ih (i + 1) n9 (gq_up M 75 (rn i) (M 75 (rn i) + 1)) hM hW hr (by omega) (by omega)]
      congr 1
      funext a
      unfold alC
      by_cases ha : a = 75
      · subst ha
        rw [if_pos rfl, if_pos rfl, up_row]
        funext j
        by_cases hj : j < 108
        · rw [if_pos hj, if_pos hj, rg_s, cnt_cons]
          by_cases hjg : j = rn i
          · subst hjg
            rw [upd_s, if_pos (wr_t.mpr ⟨c, rfl⟩), cadd]
          · rw [upd_n hjg, if_neg (fun hz => hjg (wr_t.mp hz).2.symm), Nat.zero_add]
        · rw [if_neg hj, if_neg hj, upd_n (by omega)]
      · rw [if_neg ha, if_neg ha, up_ne ha]
    · by_cases c2 : M 36 i = nI g
      · rw [if_pos c2, b_isWaiting (by omega), bI_f (fun c1 => c ((hW i (by omega)).mpr ⟨c1, c2⟩)), if_pos rfl, nI_1, ih (i + 1) n9 _ hM hW hr (by omega) (by omega), skip c]
      · rw [if_neg c2, nI_1, ih (i + 1) n9 _ hM hW hr (by omega) (by omega), skip c]
theorem m_lotadd {β : Type} {N c s g r m : Nat} {h : Int32} {M : gq_M} {F : Int32 → gq_M → Option β} (h7 : M 61 7 = nI c) (h8 : M 61 8 = nI s) (hr : M 75 r = nI m) (hc : c < 150) (hr2 : r < 108) : gq_b (f_X6_add N (nI g) (nI r) h M) F = F 0 (gq_up (gq_up (gq_up (gq_up (gq_up (gq_up (gq_up (gq_up M 63 c (nI g)) 65 c (nI r)) 67 c h) 69 c (nI s)) 71 c (nI s)) 75 r (nI c)) 61 8 (nI (s + m))) 61 7 (nI (c + 1))) := by
  unfold f_X6_add
  rw [h7, b_putN (by omega) (by omega)]
  rw [show (gq_up M 63 c (nI g)) 61 7 = nI c from h7, b_putN (by omega) (by omega)]
  rw [show (gq_up (gq_up M 63 c (nI g)) 65 c (nI r)) 61 7 = nI c from h7, b_putN (by omega) (by omega)]
  rw [show (gq_up (gq_up (gq_up M 63 c (nI g)) 65 c (nI r)) 67 c h) 61 7 = nI c from h7, show (gq_up (gq_up (gq_up M 63 c (nI g)) 65 c (nI r)) 67 c h) 61 8 = nI s from h8, b_putN (by omega) (by omega)]
  rw [show (gq_up (gq_up (gq_up (gq_up M 63 c (nI g)) 65 c (nI r)) 67 c h) 69 c (nI s)) 61 7 = nI c from h7, show (gq_up (gq_up (gq_up (gq_up M 63 c (nI g)) 65 c (nI r)) 67 c h) 69 c (nI s)) 61 8 = nI s from h8, b_putN (by omega) (by omega)]
  generalize hM1 : gq_up (gq_up (gq_up (gq_up (gq_up M 63 c (nI g)) 65 c (nI r)) 67 c h) 69 c (nI s)) 71 c (nI s) = M1
  have e7 : M1 61 7 = nI c := by rw [← hM1]; exact h7
  have e8 : M1 61 8 = nI s := by rw [← hM1]; exact h8
  have e9 : M1 75 r = nI m := by rw [← hM1]; exact hr
  rw [e7, b_swapN (by omega) (by omega), e8, e9, gq_l_e, gq_l_e, gq_b_s, nI_add]
  have e10 : gq_up (gq_up M1 75 r (nI c)) 61 8 (nI (s + m)) 61 7 = nI c := e7
  rw [e10, nI_1]

abbrev flC : List Nat := [61, 63, 65, 67, 69, 71, 75]
def LK (c : Nat) (M M2 : gq_M) : Prop := ∀ l, l < c → M2 63 l = M 63 l ∧ M2 65 l = M 65 l ∧ M2 67 l = M 67 l ∧ M2 69 l = M 69 l ∧ M2 71 l = M 71 l
def LN1 (M M2 : gq_M) (g r l f : Nat) : Prop := M2 75 r = nI l ∧ M2 63 l = nI g ∧ M2 65 l = nI r ∧ M2 67 l = M 22 (r / 27) ∧ M2 69 l = nI f ∧ M2 71 l = nI f
theorem m_lots_l {N g : Nat} {cr : Nat → Nat} : ∀ (k i n9 c s : Nat) (M : gq_M), M 61 7 = nI c → M 61 8 = nI s → (∀ r, i ≤ r → r < 108 → M 75 r = nI (cr r)) → c + cnt (rg i k) (ps cr) ≤ 150 → s + nsum (rg i k) cr ≤ 150 → i + k = 108 → k < n9 → ∃ M2, f_X9_offerBoat_92 N n9 (nI g) (nI i) M = f_X9_offerBoat_143 N N (nI g) 0 M2 ∧ fr flC M M2 ∧ M2 61 7 = nI (c + cnt (rg i k) (ps cr)) ∧ M2 61 8 = nI (s + nsum (rg i k) cr) ∧ LK c M M2 ∧ (∀ r, r < i → M2 75 r = M 75 r) ∧ ∀ r, i ≤ r → r < 108 → 0 < cr r → LN1 M M2 g r (c + cnt (rg i (r - i)) (ps cr)) (s + nsum (rg i (r - i)) cr) := by
  intro k
  induction k with
  | zero =>
    intro i n9 c s M h7 h8 ha hc hs hi h9
    obtain ⟨n9, rfl⟩ : ∃ z, n9 = z + 1 := ⟨n9 - 1, by omega⟩
    obtain rfl : i = 108 := by omega
    refine ⟨M, ?_, fr_rf _ _, h7, h8, fun l _ => ⟨rfl, rfl, rfl, rfl, rfl⟩, fun r _ => rfl, fun r h1 h2 => by omega⟩
    show f_X9_offerBoat_92_b N (f_X9_offerBoat_92 N n9) (nI g) (nI 108) M = _
    unfold f_X9_offerBoat_92_b
    rw [if_pos (show (108 : Int32) ≤ nI 108 by decide)]
  | succ k ih =>
    intro i n9 c s M h7 h8 ha hc hs hi h9
    obtain ⟨n9, rfl⟩ : ∃ z, n9 = z + 1 := ⟨n9 - 1, by omega⟩
    have he : ¬ (108 : Int32) ≤ nI i := fun h2 => by have := (nI_leI (a := 108) (by omega) (by omega)).mp h2; omega
    have hs' : s + (cr i + nsum (rg (i + 1) k) cr) ≤ 150 := by rw [rg_s] at hs; exact hs
    rw [rg_s, cnt_cons] at hc
    have eF : ∀ r, i < r → nsum (rg i (r - i)) cr = cr i + nsum (rg (i + 1) (r - (i + 1))) cr := fun r h => by
      rw [show r - i = (r - (i + 1)) + 1 by omega, rg_s]; rfl
    have eL : ∀ r, i < r → cnt (rg i (r - i)) (ps cr) = (if ps cr i = true then 1 else 0) + cnt (rg (i + 1) (r - (i + 1))) (ps cr) := fun r h => by
      rw [show r - i = (r - (i + 1)) + 1 by omega, rg_s, cnt_cons]
    have eS : nsum (rg i (k + 1)) cr = cr i + nsum (rg (i + 1) k) cr := by rw [rg_s]; rfl
    rw [eS, rg_s, cnt_cons]
    show ∃ M2, f_X9_offerBoat_92_b N (f_X9_offerBoat_92 N n9) (nI g) (nI i) M = _ ∧ _
    unfold f_X9_offerBoat_92_b f_X9_offerBoat_135
    rw [if_neg he, b_atN (by omega) (by omega), ha i (Nat.le_refl _) (by omega)]
    by_cases h0 : 0 < cr i
    · have hp : ps cr i = true := ps_t.mpr h0
      rw [if_pos hp] at hc
      have hn : ¬ nI (cr i) ≤ 0 := fun h2 => by have := (nI_leI (b := 0) (by omega) (by omega)).mp h2; omega
      rw [if_neg hn]
      unfold f_X1_kindOf
      rw [gq_b_s, show (nI i / 27 : Int32) = nI (i / 27) from nI_div (b := 27) (by omega) (by omega), b_atN (by omega) (by omega), m_lotadd h7 h8 (ha i (Nat.le_refl _) (by omega)) (by omega) (by omega), nI_1]
      obtain ⟨M2, t1, t2, t3, t4, t5, t6, t7⟩ := ih (i + 1) n9 (c + 1) (s + cr i) (gq_up (gq_up (gq_up (gq_up (gq_up (gq_up (gq_up (gq_up M 63 c (nI g)) 65 c (nI i)) 67 c (M 22 (i / 27))) 69 c (nI s)) 71 c (nI s)) 75 i (nI c)) 61 8 (nI (s + cr i))) 61 7 (nI (c + 1))) rfl rfl (fun r h1 h2 => (upd_n (f := M 75) (j := i) (k := r) (v := nI c) (by omega)).trans (ha r (by omega) h2)) (by omega) (by omega) (by omega) (by omega)
      refine ⟨M2, t1, fr_tr (fr_up (fr_up (fr_up (fr_up (fr_up (fr_up (fr_up (fr_up (fr_rf _ _) (by decide)) (by decide)) (by decide)) (by decide)) (by decide)) (by decide)) (by decide)) (by decide)) t2, ?_, ?_, fun l hl => ?_, fun r hr => ?_, fun r h1 h2 h3 => ?_⟩
      · rw [t3, if_pos hp]; congr 1; omega
      · rw [t4]; congr 1; omega
      · obtain ⟨u1, u2, u3, u4, u5⟩ := t5 l (by omega)
        exact ⟨u1.trans (upd_n (by omega)), u2.trans (upd_n (by omega)), u3.trans (upd_n (by omega)), u4.trans (upd_n (by omega)), u5.trans (upd_n (by omega))⟩
      · exact (t6 r (by omega)).trans (upd_n (by omega))
      · by_cases hri : r = i
        · subst hri
          obtain ⟨u1, u2, u3, u4, u5⟩ := t5 c (by omega)
          rw [Nat.sub_self]
          exact ⟨(t6 r (by omega)).trans (upd_s _ _ _), u1.trans (upd_s _ _ _), u2.trans (upd_s _ _ _), u3.trans (upd_s _ _ _), u4.trans (upd_s _ _ _), u5.trans (upd_s _ _ _)⟩
        · have := t7 r (by omega) h2 h3
          rw [eF r (by omega), eL r (by omega), if_pos hp, ← Nat.add_assoc, ← Nat.add_assoc]
          exact this
    · have hp : ¬ ps cr i = true := fun h => h0 (ps_t.mp h)
      have hz : cr i = 0 := by omega
      rw [if_neg hp] at hc
      rw [if_pos (show nI (cr i) ≤ 0 by rw [hz]; decide), nI_1]
      obtain ⟨M2, t1, t2, t3, t4, t5, t6, t7⟩ := ih (i + 1) n9 c s M h7 h8 (fun r h1 h2 => ha r (by omega) h2) (by omega) (by omega) (by omega) (by omega)
      refine ⟨M2, t1, t2, ?_, ?_, t5, fun r hr => t6 r (by omega), fun r h1 h2 h3 => ?_⟩
      · rw [t3, if_neg hp, Nat.zero_add]
      · rw [t4, hz, Nat.zero_add]
      · have hri : i < r := Nat.lt_of_le_of_ne h1 (fun hh => by subst hh; omega)
        have := t7 r (by omega) h2 h3
        rw [eF r hri, eL r hri, if_neg hp, hz, Nat.zero_add, Nat.zero_add]
        exact this

theorem up_id {M : gq_M} {k j : Nat} {v : Int32} (h : M k j = v) : gq_up M k j v = M := by
  funext a
  by_cases ha : a = k
  · subst ha
    rw [up_row]
    funext i
    by_cases hi : i = j
    · subst hi; rw [upd_s, h]
    · rw [upd_n hi]
  · rw [up_ne ha]
theorem m_move2 {β : Type} {N i : Nat} {M : gq_M} {F : Int32 → gq_M → Option β} (hi : i < 150) (hs : M 44 i = 0 ∨ M 44 i = 6) : gq_b (f_X1_move N (nI i) 2 M) F = F 0 (gq_up M 44 i 2) := by
  unfold f_X1_move
  have e5 : smN (M 44 i) = 5 := by rcases hs with h | h <;> rw [h] <;> rfl
  have er : rng 0 7 (M 44 i) := by
    rcases hs with h | h
    · rw [h]; exact ⟨0, by omega, by omega, rfl⟩
    · rw [h]; exact ⟨6, by omega, by omega, rfl⟩
  have ev : (gq_up M 60 5 (M 60 5 + -M 40 i)) 60 5 + (gq_up M 60 5 (M 60 5 + -M 40 i)) 40 i = M 60 5 := by
    show M 60 5 + -M 40 i + M 40 i = M 60 5
    grind
  rw [b_atN (by omega) (by omega), b_sumOf' er, e5, b_atN (by omega) (by omega), b_addN (by omega) (by omega), b_sumOf2, b_atN (by omega) (by omega), b_addN (by omega) (by omega), up_up, ev, up_id rfl, b_putN (by omega) (by omega), gq_b_s]
theorem m_addBox {β : Type} {N l r p b : Nat} {M : gq_M} {F : Int32 → gq_M → Option β} (hr : r < 108) (hl : M 75 r = nI l) (hl2 : l < 150) (hp : M 71 l = nI p) (hp2 : p < 150) : gq_b (f_X6_addBox N (nI r) (nI b) M) F = F (nI l) (gq_up (gq_up M 73 p (nI b)) 71 l (nI (p + 1))) := by
  unfold f_X6_addBox
  rw [b_atN (by omega) (by omega), hl, b_atN (by omega) (by omega), hp, b_putN (by omega) (by omega), b_addN (by omega) (by omega), up_ne (by decide), hp, nI_1, gq_b_s]
abbrev foC : List Nat := [44, 46, 60, 71, 73]
theorem m_offer_l {N nb g : Nat} {W : Nat → Bool} {rn cr LN FN : Nat → Nat} (hb : nb ≤ 150) (hcr : ∀ r, cr r = cnt (rg 0 nb) (wr W rn r)) (hL : ∀ r, r < 108 → 0 < cr r → LN r < 150 ∧ FN r + cr r ≤ 150) (hinj : ∀ r1 r2, r1 < 108 → r2 < 108 → 0 < cr r1 → 0 < cr r2 → r1 ≠ r2 → LN r1 ≠ LN r2) (hdis : ∀ r1 r2, r1 < r2 → r2 < 108 → FN r1 + cr r1 ≤ FN r2) : ∀ (k i n9 : Nat) (M : gq_M), M 34 13 = nI nb → (∀ b, i ≤ b → b < nb → (W b = true ↔ ((M 44 b = 0 ∨ M 44 b = 6) ∧ M 36 b = nI g))) → (∀ b, b < nb → rn b < 108 ∧ M 38 b = nI (rn b)) → (∀ r, r < 108 → 0 < cr r → M 75 r = nI (LN r) ∧ M 71 (LN r) = nI (FN r + cnt (rg 0 i) (wr W rn r))) → i + k = nb → k < n9 → ∃ M2, f_X9_offerBoat_143 N n9 (nI g) (nI i) M = some (0, M2) ∧ fr foC M M2 ∧ M2 60 = M 60 ∧ (∀ b, M2 44 b = if i ≤ b ∧ b < nb ∧ W b = true then 2 else M 44 b) ∧ (∀ b, M2 46 b = if i ≤ b ∧ b < nb ∧ W b = true then nI (LN (rn b)) else M 46 b) ∧ (∀ r, r < 108 → 0 < cr r → M2 71 (LN r) = nI (FN r + cr r)) ∧ (∀ l, (∀ r, r < 108 → 0 < cr r → l ≠ LN r) → M2 71 l = M 71 l) ∧ (∀ r, r < 108 → 0 < cr r → ∀ j b, ((rg i k).filter (wr W rn r))[j]? = some b → M2 73 (FN r + cnt (rg 0 i) (wr W rn r) + j) = nI b) ∧ ∀ p, (∀ r, r < 108 → 0 < cr r → ¬ (FN r + cnt (rg 0 i) (wr W rn r) ≤ p ∧ p < FN r + cr r)) → M2 73 p = M 73 p := by
  intro k
  induction k with
  | zero =>
    intro i n9 M hM hW hr hq hi h9
    obtain ⟨n9, rfl⟩ : ∃ z, n9 = z + 1 := ⟨n9 - 1, by omega⟩
    obtain rfl : i = nb := by omega
    refine ⟨M, ?_, fr_rf _ _, rfl, fun b => (if_neg (by omega)).symm, fun b => (if_neg (by omega)).symm, fun r h1 h2 => ?_, fun l _ => rfl, fun r h1 h2 j b h3 => ?_, fun p _ => rfl⟩
    · show f_X9_offerBoat_143_b N (f_X9_offerBoat_143 N n9) (nI g) (nI i) M = _
      unfold f_X9_offerBoat_143_b
      rw [hM, if_pos (Int32.le_refl _)]
    · rw [(hq r h1 h2).2, hcr]
    · cases h3
  | succ k ih =>
    intro i n9 M hM hW hr hq hi h9
    obtain ⟨n9, rfl⟩ : ∃ z, n9 = z + 1 := ⟨n9 - 1, by omega⟩
    have he : ¬ nI nb ≤ nI i := fun h2 => by have := (nI_leI (by omega) (by omega)).mp h2; omega
    have hcs : ∀ r, cnt (rg 0 (i + 1)) (wr W rn r) = cnt (rg 0 i) (wr W rn r) + if wr W rn r i = true then 1 else 0 := fun r => by
      rw [rg_c, cnt_app, Nat.zero_add, cnt_cons, cnt_nil, Nat.add_zero]
    show ∃ M2, f_X9_offerBoat_143_b N (f_X9_offerBoat_143 N n9) (nI g) (nI i) M = _ ∧ _
    unfold f_X9_offerBoat_143_b f_X9_offerBoat_219
    rw [hM, if_neg he, b_atN (by omega) (by omega)]
    by_cases c : W i = true
    · obtain ⟨c1, c2⟩ := (hW i (Nat.le_refl _) (by omega)).mp c
      obtain ⟨r1, r2⟩ := hr i (by omega)
      have hwi : wr W rn (rn i) i = true := wr_t.mpr ⟨c, rfl⟩
      have hle : cnt (rg 0 i) (wr W rn (rn i)) + 1 ≤ cr (rn i) := by
        have := cnt_mono (p := wr W rn (rn i)) (n := i + 1) (m := nb) (by omega)
        rw [hcs, if_pos hwi, ← hcr] at this
        exact this
      have h0 : 0 < cr (rn i) := by omega
      obtain ⟨L1, L2⟩ := hL (rn i) r1 h0
      obtain ⟨q1, q2⟩ := hq (rn i) r1 h0
      rw [if_pos c2, b_isWaiting (by omega), bI_t c1, if_neg (show ¬ (1 : Int32) = 0 by decide), b_atN (by omega) (by omega), r2, m_addBox r1 q1 L1 q2 (by omega), b_putN (by omega) (by omega), m_move2 (M := gq_up (gq_up (gq_up M 73 (FN (rn i) + cnt (rg 0 i) (wr W rn (rn i))) (nI i)) 71 (LN (rn i)) (nI (FN (rn i) + cnt (rg 0 i) (wr W rn (rn i)) + 1))) 46 i (nI (LN (rn i)))) (by omega) c1, nI_1]
      have hcn : ∀ r, r ≠ rn i → cnt (rg 0 (i + 1)) (wr W rn r) = cnt (rg 0 i) (wr W rn r) := fun r h => by
        rw [hcs, if_neg (fun hz => h (wr_t.mp hz).2.symm), Nat.add_zero]
      have hc1 : cnt (rg 0 (i + 1)) (wr W rn (rn i)) = cnt (rg 0 i) (wr W rn (rn i)) + 1 := by rw [hcs, if_pos hwi]
      obtain ⟨M2, t1, t2, t3, t4, t5, t6, t7, t8, t9⟩ := ih (i + 1) n9 (gq_up (gq_up (gq_up (gq_up M 73 (FN (rn i) + cnt (rg 0 i) (wr W rn (rn i))) (nI i)) 71 (LN (rn i)) (nI (FN (rn i) + cnt (rg 0 i) (wr W rn (rn i)) + 1))) 46 i (nI (LN (rn i)))) 44 i 2) hM (fun b h1 h2 => by
        show W b = true ↔ ((upd (M 44) i 2 b = 0 ∨ upd (M 44) i 2 b = 6) ∧ M 36 b = nI g)
        rw [upd_n (by omega)]
        exact hW b (by omega) h2) hr (fun r h1 h2 => by
        refine ⟨(hq r h1 h2).1, ?_⟩
        show upd (M 71) (LN (rn i)) _ (LN r) = _
        by_cases hrr : r = rn i
        · subst hrr
          rw [upd_s, hc1]; rfl
        · rw [upd_n (hinj r (rn i) h1 r1 h2 h0 hrr), hcn r hrr]
          exact (hq r h1 h2).2) (by omega) (by omega)
      refine ⟨M2, t1, fr_tr (fr_up (fr_up (fr_up (fr_up (fr_rf _ _) (by decide)) (by decide)) (by decide)) (by decide)) t2, t3, fun b => ?_, fun b => ?_, t6, fun l hl => ?_, fun r h1 h2 j b h3 => ?_, fun p hp => ?_⟩
      · rw [t4 b]
        show (if _ then _ else upd (M 44) i 2 b) = _
        by_cases hbi : b = i
        · subst hbi
          rw [if_neg (by omega), upd_s, if_pos ⟨Nat.le_refl _, by omega, c⟩]
        · rw [upd_n hbi]
          by_cases hh : i + 1 ≤ b ∧ b < nb ∧ W b = true
          · rw [if_pos hh, if_pos ⟨by omega, hh.2⟩]
          · rw [if_neg hh, if_neg (fun h => hh ⟨by omega, h.2⟩)]
      · rw [t5 b]
        show (if _ then _ else upd (M 46) i _ b) = _
        by_cases hbi : b = i
        · subst hbi
          rw [if_neg (by omega), upd_s, if_pos ⟨Nat.le_refl _, by omega, c⟩]
        · rw [upd_n hbi]
          by_cases hh : i + 1 ≤ b ∧ b < nb ∧ W b = true
          · rw [if_pos hh, if_pos ⟨by omega, hh.2⟩]
          · rw [if_neg hh, if_neg (fun h => hh ⟨by omega, h.2⟩)]
      · exact (t7 l hl).trans (upd_n (hl (rn i) r1 h0))
      · rw [rg_s, List.filter_cons] at h3
        by_cases hrr : r = rn i
        · subst hrr
          rw [if_pos hwi] at h3
          cases j with
          | zero =>
            have hbi : i = b := Option.some.inj h3
            subst hbi
            rw [Nat.add_zero]
            refine (t9 _ (fun r h4 h5 h6 => ?_)).trans (upd_s _ _ _)
            by_cases hr3 : r = rn i
            · subst hr3
              rw [hc1] at h6
              omega
            · rcases Nat.lt_or_gt_of_ne hr3 with h7 | h7
              · have := hdis r (rn i) h7 r1
                omega
              · have := hdis (rn i) r h7 h4
                omega
          | succ j =>
            have := t8 (rn i) h1 h2 j b h3
            rw [hc1] at this
            rw [show FN (rn i) + cnt (rg 0 i) (wr W rn (rn i)) + (j + 1) = FN (rn i) + (cnt (rg 0 i) (wr W rn (rn i)) + 1) + j by omega]
            exact this
        · rw [if_neg (fun hz => hrr (wr_t.mp hz).2.symm)] at h3
          have := t8 r h1 h2 j b h3
          rw [hcn r hrr] at this
          exact this
      · refine (t9 p (fun r h4 h5 h6 => ?_)).trans (upd_n (fun hpp => hp (rn i) r1 h0 ⟨by omega, by omega⟩))
        by_cases hr3 : r = rn i
        · subst hr3
          rw [hc1] at h6
          exact hp (rn i) h4 h5 ⟨by omega, h6.2⟩
        · rw [hcn r hr3] at h6
          exact hp r h4 h5 h6
    · have skip : ∀ r, ¬ wr W rn r i = true := fun r hz => c (wr_t.mp hz).1
      have hcn : ∀ r, cnt (rg 0 (i + 1)) (wr W rn r) = cnt (rg 0 i) (wr W rn r) := fun r => by
        rw [hcs, if_neg (skip r), Nat.add_zero]
      obtain ⟨M2, t1, t2, t3, t4, t5, t6, t7, t8, t9⟩ := ih (i + 1) n9 M hM (fun b h1 h2 => hW b (by omega) h2) hr (fun r h1 h2 => by rw [hcn r]; exact hq r h1 h2) (by omega) (by omega)
      have hif : ∀ b, (i + 1 ≤ b ∧ b < nb ∧ W b = true) = (i ≤ b ∧ b < nb ∧ W b = true) := fun b => propext ⟨fun h => ⟨by omega, h.2⟩, fun h => ⟨Nat.lt_of_le_of_ne h.1 (fun hh => by subst hh; exact c h.2.2), h.2⟩⟩
      refine ⟨M2, ?_, t2, t3, fun b => by rw [t4 b]; simp only [hif b], fun b => by rw [t5 b]; simp only [hif b], t6, t7, fun r h1 h2 j b h3 => ?_, fun p hp => t9 p (fun r h4 h5 => by rw [hcn r]; exact hp r h4 h5)⟩
      · by_cases c2 : M 36 i = nI g
        · rw [if_pos c2, b_isWaiting (by omega), bI_f (fun c1 => c ((hW i (Nat.le_refl _) (by omega)).mpr ⟨c1, c2⟩)), if_pos rfl, nI_1]
          exact t1
        · rw [if_neg c2, nI_1]
          exact t1
      · rw [rg_s, List.filter_cons, if_neg (skip r)] at h3
        have := t8 r h1 h2 j b h3
        rw [hcn r] at this
        exact this

def NL1 (C C2 : gq_M) (nb g l f n r : Nat) (W : Nat → Bool) (rn : Nat → Nat) : Prop := C2 63 l = nI g ∧ C2 65 l = nI r ∧ C2 67 l = C 22 (r / 27) ∧ C2 69 l = nI f ∧ C2 71 l = nI (f + n) ∧ ∀ j b, ((rg 0 nb).filter (wr W rn r))[j]? = some b → C2 73 (f + j) = nI b
abbrev fbtC : List Nat := [15, 44, 46, 60, 61, 63, 65, 67, 69, 71, 73, 75]
theorem m_offerBoat {N nb nl res g : Nat} {C : gq_M} {W : Nat → Bool} {rn : Nat → Nat} (hN : 600 ≤ N) (hg : g < 8) (hnb : C 34 13 = nI nb) (hb : nb ≤ 150) (hW : ∀ b, b < nb → (W b = true ↔ ((C 44 b = 0 ∨ C 44 b = 6) ∧ C 36 b = nI g))) (hrn : ∀ b, b < nb → rn b < 108 ∧ C 38 b = nI (rn b)) (hl : C 61 7 = nI nl) (hres : C 61 8 = nI res) (h1 : nl ≤ res) (h2 : res + cnt (rg 0 nb) W ≤ nb) : ∃ C2, f_X9_offerBoat N (nI g) C = some (0, C2) ∧ fr fbtC C C2 ∧ C2 60 = C 60 ∧ C2 15 = upd (C 15) g 0 ∧ (∀ b, C2 44 b = if b < nb ∧ W b = true then 2 else C 44 b) ∧ (∀ b, C2 46 b = if b < nb ∧ W b = true then nI (LNf nl (crF nb W rn) (rn b)) else C 46 b) ∧ C2 61 7 = nI (LNf nl (crF nb W rn) 108) ∧ C2 61 8 = nI (FNf res (crF nb W rn) 108) ∧ LK nl C C2 ∧ (∀ r, r < 108 → 0 < crF nb W rn r → NL1 C C2 nb g (LNf nl (crF nb W rn) r) (FNf res (crF nb W rn) r) (crF nb W rn r) r W rn) ∧ ∀ p, p < res → C2 73 p = C 73 p := by
  have hsum : nsum (rg 0 108) (crF nb W rn) = cnt (rg 0 nb) W := nsum_cnt (rg 0 nb) fun b hbm _ => (hrn b (by have := (rg_m.mp hbm).2; omega)).1
  have hps := ps_le (rg 0 108) (crF nb W rn)
  generalize hcrG : crF nb W rn = cr at *
  have hcr : ∀ r, cr r = cnt (rg 0 nb) (wr W rn r) := fun r => by rw [← hcrG]; rfl
  have e1 := m_alike_l (N := N) (g := g) hb nb 0 N (fillR (gq_up C 15 g 0) 75 108 0) hnb hW hrn (by omega) (by omega)
  generalize hM1 : alC 0 nb W rn (fillR (gq_up C 15 g 0) 75 108 0) = M1 at e1
  have f1 : fr [15, 75] C M1 := fun a ha => by
    rw [← hM1]
    have h3 : a ≠ 15 := fun hh => ha (by rw [hh]; decide)
    have h4 : a ≠ 75 := fun hh => ha (by rw [hh]; decide)
    unfold alC fillR
    rw [if_neg h4, if_neg h4, up_ne h3]
  have hal : ∀ r, 0 ≤ r → r < 108 → M1 75 r = nI (cr r) := fun r _ hr => by
    rw [← hM1]
    unfold alC
    rw [if_pos rfl, if_pos hr]
    unfold fillR
    rw [if_pos rfl, if_pos hr, Int32.zero_add, hcr]
  obtain ⟨M2, t1, t2, t3, t4, t5, -, t7⟩ := m_lots_l (N := N) (g := g) (cr := cr) 108 0 N nl res M1 (by rw [f1 61 (by decide)]; exact hl) (by rw [f1 61 (by decide)]; exact hres) hal (by omega) (by omega) (by omega) (by omega)
  have hinj : ∀ r1 r2, r1 < 108 → r2 < 108 → 0 < cr r1 → 0 < cr r2 → r1 ≠ r2 → LNf nl cr r1 ≠ LNf nl cr r2 := fun r1 r2 g1 g2 g3 g4 g5 => by
    unfold LNf
    rcases Nat.lt_or_gt_of_ne g5 with h | h
    · have := cnt_lt (ps_t.mpr g3) r2 h; omega
    · have := cnt_lt (ps_t.mpr g4) r1 h; omega
  have hLb : ∀ r, r < 108 → 0 < cr r → LNf nl cr r < 150 ∧ FNf res cr r + cr r ≤ 150 := fun r g1 g2 => by
    have h3 := cnt_lt (ps_t.mpr g2) 108 g1
    have h4 := nsum_lt (c := cr) 108 g1
    unfold LNf FNf
    omega
  have hfr2 : fr fbtC C M2 := fr_tr (fr_sub f1 (by decide)) (fr_sub t2 (by decide))
  obtain ⟨M3, u1, u2, u3, u4, u5, u6, u7, u8, u9⟩ := m_offer_l (N := N) (g := g) (LN := LNf nl cr) (FN := FNf res cr) hb hcr hLb hinj (fun r1 r2 h3 _ => by
    have := nsum_lt (c := cr) r2 h3
    unfold FNf
    omega) nb 0 N M2 (by rw [t2 34 (by decide), f1 34 (by decide)]; exact hnb) (fun b _ hb2 => by rw [t2 44 (by decide), t2 36 (by decide), f1 44 (by decide), f1 36 (by decide)]; exact hW b hb2) (fun b hb2 => by rw [t2 38 (by decide), f1 38 (by decide)]; exact hrn b hb2) (fun r g1 g2 => ⟨(t7 r (Nat.zero_le _) g1 g2).1, (t7 r (Nat.zero_le _) g1 g2).2.2.2.2.2⟩) (by omega) (by omega)
  have hlo : ∀ r, nl ≤ LNf nl cr r := fun r => Nat.le_add_right _ _
  refine ⟨M3, ?_, fr_tr hfr2 (fr_sub u2 (by decide)), ?_, ?_, fun b => ?_, fun b => ?_, ?_, ?_, fun l hl2 => ?_, fun r g1 g2 => ?_, fun p hp => ?_⟩
  · unfold f_X9_offerBoat
    rw [b_putN (by omega) (by omega), m_fill (by omega) (by omega), gq_b_s]
    refine Eq.trans e1 ?_
    exact t1.trans u1
  · rw [u3, t2 60 (by decide), f1 60 (by decide)]
  · rw [u2 15 (by decide), t2 15 (by decide), ← hM1]
    rfl
  · rw [u4 b, t2 44 (by decide), f1 44 (by decide)]
    simp only [Nat.zero_le, true_and]
  · rw [u5 b, t2 46 (by decide), f1 46 (by decide)]
    simp only [Nat.zero_le, true_and]
  · rw [u2 61 (by decide)]; exact t3
  · rw [u2 61 (by decide)]; exact t4
  · obtain ⟨v1, v2, v3, v4, v5⟩ := t5 l hl2
    rw [u2 63 (by decide), u2 65 (by decide), u2 67 (by decide), u2 69 (by decide), u7 l (fun r _ _ hh => by have := hlo r; omega), v1, v2, v3, v4, v5, f1 63 (by decide), f1 65 (by decide), f1 67 (by decide), f1 69 (by decide), f1 71 (by decide)]
    exact ⟨rfl, rfl, rfl, rfl, rfl⟩
  · obtain ⟨v1, v2, v3, v4, v5, v6⟩ := t7 r (Nat.zero_le _) g1 g2
    refine ⟨?_, ?_, ?_, ?_, u6 r g1 g2, u8 r g1 g2⟩
    · rw [u2 63 (by decide)]; exact v2
    · rw [u2 65 (by decide)]; exact v3
    · rw [u2 67 (by decide), ← f1 22 (by decide)]; exact v4
    · rw [u2 69 (by decide)]; exact v5
  · rw [u9 p (fun r _ _ hh => by have : res ≤ FNf res cr r := Nat.le_add_right _ _; omega), t2 73 (by decide), f1 73 (by decide)]

