/-! pure: the reference parts a boat's boxes -/
def pR (R : gq_M) (g x y z b : Nat) : Bool := decide ((R 19 b = 0 ∨ R 19 b = 6) ∧ R 13 b = nI g ∧ R 14 b = nI x ∧ R 15 b = nI y ∧ R 16 b = nI z)
def mkP (i nb c : Nat) (P : Nat → Bool) (R : gq_M) : gq_M := fun a => if a = 19 then (fun b => if i ≤ b ∧ b < nb ∧ P b = true then 2 else R a b) else if a = 26 then (fun b => if i ≤ b ∧ b < nb ∧ P b = true then nI c else R a b) else R a
theorem mkP_0 {i nb c : Nat} {P : Nat → Bool} {R : gq_M} (h : nb ≤ i) : mkP i nb c P R = R := by
  funext a
  unfold mkP
  split
  · funext b; exact if_neg (by omega)
  · split
    · funext b; exact if_neg (by omega)
    · rfl
theorem mkP_n {i nb c : Nat} {P : Nat → Bool} {R : gq_M} (h : ¬ P i = true) : mkP (i + 1) nb c P R = mkP i nb c P R := by
  have hif : ∀ b, (i + 1 ≤ b ∧ b < nb ∧ P b = true) = (i ≤ b ∧ b < nb ∧ P b = true) := fun b => propext ⟨fun h => ⟨by omega, h.2⟩, fun h2 => ⟨Nat.lt_of_le_of_ne h2.1 (fun hh => by subst hh; exact h h2.2.2), h2.2⟩⟩
  unfold mkP
  simp only [hif]
theorem mkP_s {i nb c : Nat} {P P2 : Nat → Bool} {R : gq_M} (hi : i < nb) (h : P i = true) (hP : ∀ b, i < b → P2 b = P b) : mkP (i + 1) nb c P2 (gq_up (gq_up R 19 i 2) 26 i (nI c)) = mkP i nb c P R := by
  funext a
  unfold mkP
  by_cases ha : a = 19
  · subst ha
    rw [if_pos rfl, if_pos rfl, up_ne (by decide), up_row]
    funext b
    by_cases hb : b = i
    · subst hb
      rw [if_neg (by omega), upd_s, if_pos ⟨Nat.le_refl _, hi, h⟩]
    · rw [upd_n hb]
      by_cases hh : i + 1 ≤ b ∧ b < nb ∧ P2 b = true
      · rw [if_pos hh, if_pos ⟨by omega, hh.2.1, by rw [← hP b (by omega)]; exact hh.2.2⟩]
      · rw [if_neg hh, if_neg (fun h2 => hh ⟨by omega, h2.2.1, by rw [hP b (by omega)]; exact h2.2.2⟩)]
  · rw [if_neg ha, if_neg ha]
    by_cases ha2 : a = 26
    · subst ha2
      rw [if_pos rfl, if_pos rfl, up_row, up_ne (by decide)]
      funext b
      by_cases hb : b = i
      · subst hb
        rw [if_neg (by omega), upd_s, if_pos ⟨Nat.le_refl _, hi, h⟩]
      · rw [upd_n hb]
        by_cases hh : i + 1 ≤ b ∧ b < nb ∧ P2 b = true
        · rw [if_pos hh, if_pos ⟨by omega, hh.2.1, by rw [← hP b (by omega)]; exact hh.2.2⟩]
        · rw [if_neg hh, if_neg (fun h2 => hh ⟨by omega, h2.2.1, by rw [hP b (by omega)]; exact h2.2.2⟩)]
    · rw [if_neg ha2, if_neg ha2, up_ne ha2, up_ne ha]
theorem r_parts_b {N nb g n x y z i : Nat} {R : gq_M} {h : Int32} {K : Int32 → Int32 → gq_M → Option (Int32 × gq_M)} {F : Int32 → Int32 → Int32 → Int32 → Int32 → Int32 → Int32 → gq_M → Option (Int32 × gq_M)} (hb : nb ≤ 150) (hM : R 0 16 = nI nb) (hi : i < nb) : f_X10_parts_36_b N K F (nI g) (nI n) (nI x) (nI y) (nI z) h (nI i) R = if pR R g x y z i = true then F (nI g) (nI n) (nI x) (nI y) (nI z) 1 (nI (i + 1)) (gq_up (gq_up R 19 i 2) 26 i (R 0 31)) else F (nI g) (nI n) (nI x) (nI y) (nI z) h (nI (i + 1)) R := by
  have he : ¬ nI nb ≤ nI i := fun h2 => by have := (nI_leI (by omega) (by omega)).mp h2; omega
  unfold f_X10_parts_36_b f_X10_parts_122
  rw [hM, if_neg he, b_isToSell (by omega), nI_1]
  by_cases c1 : R 19 i = 0 ∨ R 19 i = 6
  · rw [bI_t c1, if_neg (show ¬ (1 : Int32) = 0 by decide), g_inN (by omega) (by omega), gq_l_e, nI_clamp (by omega)]
    by_cases c2 : R 13 i = nI g
    · rw [if_pos c2, g_inN (by omega) (by omega), gq_l_e]
      by_cases c3 : R 14 i = nI x
      · rw [if_pos c3, g_inN (by omega) (by omega), gq_l_e]
        by_cases c4 : R 15 i = nI y
        · rw [if_pos c4, g_inN (by omega) (by omega), gq_l_e]
          by_cases c5 : R 16 i = nI z
          · rw [if_pos c5, g_inN (by omega) (by omega), gq_l_e, g_inN (by omega) (by omega), gq_l_e, if_pos (show pR R g x y z i = true from decide_eq_true ⟨c1, c2, c3, c4, c5⟩)]
            rfl
          · rw [if_neg c5, if_neg (fun hz => c5 (of_decide_eq_true hz).2.2.2.2)]
        · rw [if_neg c4, if_neg (fun hz => c4 (of_decide_eq_true hz).2.2.2.1)]
      · rw [if_neg c3, if_neg (fun hz => c3 (of_decide_eq_true hz).2.2.1)]
    · rw [if_neg c2, if_neg (fun hz => c2 (of_decide_eq_true hz).2.1)]
  · rw [bI_f c1, if_pos rfl, if_neg (fun hz => c1 (of_decide_eq_true hz).1)]
theorem r_parts_l {N nb g n x y z c : Nat} {K : Int32 → Int32 → gq_M → Option (Int32 × gq_M)} (hb : nb ≤ 150) (F : Int32 → Int32 → Int32 → Int32 → Int32 → Int32 → Int32 → gq_M → Option (Int32 × gq_M)) : ∀ (k i n9 : Nat) (h : Int32) (R : gq_M), R 0 16 = nI nb → R 0 31 = nI c → i + k = nb → k < n9 → f_X10_parts_36 N K n9 (nI g) (nI n) (nI x) (nI y) (nI z) h (nI i) R = f_X10_parts_36_b N K F (nI g) (nI n) (nI x) (nI y) (nI z) (if 0 < cnt (rg i k) (pR R g x y z) then 1 else h) (nI nb) (mkP i nb c (pR R g x y z) R) := by
  intro k
  induction k with
  | zero =>
    intro i n9 h R hM hl hi h9
    obtain ⟨n9, rfl⟩ : ∃ z, n9 = z + 1 := ⟨n9 - 1, by omega⟩
    obtain rfl : i = nb := by omega
    show f_X10_parts_36_b N K (f_X10_parts_36 N K n9) (nI g) (nI n) (nI x) (nI y) (nI z) h (nI i) R = _
    rw [mkP_0 (Nat.le_refl _), if_neg (show ¬ 0 < cnt (rg i 0) (pR R g x y z) from Nat.lt_irrefl _)]
    unfold f_X10_parts_36_b
    rw [hM, if_pos (Int32.le_refl _), if_pos (Int32.le_refl _)]
  | succ k ih =>
    intro i n9 h R hM hl hi h9
    obtain ⟨n9, rfl⟩ : ∃ z, n9 = z + 1 := ⟨n9 - 1, by omega⟩
    show f_X10_parts_36_b N K (f_X10_parts_36 N K n9) (nI g) (nI n) (nI x) (nI y) (nI z) h (nI i) R = _
    rw [r_parts_b hb hM (by omega), rg_s, cnt_cons]
    by_cases c1 : pR R g x y z i = true
    · rw [if_pos c1, if_pos c1, hl, ih (i + 1) n9 1 (gq_up (gq_up R 19 i 2) 26 i (nI c)) hM hl (by omega) (by omega), ite_self, if_pos (by omega), mkP_s (P := pR R g x y z) (by omega) c1 (fun b hb => by
        unfold pR
        rw [show (gq_up (gq_up R 19 i 2) 26 i (nI c)) 19 b = R 19 b from upd_n (f := R 19) (j := i) (v := 2) (k := b) (by omega)]
        rfl)]
    · rw [if_neg c1, if_neg c1, Nat.zero_add, ih (i + 1) n9 h R hM hl (by omega) (by omega), mkP_n c1]
theorem rk_dec : ∀ n, n < 108 → nI n / 27 = nI (n / 27) ∧ nI n / 9 - nI n / 9 / 3 * 3 = nI (n / 9 % 3) ∧ 9 - (nI n - nI n / 9 * 9) = nI (9 - n % 9) := by decide +kernel
def RK (c : Nat) (R R2 : gq_M) : Prop := ∀ l, l < c → R2 27 l = R 27 l ∧ R2 28 l = R 28 l ∧ R2 29 l = R 29 l ∧ R2 30 l = R 30 l ∧ R2 31 l = R 31 l ∧ R2 32 l = R 32 l
def RN1 (R R2 : gq_M) (g r l : Nat) : Prop := R2 27 l = nI g ∧ R2 28 l = nI (r / 27) ∧ R2 29 l = nI (r / 9 % 3) ∧ R2 30 l = nI (9 - r % 9) ∧ R2 31 l = R 8 (r / 27) ∧ R2 32 l = 0
abbrev fpR : List Nat := [0, 19, 26, 27, 28, 29, 30, 31, 32]
/-- a new lot is noted -/
def mkL (g n c : Nat) (R : gq_M) : gq_M := gq_up (gq_up (gq_up (gq_up (gq_up (gq_up (gq_up R 27 c (nI g)) 28 c (nI (n / 27))) 29 c (nI (n / 9 % 3))) 30 c (nI (9 - n % 9))) 31 c (R 8 (n / 27))) 32 c 0) 0 31 (nI (c + 1))
theorem r_parts_x {N nb g n c : Nat} {R : gq_M} {h : Int32} {K : Int32 → Int32 → gq_M → Option (Int32 × gq_M)} {F : Int32 → Int32 → Int32 → Int32 → Int32 → Int32 → Int32 → gq_M → Option (Int32 × gq_M)} (hM : R 0 16 = nI nb) (hl : R 0 31 = nI c) (hn : n < 108) (hc : h = 0 ∨ c < 150) : f_X10_parts_36_b N K F (nI g) (nI n) (nI (n / 27)) (nI (n / 9 % 3)) (nI (9 - n % 9)) h (nI nb) R = K (nI g) (nI (n + 1)) (if h = 0 then R else mkL g n c R) := by
  unfold f_X10_parts_36_b f_X10_parts_210
  rw [hM, if_pos (Int32.le_refl _), nI_1]
  by_cases h0 : h = 0
  · rw [if_pos h0, if_pos h0]
  · rw [if_neg h0, if_neg h0]
    have hc := hc.resolve_left h0
    have gi : ∀ {a : Option (Int32 × gq_M)}, gq_g (gq_in (nI c) 150) a = a := fun {a} => g_inN hc (by omega)
    have cl : (nI c).toNatClampNeg = c := nI_clamp (by omega)
    rw [hl, gi, gq_l_e, cl]
    rw [show (gq_up R 27 c (nI g)) 0 31 = nI c from hl, gi, gq_l_e, cl]
    rw [show (gq_up (gq_up R 27 c (nI g)) 28 c (nI (n / 27))) 0 31 = nI c from hl, gi, gq_l_e, cl]
    rw [show (gq_up (gq_up (gq_up R 27 c (nI g)) 28 c (nI (n / 27))) 29 c (nI (n / 9 % 3))) 0 31 = nI c from hl, gi, gq_l_e, cl]
    rw [g_inN (by omega) (by omega), gq_l_e, nI_clamp (by omega)]
    rw [show (gq_up (gq_up (gq_up (gq_up R 27 c (nI g)) 28 c (nI (n / 27))) 29 c (nI (n / 9 % 3))) 30 c (nI (9 - n % 9))) 0 31 = nI c from hl, gi, gq_l_e, cl]
    rw [show (gq_up (gq_up (gq_up (gq_up R 27 c (nI g)) 28 c (nI (n / 27))) 29 c (nI (n / 9 % 3))) 30 c (nI (9 - n % 9))) 8 (n / 27) = R 8 (n / 27) from rfl]
    rw [show (gq_up (gq_up (gq_up (gq_up (gq_up R 27 c (nI g)) 28 c (nI (n / 27))) 29 c (nI (n / 9 % 3))) 30 c (nI (9 - n % 9))) 31 c (R 8 (n / 27))) 0 31 = nI c from hl, gi, gq_l_e, cl]
    rw [show (gq_up (gq_up (gq_up (gq_up (gq_up (gq_up R 27 c (nI g)) 28 c (nI (n / 27))) 29 c (nI (n / 9 % 3))) 30 c (nI (9 - n % 9))) 31 c (R 8 (n / 27))) 32 c 0) 0 31 = nI c from hl, gq_l_e, nI_1]
    rfl

set_option maxHeartbeats 1000000 in
theorem r_parts {N nb g : Nat} {W : Nat → Bool} {rn : Nat → Nat} (hN : 600 ≤ N) (hb : nb ≤ 150) : ∀ (k i n9 c : Nat) (R : gq_M), R 0 16 = nI nb → R 0 31 = nI c → (∀ b, b < nb → ∀ r, r < 108 → ((R 14 b = nI (r / 27) ∧ R 15 b = nI (r / 9 % 3) ∧ R 16 b = nI (9 - r % 9)) ↔ rn b = r)) → (∀ b, b < nb → i ≤ rn b → (W b = true ↔ ((R 19 b = 0 ∨ R 19 b = 6) ∧ R 13 b = nI g))) → c + cnt (rg i k) (ps (crF nb W rn)) ≤ 150 → i + k = 108 → k < n9 → ∃ R2, f_X10_parts_2 N n9 (nI g) (nI i) R = some (0, R2) ∧ fr fpR R R2 ∧ R2 0 = upd (R 0) 31 (nI (c + cnt (rg i k) (ps (crF nb W rn)))) ∧ RK c R R2 ∧ (bits 150 (R 32) → bits 150 (R2 32)) ∧ (∀ b, R2 19 b = if b < nb ∧ W b = true ∧ i ≤ rn b ∧ rn b < 108 then 2 else R 19 b) ∧ (∀ b, R2 26 b = if b < nb ∧ W b = true ∧ i ≤ rn b ∧ rn b < 108 then nI (c + cnt (rg i (rn b - i)) (ps (crF nb W rn))) else R 26 b) ∧ ∀ r, i ≤ r → r < 108 → 0 < crF nb W rn r → RN1 R R2 g r (c + cnt (rg i (r - i)) (ps (crF nb W rn))) := by
  intro k
  induction k with
  | zero =>
    intro i n9 c R hM hl hk hW hc hi h9
    obtain ⟨n9, rfl⟩ : ∃ z, n9 = z + 1 := ⟨n9 - 1, by omega⟩
    obtain rfl : i = 108 := by omega
    refine ⟨R, ?_, fr_rf _ _, ?_, fun l _ => ⟨rfl, rfl, rfl, rfl, rfl, rfl⟩, id, fun b => (if_neg (by omega)).symm, fun b => (if_neg (by omega)).symm, fun r h1 h2 => by omega⟩
    · show f_X10_parts_2_b N (f_X10_parts_2 N n9) (nI g) (nI 108) R = _
      unfold f_X10_parts_2_b
      rw [if_pos (show (108 : Int32) ≤ nI 108 by decide)]
    · funext j
      by_cases hj : j = 31
      · subst hj; rw [upd_s]; exact hl
      · rw [upd_n hj]
  | succ k ih =>
    intro i n9 c R hM hl hk hW hc hi h9
    obtain ⟨n9, rfl⟩ : ∃ z, n9 = z + 1 := ⟨n9 - 1, by omega⟩
    have he : ¬ (108 : Int32) ≤ nI i := fun h2 => by have := (nI_leI (a := 108) (by omega) (by omega)).mp h2; omega
    obtain ⟨d1, d2, d3⟩ := rk_dec i (by omega)
    have hP : ∀ b, b < nb → pR R g (i / 27) (i / 9 % 3) (9 - i % 9) b = wr W rn i b := fun b hbn => by
      rw [Bool.eq_iff_iff, wr_t]
      constructor
      · intro h
        obtain ⟨p1, p2, p3⟩ := of_decide_eq_true h
        have hr := (hk b hbn i (by omega)).mp p3
        exact ⟨(hW b hbn (by omega)).mpr ⟨p1, p2⟩, hr⟩
      · intro h
        obtain ⟨p1, p2⟩ := (hW b hbn (by omega)).mp h.1
        exact decide_eq_true ⟨p1, p2, (hk b hbn i (by omega)).mpr h.2⟩
    have hcn : cnt (rg 0 nb) (pR R g (i / 27) (i / 9 % 3) (9 - i % 9)) = crF nb W rn i := cnt_congr fun b hb => hP b (by have := (rg_m.mp hb).2; omega)
    generalize hcrG : crF nb W rn = cr at *
    rw [rg_s, cnt_cons] at hc
    have eL : ∀ r, i < r → cnt (rg i (r - i)) (ps cr) = (if ps cr i = true then 1 else 0) + cnt (rg (i + 1) (r - (i + 1))) (ps cr) := fun r h => by
      rw [show r - i = (r - (i + 1)) + 1 by omega, rg_s, cnt_cons]
    have hex : ∀ b, b < nb → W b = true → rn b = i → 0 < cr i := fun b h1 h2 h3 => by
      rw [← hcrG]
      exact cnt_pos (b := b) (rg_m.mpr ⟨Nat.zero_le _, by omega⟩) (wr_t.mpr ⟨h2, h3⟩)
    rw [rg_s, cnt_cons]
    show ∃ R2, f_X10_parts_2_b N (f_X10_parts_2 N n9) (nI g) (nI i) R = _ ∧ _
    unfold f_X10_parts_2_b
    rw [if_neg he, d1, d2, d3]
    have e1 := r_parts_l (N := N) (g := g) (n := i) (x := i / 27) (y := i / 9 % 3) (z := 9 - i % 9) (K := f_X10_parts_2 N n9) hb (fun _ _ _ _ _ _ _ _ => none) nb 0 N 0 R hM hl (by omega) (by omega)
    have e1' : f_X10_parts_36 N (f_X10_parts_2 N n9) N (nI g) (nI i) (nI (i / 27)) (nI (i / 9 % 3)) (nI (9 - i % 9)) 0 0 R = _ := e1
    rw [e1', hcn, r_parts_x (N := N) (c := c) (n := i) (R := mkP 0 nb c (pR R g (i / 27) (i / 9 % 3) (9 - i % 9)) R) hM hl (by omega) (by
      by_cases h0 : 0 < cr i
      · rw [if_pos (ps_t.mpr h0)] at hc; exact Or.inr (by omega)
      · rw [if_neg h0]; exact Or.inl rfl)]
    by_cases h0 : 0 < cr i
    · have hp : ps cr i = true := ps_t.mpr h0
      rw [if_pos hp] at hc
      rw [if_pos h0, if_neg (show ¬ (1 : Int32) = 0 by decide), if_pos hp]
      generalize hR1 : mkL g i c (mkP 0 nb c (pR R g (i / 27) (i / 9 % 3) (9 - i % 9)) R) = R1
      have fL : fr fpR R R1 := fun a ha => by
        rw [← hR1]
        have hn : ∀ j, j ∈ fpR → a ≠ j := fun j hj hh => ha (by rw [hh]; exact hj)
        unfold mkL mkP
        rw [up_ne (hn 0 (by decide)), up_ne (hn 32 (by decide)), up_ne (hn 31 (by decide)), up_ne (hn 30 (by decide)), up_ne (hn 29 (by decide)), up_ne (hn 28 (by decide)), up_ne (hn 27 (by decide)), if_neg (hn 19 (by decide)), if_neg (hn 26 (by decide))]
      have q0 : R1 0 = upd (R 0) 31 (nI (c + 1)) := by rw [← hR1]; rfl
      have q19 : ∀ b, R1 19 b = if b < nb ∧ W b = true ∧ rn b = i then 2 else R 19 b := fun b => by
        rw [← hR1]
        show (if 0 ≤ b ∧ b < nb ∧ pR R g (i / 27) (i / 9 % 3) (9 - i % 9) b = true then 2 else R 19 b) = _
        by_cases hbn : b < nb
        · rw [hP b hbn]
          by_cases hw : wr W rn i b = true
          · rw [if_pos ⟨Nat.zero_le _, hbn, hw⟩, if_pos ⟨hbn, wr_t.mp hw⟩]
          · rw [if_neg (fun h => hw h.2.2), if_neg (fun h => hw (wr_t.mpr h.2))]
        · rw [if_neg (fun h => hbn h.2.1), if_neg (fun h => hbn h.1)]
      have q26 : ∀ b, R1 26 b = if b < nb ∧ W b = true ∧ rn b = i then nI c else R 26 b := fun b => by
        rw [← hR1]
        show (if 0 ≤ b ∧ b < nb ∧ pR R g (i / 27) (i / 9 % 3) (9 - i % 9) b = true then nI c else R 26 b) = _
        by_cases hbn : b < nb
        · rw [hP b hbn]
          by_cases hw : wr W rn i b = true
          · rw [if_pos ⟨Nat.zero_le _, hbn, hw⟩, if_pos ⟨hbn, wr_t.mp hw⟩]
          · rw [if_neg (fun h => hw h.2.2), if_neg (fun h => hw (wr_t.mpr h.2))]
        · rw [if_neg (fun h => hbn h.2.1), if_neg (fun h => hbn h.1)]
      have q27 : R1 27 = upd (R 27) c (nI g) := by rw [← hR1]; rfl
      have q28 : R1 28 = upd (R 28) c (nI (i / 27)) := by rw [← hR1]; rfl
      have q29 : R1 29 = upd (R 29) c (nI (i / 9 % 3)) := by rw [← hR1]; rfl
      have q30 : R1 30 = upd (R 30) c (nI (9 - i % 9)) := by rw [← hR1]; rfl
      have q31 : R1 31 = upd (R 31) c (R 8 (i / 27)) := by rw [← hR1]; rfl
      have q32 : R1 32 = upd (R 32) c 0 := by rw [← hR1]; rfl
      obtain ⟨R2, t1, t2, t3, t4, t5, t6, t7, t8⟩ := ih (i + 1) n9 (c + 1) R1 (by rw [q0]; exact hM) (by rw [q0]; rfl) (by rw [fL 14 (by decide), fL 15 (by decide), fL 16 (by decide)]; exact hk) (fun b h1 h2 => by
        rw [q19 b, if_neg (fun h => by omega), fL 13 (by decide)]
        exact hW b h1 (by omega)) (by omega) (by omega) (by omega)
      have hcond : ∀ b, (b < nb ∧ W b = true ∧ i ≤ rn b ∧ rn b < 108) ↔ ((b < nb ∧ W b = true ∧ i + 1 ≤ rn b ∧ rn b < 108) ∨ (b < nb ∧ W b = true ∧ rn b = i)) := fun b => by
        constructor
        · intro h
          by_cases hh : rn b = i
          · exact Or.inr ⟨h.1, h.2.1, hh⟩
          · exact Or.inl ⟨h.1, h.2.1, by omega, h.2.2.2⟩
        · intro h
          rcases h with h | h
          · exact ⟨h.1, h.2.1, by omega, h.2.2.2⟩
          · exact ⟨h.1, h.2.1, by omega, by omega⟩
      refine ⟨R2, t1, fr_tr fL t2, ?_, fun l hl2 => ?_, fun hbit => t5 ?_, fun b => ?_, fun b => ?_, fun r h1 h2 h3 => ?_⟩
      · rw [t3, q0]
        funext j
        by_cases hj : j = 31
        · subst hj; rw [upd_s, upd_s]; congr 1; omega
        · rw [upd_n hj, upd_n hj, upd_n hj]
      · obtain ⟨v1, v2, v3, v4, v5, v6⟩ := t4 l (by omega)
        rw [v1, v2, v3, v4, v5, v6, q27, q28, q29, q30, q31, q32, upd_n (by omega), upd_n (by omega), upd_n (by omega), upd_n (by omega), upd_n (by omega), upd_n (by omega)]
        exact ⟨rfl, rfl, rfl, rfl, rfl, rfl⟩
      · rw [q32]; exact bits_up hbit (Or.inl rfl)
      · rw [t6 b, q19 b]
        by_cases h1 : b < nb ∧ W b = true ∧ i + 1 ≤ rn b ∧ rn b < 108
        · rw [if_pos h1, if_pos ((hcond b).mpr (Or.inl h1))]
        · by_cases h2 : b < nb ∧ W b = true ∧ rn b = i
          · rw [if_neg h1, if_pos h2, if_pos ((hcond b).mpr (Or.inr h2))]
          · rw [if_neg h1, if_neg h2, if_neg (fun h => ((hcond b).mp h).elim h1 h2)]
      · rw [t7 b, q26 b]
        by_cases h1 : b < nb ∧ W b = true ∧ i + 1 ≤ rn b ∧ rn b < 108
        · rw [if_pos h1, if_pos ((hcond b).mpr (Or.inl h1)), eL (rn b) (by omega), if_pos hp, Nat.add_assoc]
        · by_cases h2 : b < nb ∧ W b = true ∧ rn b = i
          · rw [if_neg h1, if_pos h2, if_pos ((hcond b).mpr (Or.inr h2)), h2.2.2, Nat.sub_self]
            rfl
          · rw [if_neg h1, if_neg h2, if_neg (fun h => ((hcond b).mp h).elim h1 h2)]
      · by_cases hri : r = i
        · subst hri
          obtain ⟨v1, v2, v3, v4, v5, v6⟩ := t4 c (by omega)
          rw [Nat.sub_self]
          show RN1 R R2 g r c
          unfold RN1
          rw [v1, v2, v3, v4, v5, v6, q27, q28, q29, q30, q31, q32, upd_s, upd_s, upd_s, upd_s, upd_s, upd_s]
          exact ⟨rfl, rfl, rfl, rfl, rfl, rfl⟩
        · have := t8 r (by omega) h2 h3
          rw [eL r (by omega), if_pos hp, ← Nat.add_assoc]
          unfold RN1 at this
          rw [fL 8 (by decide)] at this
          exact this
    · have hp : ¬ ps cr i = true := fun h => h0 (ps_t.mp h)
      rw [if_neg hp] at hc
      rw [if_neg h0, if_pos rfl, if_neg hp, Nat.zero_add]
      have hmk : mkP 0 nb c (pR R g (i / 27) (i / 9 % 3) (9 - i % 9)) R = R := by
        have hz : ∀ b, ¬ (0 ≤ b ∧ b < nb ∧ pR R g (i / 27) (i / 9 % 3) (9 - i % 9) b = true) := fun b h => by
          rw [hP b h.2.1] at h
          exact h0 (hex b h.2.1 (wr_t.mp h.2.2).1 (wr_t.mp h.2.2).2)
        funext a
        unfold mkP
        split
        · funext b; exact if_neg (hz b)
        · split
          · funext b; exact if_neg (hz b)
          · rfl
      rw [hmk]
      obtain ⟨R2, t1, t2, t3, t4, t5, t6, t7, t8⟩ := ih (i + 1) n9 c R hM hl hk (fun b h1 h2 => hW b h1 (by omega)) (by omega) (by omega) (by omega)
      have hcond : ∀ b, (b < nb ∧ W b = true ∧ i + 1 ≤ rn b ∧ rn b < 108) = (b < nb ∧ W b = true ∧ i ≤ rn b ∧ rn b < 108) := fun b => propext ⟨fun h => ⟨h.1, h.2.1, by omega, h.2.2.2⟩, fun h => ⟨h.1, h.2.1, Nat.lt_of_le_of_ne h.2.2.1 (fun hh => h0 (hex b h.1 h.2.1 hh.symm)), h.2.2.2⟩⟩
      refine ⟨R2, t1, t2, t3, t4, t5, fun b => by rw [t6 b]; simp only [hcond b], fun b => ?_, fun r h1 h2 h3 => ?_⟩
      · rw [t7 b]
        simp only [hcond b]
        by_cases h1 : b < nb ∧ W b = true ∧ i ≤ rn b ∧ rn b < 108
        · have h2 : i < rn b := Nat.lt_of_le_of_ne h1.2.2.1 (fun hh => h0 (hex b h1.1 h1.2.1 hh.symm))
          rw [if_pos h1, if_pos h1, eL (rn b) h2, if_neg hp, Nat.zero_add]
        · rw [if_neg h1, if_neg h1]
      · have hri : i < r := Nat.lt_of_le_of_ne h1 (fun hh => by subst hh; exact h0 h3)
        rw [eL r hri, if_neg hp, Nat.zero_add]
        exact t8 r (by omega) h2 h3

