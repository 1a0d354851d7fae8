/-! the law's sixty-four steps -/
section
variable {N sl : Nat} {xs : Nat → Int32} {kh : Int32 → Int32 → gq_M → Option (Int32 × gq_M)}
theorem mv3 {n : Nat} : (3 : Int32) * nI n = nI (3 * n) := nI_mul 3 n
theorem ad414 {n : Nat} : (414 : Int32) + nI n = nI (414 + n) := nI_add 414 n
theorem iL11t {β : Type} {n : Nat} {x y : β} {_ : Decidable ((11 : Int32) ≤ nI n)} (h : 11 ≤ n) (hn : n < 2 ^ 31) : (if (11 : Int32) ≤ nI n then x else y) = x := if_pos ((nI_leI (a := 11) (by omega) hn).mpr h)
theorem iL11f {β : Type} {n : Nat} {x y : β} {_ : Decidable ((11 : Int32) ≤ nI n)} (h : n < 11) : (if (11 : Int32) ≤ nI n then x else y) = y := if_neg (fun z => by have := (nI_leI (a := 11) (by omega) (by omega)).mp z; omega)
theorem iL16t {β : Type} {n : Nat} {x y : β} {_ : Decidable ((16 : Int32) ≤ nI n)} (h : 16 ≤ n) (hn : n < 2 ^ 31) : (if (16 : Int32) ≤ nI n then x else y) = x := if_pos ((nI_leI (a := 16) (by omega) hn).mpr h)
theorem iL16f {β : Type} {n : Nat} {x y : β} {_ : Decidable ((16 : Int32) ≤ nI n)} (h : n < 16) : (if (16 : Int32) ≤ nI n then x else y) = y := if_neg (fun z => by have := (nI_leI (a := 16) (by omega) (by omega)).mp z; omega)
theorem iL23t {β : Type} {n : Nat} {x y : β} {_ : Decidable ((23 : Int32) ≤ nI n)} (h : 23 ≤ n) (hn : n < 2 ^ 31) : (if (23 : Int32) ≤ nI n then x else y) = x := if_pos ((nI_leI (a := 23) (by omega) hn).mpr h)
theorem iL23f {β : Type} {n : Nat} {x y : β} {_ : Decidable ((23 : Int32) ≤ nI n)} (h : n < 23) : (if (23 : Int32) ≤ nI n then x else y) = y := if_neg (fun z => by have := (nI_leI (a := 23) (by omega) (by omega)).mp z; omega)
theorem iL28t {β : Type} {n : Nat} {x y : β} {_ : Decidable ((28 : Int32) ≤ nI n)} (h : 28 ≤ n) (hn : n < 2 ^ 31) : (if (28 : Int32) ≤ nI n then x else y) = x := if_pos ((nI_leI (a := 28) (by omega) hn).mpr h)
theorem iL28f {β : Type} {n : Nat} {x y : β} {_ : Decidable ((28 : Int32) ≤ nI n)} (h : n < 28) : (if (28 : Int32) ≤ nI n then x else y) = y := if_neg (fun z => by have := (nI_leI (a := 28) (by omega) (by omega)).mp z; omega)
theorem iL64t {β : Type} {n : Nat} {x y : β} {_ : Decidable ((64 : Int32) ≤ nI n)} (h : 64 ≤ n) (hn : n < 2 ^ 31) : (if (64 : Int32) ≤ nI n then x else y) = x := if_pos ((nI_leI (a := 64) (by omega) hn).mpr h)
theorem iL64f {β : Type} {n : Nat} {x y : β} {_ : Decidable ((64 : Int32) ≤ nI n)} (h : n < 64) : (if (64 : Int32) ≤ nI n then x else y) = y := if_neg (fun z => by have := (nI_leI (a := 64) (by omega) (by omega)).mp z; omega)
theorem gp_s {β : Type} {v : Int32} {f : Int32 → Option β} : gq_p (some v) f = f v := rfl
theorem s_622 {j one two : Nat} {hw : Int32} {M R : gq_M} (hN : 600 ≤ N) (hj : j < 64) (h : STA j M R) (ho : one < 60000) (ht : two < 60000) (hh : hw = 0 ∨ hw = 1 ∨ hw = 2 ∨ hw = 3 ∨ hw = 7 ∨ hw = 9) : ∃ M2 R2, f_L_law_622 sl xs N kh (nI j) (nI one) (nI two) hw M = kh 1 (nI (j + 1)) M2 ∧ STA (j + 1) M2 R2 := by
  obtain ⟨I, nb, nl, nr, tn, dn, H, hs, h1, h2⟩ := h
  obtain ⟨M1, R1, nb2, nl2, nr2, dn2, e1, I1, H1, h3⟩ := s_sale2 (N := N) hN H I (by omega) ho ht hh
  obtain ⟨M2, e2, S2⟩ := s_tail (N := N) (sl := sl) (xs := xs) (kh := kh) (j := j) (one := one) (M := M1) (R := R1) hN ⟨I1, nb2, nl2, nr2, tn, dn2, H1, by omega, by omega⟩ (by omega)
  refine ⟨M2, R1, ?_, S2⟩
  unfold f_L_law_622
  rw [e1, gq_b_s]
  exact e2
theorem s_689 {j one m : Nat} {M R : gq_M} (hN : 600 ≤ N) (hj : j < 64) (h : STA j M R) (ho : one < 60000) (hm1 : 1 ≤ m) (hm2 : m ≤ 40) : ∃ M2 R2, f_L_law_689 sl xs N kh (nI j) (nI one) (nI m) M = kh 1 (nI (j + 1)) M2 ∧ STA (j + 1) M2 R2 := by
  obtain ⟨I, nb, nl, nr, tn, dn, H, hs, h1, h2⟩ := h
  obtain ⟨M1, R1, e1, I1, H1⟩ := s_passed (N := N) (sl := sl) (xs := xs) (kh := kh) (x17 := nI j) (x19 := nI one) hN hm1 hm2 I H (by omega)
  obtain ⟨M2, e2, S2⟩ := s_tail (N := N) (sl := sl) (xs := xs) (kh := kh) (j := j) (one := one) (M := M1) (R := R1) hN ⟨I1, nb, nl, nr, _, dn, H1, by omega, by omega⟩ (by omega)
  exact ⟨M2, R1, e1.trans e2, S2⟩
theorem s_494 {j one what : Nat} {M R : gq_M} (hN : 600 ≤ N) (hsl : sl ≤ 260) (hj : j < 64) (h : STA j M R) (ho : one < 60000) (hw : what < 40) : ∃ M2 R2, f_L_law_494 sl xs N kh (nI j) (nI what) (nI one) M = kh 1 (nI (j + 1)) M2 ∧ STA (j + 1) M2 R2 := by
  obtain ⟨two, ht, et⟩ := part_ok (sl := sl) (xs := xs) (a := 3 * j + 2) (m := 60000) (by omega) (by omega) (by omega) (by omega)
  unfold f_L_law_494
  rw [mv3, ap2, show (60000 : Int32) = nI 60000 from rfl, et, gp_s]
  by_cases c1 : 11 ≤ what
  · rw [iL11t c1 (by omega)]
    by_cases c2 : 29 ≤ what
    · rw [iL29t c2 (by omega), rm6 (by omega)]
      by_cases c3 : one % 6 = 0
      · rw [iE0t c3, rm40 (by omega), ad1]
        exact s_689 hN hj h ho (by omega) (by omega)
      · rw [iE0f c3 (by omega), rm4 (by omega), ad1]
        exact s_689 hN hj h ho (by omega) (by omega)
    · rw [iL29f (by omega)]
      by_cases d1 : what = 11
      · rw [iE11t d1]
        exact s_622 hN hj h ho ht (by decide)
      · rw [iE11f d1 (by omega)]
        by_cases d2 : what = 12
        · rw [iE12t d2]
          exact s_622 hN hj h ho ht (by decide)
        · rw [iE12f d2 (by omega)]
          by_cases d3 : what = 13
          · rw [iE13t d3]
            exact s_622 hN hj h ho ht (by decide)
          · rw [iE13f d3 (by omega)]
            by_cases d4 : 16 ≤ what
            · rw [iL16t d4 (by omega)]
              by_cases d5 : 23 ≤ what
              · rw [iL23t d5 (by omega)]
                by_cases d6 : 28 ≤ what
                · rw [iL28t d6 (by omega)]
                  exact s_622 hN hj h ho ht (by decide)
                · rw [iL28f (by omega)]
                  exact s_622 hN hj h ho ht (by decide)
              · rw [iL23f (by omega)]
                exact s_622 hN hj h ho ht (by decide)
            · rw [iL16f (by omega)]
              exact s_622 hN hj h ho ht (by decide)
  · rw [iL11f (by omega)]
    obtain ⟨I, nb, nl, nr, tn, dn, H, hs, h1, h2⟩ := h
    obtain ⟨M1, R1, e1, I1, H1⟩ := s_told (N := N) (what := what) (one := one) (two := two) hN H I hs (by omega) ho ht
    obtain ⟨M2, e2, S2⟩ := s_tail (N := N) (sl := sl) (xs := xs) (kh := kh) (j := j) (one := one) (M := M1) (R := R1) hN ⟨I1, nb, nl, nr, tn, dn, H1, by omega, by omega⟩ (by omega)
    refine ⟨M2, R1, ?_, S2⟩
    rw [e1, gq_b_s]
    exact e2
theorem s_465 {j what : Nat} {M R : gq_M} (hN : 600 ≤ N) (hsl : sl ≤ 260) (hj : j < 64) (h : STA j M R) (hw : what < 40) : ∃ M2 R2, f_L_law_465 sl xs N kh (nI j) (nI what) M = kh 1 (nI (j + 1)) M2 ∧ STA (j + 1) M2 R2 := by
  unfold f_L_law_465
  by_cases c : 3 ≤ j
  · obtain ⟨one, ho, eo⟩ := part_ok (sl := sl) (xs := xs) (a := 3 * j + 1) (m := 60000) (by omega) (by omega) (by omega) (by omega)
    rw [iL3t c (by omega), mv3, nI_1, show (60000 : Int32) = nI 60000 from rfl, eo, gp_s]
    exact s_494 hN hsl hj h ho hw
  · rw [iL3f (by omega), ad414]
    exact s_494 hN hsl hj h (by omega) hw
theorem s_step {j : Nat} {M R : gq_M} (hN : 600 ≤ N) (hsl : sl ≤ 260) (hj : j < 64) (h : STA j M R) : ∃ M2 R2, f_L_law_399_b sl xs N kh 1 (nI j) M = kh 1 (nI (j + 1)) M2 ∧ STA (j + 1) M2 R2 := by
  unfold f_L_law_399_b
  rw [iL64f (by omega), if_neg one_ne]
  by_cases c3 : 3 ≤ j
  · rw [iL3t c3 (by omega)]
    by_cases c4 : 4 ≤ j
    · rw [iL4t c4 (by omega)]
      by_cases c10 : 10 ≤ j
      · rw [iL10t c10 (by omega)]
        by_cases d : j = 10
        · rw [iE10t d]
          exact s_465 (what := 12) hN hsl hj h (by omega)
        · obtain ⟨w, hw, ew⟩ := part_ok (sl := sl) (xs := xs) (a := 3 * j) (m := 40) (by omega) (by omega) (by omega) (by omega)
          rw [iE10f d (by omega), mv3, show (40 : Int32) = nI 40 from rfl, ew, gp_s]
          exact s_465 hN hsl hj h hw
      · rw [iL10f (by omega)]
        exact s_465 (what := 11) hN hsl hj h (by omega)
    · rw [iL4f (by omega)]
      exact s_465 (what := 2) hN hsl hj h (by omega)
  · rw [iL3f (by omega)]
    exact s_465 (what := 4) hN hsl hj h (by omega)
theorem s_law (hN : 600 ≤ N) (hsl : sl ≤ 260) : ∀ (k j n9 : Nat) (M R : gq_M), STA j M R → j + k = 64 → k < n9 → ∃ M2, f_L_law_399 sl xs N n9 1 (nI j) M = some (1, M2) := by
  intro k
  induction k with
  | zero =>
    intro j n9 M R h hj h9
    obtain ⟨n9, rfl⟩ : ∃ z, n9 = z + 1 := ⟨n9 - 1, by omega⟩
    obtain rfl : j = 64 := by omega
    refine ⟨M, ?_⟩
    show f_L_law_399_b sl xs N (f_L_law_399 sl xs N n9) 1 (nI 64) M = _
    unfold f_L_law_399_b f_L_law_851
    rw [if_pos (show (64 : Int32) ≤ nI 64 by decide)]
  | succ k ih =>
    intro j n9 M R h hj h9
    obtain ⟨n9, rfl⟩ : ∃ z, n9 = z + 1 := ⟨n9 - 1, by omega⟩
    obtain ⟨M1, R1, e1, S1⟩ := s_step (N := N) (sl := sl) (xs := xs) (kh := f_L_law_399 sl xs N n9) hN hsl (by omega) h
    obtain ⟨M2, e2⟩ := ih (j + 1) n9 M1 R1 S1 (by omega) (by omega)
    exact ⟨M2, e1.trans e2⟩
end

