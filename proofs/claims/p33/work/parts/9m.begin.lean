/-! the law begins -/
def i98 : Nat → Nat → gq_M → gq_M
  | _, 0, M => M
  | i, k + 1, M => i98 (i + 1) k (gq_up M 120 i 10000)
def i122 : Nat → Nat → gq_M → gq_M
  | _, 0, M => M
  | i, k + 1, M => i122 (i + 1) k (gq_up (gq_up M 119 (32 + i) 1) 119 (48 + i) 1)
def i156 : Nat → Nat → gq_M → gq_M
  | _, 0, M => M
  | i, k + 1, M => i156 (i + 1) k (gq_up (gq_up (gq_up M 119 (8 + i) 1000) 119 (12 + i) 100) 119 (16 + i) (nI (i % 3)))
def i204 : Nat → Nat → gq_M → gq_M
  | _, 0, M => M
  | i, k + 1, M => i204 (i + 1) k (bgL i 0 (gq_up (gq_up (gq_up (gq_up M 115 (8 * i + 1) (-1)) 115 (8 * i + 4) (-1)) 115 (8 * i + 5) 10) 115 (8 * i + 6) 1))
def MX : gq_M := i204 0 3 (i156 0 4 (i122 0 8 (i98 0 32 (gq_up ML0 119 3 1))))
section
variable {N sl : Nat} {xs : Nat → Int32}
theorem b_98 : ∀ (k i n9 : Nat) (M : gq_M), i + k = 32 → k < n9 → f_L_law_98 sl xs N n9 (nI i) M = f_L_law_122 sl xs N N 0 (i98 i k M) := by
  intro k
  induction k with
  | zero =>
    intro i n9 M hi h9
    obtain ⟨n9, rfl⟩ : ∃ z, n9 = z + 1 := ⟨n9 - 1, by omega⟩
    obtain rfl : i = 32 := by omega
    show f_L_law_98_b sl xs N (f_L_law_98 sl xs N n9) (nI 32) M = _
    unfold f_L_law_98_b
    rw [if_pos (show (32 : Int32) ≤ nI 32 by decide)]
    rfl
  | succ k ih =>
    intro i n9 M hi h9
    obtain ⟨n9, rfl⟩ : ∃ z, n9 = z + 1 := ⟨n9 - 1, by omega⟩
    show f_L_law_98_b sl xs N (f_L_law_98 sl xs N n9) (nI i) M = _
    unfold f_L_law_98_b
    rw [if_neg (fun z => by have := (nI_leI (a := 32) (by omega) (by omega)).mp z; omega), g_inN (by omega) (by omega), nI_clamp (n := i) (by omega), gq_l_e, nI_1]
    exact ih (i + 1) n9 _ (by omega) (by omega)
theorem b_122 : ∀ (k i n9 : Nat) (M : gq_M), i + k = 8 → k < n9 → f_L_law_122 sl xs N n9 (nI i) M = f_L_law_156 sl xs N N 0 (i122 i k M) := by
  intro k
  induction k with
  | zero =>
    intro i n9 M hi h9
    obtain ⟨n9, rfl⟩ : ∃ z, n9 = z + 1 := ⟨n9 - 1, by omega⟩
    obtain rfl : i = 8 := by omega
    show f_L_law_122_b sl xs N (f_L_law_122 sl xs N n9) (nI 8) M = _
    unfold f_L_law_122_b
    rw [if_pos (show (8 : Int32) ≤ nI 8 by decide)]
    rfl
  | succ k ih =>
    intro i n9 M hi h9
    obtain ⟨n9, rfl⟩ : ∃ z, n9 = z + 1 := ⟨n9 - 1, by omega⟩
    show f_L_law_122_b sl xs N (f_L_law_122 sl xs N n9) (nI i) M = _
    unfold f_L_law_122_b
    rw [iL8f (by omega), ad32, g_inN (by omega) (by omega), nI_clamp (n := 32 + i) (by omega), gq_l_e, ad48, g_inN (by omega) (by omega), nI_clamp (n := 48 + i) (by omega), gq_l_e, nI_1]
    exact ih (i + 1) n9 _ (by omega) (by omega)
theorem b_156 : ∀ (k i n9 : Nat) (M : gq_M), i + k = 4 → k < n9 → f_L_law_156 sl xs N n9 (nI i) M = f_L_law_204 sl xs N N 0 (i156 i k M) := by
  intro k
  induction k with
  | zero =>
    intro i n9 M hi h9
    obtain ⟨n9, rfl⟩ : ∃ z, n9 = z + 1 := ⟨n9 - 1, by omega⟩
    obtain rfl : i = 4 := by omega
    show f_L_law_156_b sl xs N (f_L_law_156 sl xs N n9) (nI 4) M = _
    unfold f_L_law_156_b
    rw [if_pos (show (4 : Int32) ≤ nI 4 by decide)]
    rfl
  | succ k ih =>
    intro i n9 M hi h9
    obtain ⟨n9, rfl⟩ : ∃ z, n9 = z + 1 := ⟨n9 - 1, by omega⟩
    show f_L_law_156_b sl xs N (f_L_law_156 sl xs N n9) (nI i) M = _
    unfold f_L_law_156_b
    rw [iL4f (by omega), ad8, g_inN (by omega) (by omega), nI_clamp (n := 8 + i) (by omega), gq_l_e, ad12, g_inN (by omega) (by omega), nI_clamp (n := 12 + i) (by omega), gq_l_e, ad16, g_inN (by omega) (by omega), nI_clamp (n := 16 + i) (by omega), gq_l_e, rm3 (by omega), nI_1]
    exact ih (i + 1) n9 _ (by omega) (by omega)
theorem b_204 (hN : 600 ≤ N) (F : Int32 → gq_M → Option (Int32 × gq_M)) : ∀ (k i n9 : Nat) (M : gq_M), i + k = 3 → k < n9 → f_L_law_204 sl xs N n9 (nI i) M = f_L_law_204_b sl xs N F (nI 3) (i204 i k M) := by
  intro k
  induction k with
  | zero =>
    intro i n9 M hi h9
    obtain ⟨n9, rfl⟩ : ∃ z, n9 = z + 1 := ⟨n9 - 1, by omega⟩
    obtain rfl : i = 3 := by omega
    show f_L_law_204_b sl xs N (f_L_law_204 sl xs N n9) (nI 3) M = f_L_law_204_b sl xs N F (nI 3) M
    unfold f_L_law_204_b
    rw [if_pos (show (3 : Int32) ≤ nI 3 by decide), if_pos (show (3 : Int32) ≤ nI 3 by decide)]
  | succ k ih =>
    intro i n9 M hi h9
    obtain ⟨n9, rfl⟩ : ∃ z, n9 = z + 1 := ⟨n9 - 1, by omega⟩
    show f_L_law_204_b sl xs N (f_L_law_204 sl xs N n9) (nI i) M = _
    conv => lhs; unfold f_L_law_204_b
    rw [iL3f (by omega), pl8z, nI_1, ap4, ap5, ap6, g_inN (j := 8 * i + 1) (by omega) (by omega), nI_clamp (n := 8 * i + 1) (by omega), gq_l_e, g_inN (j := 8 * i + 4) (by omega) (by omega), nI_clamp (n := 8 * i + 4) (by omega), gq_l_e, g_inN (j := 8 * i + 5) (by omega) (by omega), nI_clamp (n := 8 * i + 5) (by omega), gq_l_e, g_inN (j := 8 * i + 6) (by omega) (by omega), nI_clamp (n := 8 * i + 6) (by omega), gq_l_e, l_begins (by omega) hN, gq_b_s, nI_1]
    exact ih (i + 1) n9 _ (by omega) (by omega)
theorem rng_v {a b n : Nat} {v : Int32} (h : v = nI n) (h1 : a ≤ n) (h2 : n ≤ b) : rng a b v := ⟨n, h1, h2, h⟩
set_option maxRecDepth 20000 in
theorem pk_0 : PK T0 0 0 0 0 0 MX MR0 := by
  have a1 : ∀ j, j < 4 → MX 119 (8 + j) = MR0 6 j ∧ MX 119 (12 + j) = MR0 7 j ∧ MX 119 (16 + j) = MR0 8 j ∧ MR0 6 j = nI 1000 ∧ MR0 7 j = nI 100 ∧ MR0 8 j = nI (j % 3) := by decide +kernel
  have a2 : ∀ j, j < 8 → MX 119 (24 + j) = MR0 9 j ∧ MX 119 (32 + j) = MR0 10 j ∧ MX 119 (40 + j) = MR0 11 j ∧ MX 119 (48 + j) = MR0 12 j ∧ MR0 10 j = nI 1 ∧ MR0 12 j = 1 := by decide +kernel
  have a3 : ∀ j, j < 32 → MX 120 j = MR0 1 j ∧ MX 120 (32 + j) = MR0 2 j := by decide +kernel
  have a4 : ∀ j, j < 8 → MX 121 j = MR0 3 j ∧ MX 121 (8 + j) = MR0 4 j ∧ MX 121 (16 + j) = MR0 5 j ∧ MR0 4 j = 0 := by decide +kernel
  have a5 : ∀ h, h < 3 → MX 115 (8 * h + 3) = MR0 38 h ∧ MX 115 (8 * h + 5) = MR0 33 h ∧ MX 115 (8 * h + 6) = MR0 34 h ∧ MR0 33 h = nI 10 ∧ MR0 34 h = 1 := by decide +kernel
  have a6 : ∀ h, h < 3 → MX 115 (8 * h) = MR0 35 h ∧ MX 115 (8 * h + 1) = MR0 36 h ∧ MX 115 (8 * h + 2) = MR0 37 h ∧ MX 115 (8 * h + 4) = MR0 39 h ∧ MR0 36 h = -1 ∧ MR0 39 h = -1 ∧ MR0 37 h = nI 0 := by decide +kernel
  have a7 : ∀ j, j < 24 → MR0 40 j = -1 ∧ MR0 43 j = 0 ∧ MX 116 j = -1 := by decide +kernel
  have a8 : ∀ j, j < 40 → MX 112 j = 0 ∧ MX 113 j = 0 := by decide +kernel
  exact ⟨⟨by decide +kernel, by decide +kernel, by omega⟩, ⟨by decide +kernel, by decide +kernel, by omega⟩, ⟨by decide +kernel, by decide +kernel, by omega⟩, ⟨by decide +kernel, by decide +kernel, by omega⟩, ⟨by decide +kernel, by decide +kernel, by omega⟩, ⟨by decide +kernel, Or.inl (by decide +kernel)⟩, by decide +kernel,
    fun j hj => ⟨(a1 j hj).1, (a1 j hj).2.1, (a1 j hj).2.2.1, rng_v (a1 j hj).2.2.2.1 (by omega) (by omega), rng_v (a1 j hj).2.2.2.2.1 (by omega) (by omega), rng_v (a1 j hj).2.2.2.2.2 (by omega) (by omega)⟩,
    fun j hj => ⟨(a2 j hj).1, (a2 j hj).2.1, (a2 j hj).2.2.1, (a2 j hj).2.2.2.1, rng_v (a2 j hj).2.2.2.2.1 (by omega) (by omega), Or.inr (a2 j hj).2.2.2.2.2⟩,
    a3, fun j hj => ⟨(a4 j hj).1, (a4 j hj).2.1, (a4 j hj).2.2.1, Or.inl (a4 j hj).2.2.2⟩,
    fun h hh => ⟨⟨(a5 h hh).1, (a5 h hh).2.1, (a5 h hh).2.2.1, rng_v (a5 h hh).2.2.2.1 (by omega) (by omega), Or.inr (a5 h hh).2.2.2.2⟩, fun _ => ⟨(a6 h hh).1, (a6 h hh).2.1, (a6 h hh).2.2.1, (a6 h hh).2.2.2.1, Or.inl (a6 h hh).2.2.2.2.1, Or.inl (a6 h hh).2.2.2.2.2.1, rng_v (a6 h hh).2.2.2.2.2.2 (by omega) (by omega)⟩⟩,
    fun j hj => Or.inl (a7 j hj), fun b hb => absurd hb (Nat.not_lt_zero _), fun b _ hb => a8 b hb, fun k hk => absurd hk (Nat.not_lt_zero _), fun k hk => absurd hk (Nat.not_lt_zero _)⟩
theorem e9_i98 : ∀ (k i : Nat) (M : gq_M), E9 (i98 i k M) M := by
  intro k
  induction k with
  | zero => intro i M; exact e9_r
  | succ k ih => intro i M a ha; exact (ih (i + 1) _ a ha).trans (e9_up e9_r (by omega) a ha)
theorem e9_i122 : ∀ (k i : Nat) (M : gq_M), E9 (i122 i k M) M := by
  intro k
  induction k with
  | zero => intro i M; exact e9_r
  | succ k ih => intro i M a ha; exact (ih (i + 1) _ a ha).trans (e9_up (e9_up e9_r (by omega)) (by omega) a ha)
theorem e9_i156 : ∀ (k i : Nat) (M : gq_M), E9 (i156 i k M) M := by
  intro k
  induction k with
  | zero => intro i M; exact e9_r
  | succ k ih => intro i M a ha; exact (ih (i + 1) _ a ha).trans (e9_up (e9_up (e9_up e9_r (by omega)) (by omega)) (by omega) a ha)
theorem e9_i204 : ∀ (k i : Nat) (M : gq_M), E9 (i204 i k M) M := by
  intro k
  induction k with
  | zero => intro i M; exact e9_r
  | succ k ih => intro i M a ha; exact (ih (i + 1) _ a ha).trans ((bgL_o (by omega)).trans (e9_up (e9_up (e9_up (e9_up e9_r (by omega)) (by omega)) (by omega)) (by omega) a ha))
theorem inv_0 : INV MX MR0 := by
  refine inv_cg hnew fun a ha => ?_
  have h1 : MX a = ML0 a := (e9_i204 3 0 _ a ha).trans ((e9_i156 4 0 _ a ha).trans ((e9_i122 8 0 _ a ha).trans ((e9_i98 32 0 _ a ha).trans (e9_up e9_r (by omega) a ha))))
  rw [h1]
  exact if_pos ha
theorem s_begin (hN : 600 ≤ N) : ∃ M2, f_L_law_204_b sl xs N (fun _ _ => none) (nI 3) MX = f_L_law_394 sl xs N 1 M2 ∧ STA 0 M2 MR0 := by
  have I := inv_0
  have H := pk_0
  have r2 : MR0 0 2 = 0 := by decide +kernel
  have r49 : MR0 0 49 = nI 0 := by decide +kernel
  have h1 : f_X10_quota N 0 4 0 MR0 = some (0, thr MR0 1) := (e_quota (N := N) (R := MR0) (bo := 0) (ki := 4) (k := 0) (by omega) (by omega) (by omega)).trans (if_neg (by omega))
  have h2 : f_X10_open N MR0 = some (0, thr MR0 1) := by
    rw [e_open_1 (N := N) hN (ir_of I H) (pq_nb H).2.1 (pq_nb H).2.2 r2]
    exact if_neg (by decide)
  have h3 : f_X10_end N MR0 = some (0, thr MR0 1) := by
    unfold f_X10_end f_X10_end_13
    rw [if_pos r2, b_fails, bI_t (show (0 : Int32) < 1 by decide), if_neg one_ne]
  have h4 : f_X10_press N 0 0 MR0 = some (0, thr MR0 2) := e_press_f (N := N) (R := MR0) (bu := 0) (ha := 0) (by omega) (by omega) (Or.inr (by decide +kernel)) (Or.inr (by decide +kernel)) (fun z => absurd z.1.1.1 (by decide +kernel))
  have h5 : f_X10_pass N 501 MR0 = some (0, thr MR0 1) := by
    unfold f_X10_pass f_X10_pass_32
    rw [b_isIn, bI_f (show ¬ ((1 : Int32) ≤ 501 ∧ (501 : Int32) ≤ 500) by decide), if_pos rfl, b_fails, bI_t (show (0 : Int32) < 1 by decide), if_neg one_ne]
  have h6 : f_X10_loaded N 0 MR0 = some (0, thr MR0 1) := by
    unfold f_X10_loaded f_X10_loaded_20 f_X10_loaded_36
    rw [b_isIn, r49, bI_f (show ¬ ((0 : Int32) ≤ 0 ∧ (0 : Int32) ≤ nI 0 - 1) by decide), if_pos rfl, b_fails, bI_t (show (0 : Int32) < 1 by decide), if_neg one_ne]
  have h7 : f_X10_pay N 0 0 MR0 = some (0, thr MR0 2) := (e_pay (N := N) (R := MR0) (bo := 0) (ce := 0) (by omega) (by omega)).trans ((if_pos (by omega)).trans (if_neg (by omega)))
  obtain ⟨M1, y1, I1, g1⟩ := y_quota (N := N) (M := MX) (a4 := 0) (a5 := 0) (a6 := 0) (x := -300000000) I h1 rfl
  have H1 := pk_mc H g1
  have I1 := inv_rth I1
  obtain ⟨M2, y2, I2, g2⟩ := y_open (N := N) (M := M1) (hN := hN) (a1 := 0) (a2 := 0) (a3 := 0) (a4 := 0) (a5 := 0) (a6 := 0) (x := -100000000) I1 h2 rfl
  have H2 := pk_mc H1 g2
  have I2 := inv_rth I2
  obtain ⟨M3, y3, I3, g3⟩ := y_end (N := N) (M := M2) (hN := hN) (a1 := 0) (a2 := 0) (a3 := 0) (a4 := 0) (a5 := 0) (a6 := 0) (x := -100000000) I2 h3 rfl
  have H3 := pk_mc H2 g3
  have I3 := inv_rth I3
  obtain ⟨M4, y4, I4, g4⟩ := y_press (N := N) (M := M3) (hN := hN) (a3 := 0) (a4 := 0) (a5 := 0) (a6 := 0) (x := -100000000) I3 h4 rfl
  have H4 := pk_mc H3 g4
  have I4 := inv_rth I4
  obtain ⟨M5, y5, I5, g5⟩ := y_pass (N := N) (M := M4) (hN := hN) (a2 := 0) (a3 := 0) (a4 := 0) (a5 := 0) (a6 := 0) (x := -200000000) I4 h5 rfl
  have H5 := pk_mc H4 g5
  have I5 := inv_rth I5
  obtain ⟨M6, y6, I6, g6⟩ := y_loaded (N := N) (M := M5) (hN := hN) (a2 := 0) (a3 := 0) (a4 := 0) (a5 := 0) (a6 := 0) (x := -300000000) I5 h6 rfl
  have H6 := pk_mc H5 g6
  have I6 := inv_rth I6
  obtain ⟨M7, y7, I7, g7⟩ := y_pay (N := N) (M := M6) (hN := hN) (a3 := 0) (a4 := 0) (a5 := 0) (a6 := 0) (x := -200000000) I6 h7 rfl
  have H7 := pk_mc H6 g7
  have I7 := inv_rth I7
  refine ⟨M7, ?_, I7, 0, 0, 0, 0, 0, H7, fun b hb => absurd hb (Nat.not_lt_zero _), by omega, by omega⟩
  unfold f_L_law_204_b
  rw [if_pos (show (3 : Int32) ≤ nI 3 by decide), y1, gq_b_s, if_pos rfl, y2, gq_b_s, if_pos rfl, y3, gq_b_s, if_pos rfl, y4, gq_b_s, if_pos rfl, y5, gq_b_s, if_pos rfl, y6, gq_b_s, if_pos rfl, y7, gq_b_s, if_pos rfl]
theorem s_hlaw (hsl : sl ≤ 260) : ∃ M9, f_L_law_90 sl xs 600 ML0 = some (1, M9) := by
  obtain ⟨M2, e1, S⟩ := s_begin (N := 600) (sl := sl) (xs := xs) (by omega)
  obtain ⟨M9, e2⟩ := s_law (N := 600) (sl := sl) (xs := xs) (by omega) hsl 64 0 600 M2 MR0 S (by omega) (by omega)
  refine ⟨M9, ?_⟩
  unfold f_L_law_90
  rw [gi3_56, cl3, gq_l_e]
  refine Eq.trans (b_98 32 0 600 _ (by omega) (by omega)) ?_
  refine Eq.trans (b_122 8 0 600 _ (by omega) (by omega)) ?_
  refine Eq.trans (b_156 4 0 600 _ (by omega) (by omega)) ?_
  refine Eq.trans (b_204 (by omega) (fun _ _ => none) 3 0 600 _ (by omega) (by omega)) ?_
  refine Eq.trans e1 ?_
  exact e2
end

