/-! is it so: boxes, lots, halls -/
section
variable {N nb nl nr tn dn : Nat} {R : gq_M}
theorem BX_c {M R : gq_M} {b : Nat} (h : BX M R b) : M 111 b = R 26 b := by
  obtain ⟨bo, ki, si, fr, st, wc, cl, kl, re, so, h1, h2, h3, h4, h5, h6⟩ := h
  exact h5
def G9 (M2 M : gq_M) : Prop := ∀ k, 109 ≤ k → M2 k = M k
theorem g9_r {M : gq_M} : G9 M M := fun _ _ => rfl
theorem g9_t {M1 M2 M3 : gq_M} (h : G9 M3 M2) (h2 : G9 M2 M1) : G9 M3 M1 := fun k hk => (h k hk).trans (h2 k hk)
theorem one_ne : ¬ (1 : Int32) = 0 := by decide
theorem pq_lt {S : Nat → Prop} {M : gq_M} (H : PK S nb nl nr tn dn M R) : ∀ k, k < nl → LT M R k := by
  obtain ⟨hnb, hnl, hnr, htn, hdn, hop, hdr, hkd, hby, hqu, hbt, hha, hpr, hbx, hbz, hlt, hlo⟩ := H
  exact hlt
theorem so_box {x12 : Int32} (hN : 600 ≤ N) : ∀ (k i n9 : Nat) (M : gq_M), INV M R → PK T0 nb nl nr tn dn M R → i + k = nb → k < n9 → ∃ M2, f_L_isSo_51 N n9 x12 1 (nI i) M = f_L_isSo_179 N x12 1 M2 ∧ INV M2 R ∧ PK T0 nb nl nr tn dn M2 R ∧ G9 M2 M := by
  intro k
  induction k with
  | zero =>
    intro i n9 M I H hi h9
    obtain ⟨n9, rfl⟩ : ∃ z, n9 = z + 1 := ⟨n9 - 1, by omega⟩
    have hnb := pq_nb H
    have hb := hnb.2.2
    refine ⟨M, ?_, I, H, g9_r⟩
    show f_L_isSo_51_b N (f_L_isSo_51 N n9) x12 1 (nI i) M = _
    unfold f_L_isSo_51_b
    rw [gi4_56, cl4, gq_l_e, hnb.1, if_pos (nI_le (by omega) (by omega))]
  | succ k ih =>
    intro i n9 M I H hi h9
    obtain ⟨n9, rfl⟩ : ∃ z, n9 = z + 1 := ⟨n9 - 1, by omega⟩
    have hnb := pq_nb H
    have hb := hnb.2.2
    have hj : i < nb := by omega
    have h40 : i < 40 := by omega
    obtain ⟨M1, f1, I1, H1, g1⟩ := k_told0 (N := N) hN I H hj
    obtain ⟨M2, f2, I2, H2, g2⟩ := k_told1 (N := N) hN I1 H1 hj
    obtain ⟨M3, f3, I3, H3, g3⟩ := k_told2 (N := N) hN I2 H2 hj
    obtain ⟨M4, f4, I4, H4, g4⟩ := k_told3 (N := N) hN I3 H3 hj
    obtain ⟨M5, f5, I5, H5, g5⟩ := k_told4 (N := N) hN I4 H4 hj
    have B1 := pq_bx H1 i hj
    have B2 := pq_bx H2 i hj
    have B3 := pq_bx H3 i hj
    have B4 := pq_bx H4 i hj
    have B5 := pq_bx H5 i hj
    obtain ⟨M9, y1, y2, y3, y4⟩ := ih (i + 1) n9 M5 I5 H5 (by omega) (by omega)
    refine ⟨M9, ?_, y2, y3, g9_t y4 (g9_t g5 (g9_t g4 (g9_t g3 (g9_t g2 g1))))⟩
    show f_L_isSo_51_b N (f_L_isSo_51 N n9) x12 1 (nI i) M = _
    unfold f_L_isSo_51_b f_L_isSo_149 f_L_isSo_171
    rw [gi4_56, cl4, gq_l_e, hnb.1, if_neg (nI_ge (by omega) (by omega)), if_neg one_ne, f1, l_how B1 h40, gq_b_s, if_pos rfl, f2, g_inN h40 (by omega), gq_l_e, nI_clamp (by omega), (BX_a B2).2.2.2.1, if_pos rfl, f3, g_inN h40 (by omega), gq_l_e, (BX_d B3).1, if_pos rfl, f4, g_inN h40 (by omega), gq_l_e]
    have e4 := (BX_d B4).2
    by_cases c : M4 112 i = 0
    · rw [if_pos c] at e4
      rw [if_pos c, if_pos e4.symm, f5, g_inN h40 (by omega), gq_l_e, BX_c B5, if_pos rfl, nI_1]
      exact y1
    · rw [if_neg c] at e4
      rw [if_neg c, g_inN h40 (by omega), gq_l_e, if_pos e4.symm, f5, g_inN h40 (by omega), gq_l_e, BX_c B5, if_pos rfl, nI_1]
      exact y1
theorem so_lot {x12 : Int32} (hN : 600 ≤ N) : ∀ (k i n9 : Nat) (M : gq_M), INV M R → PK T0 nb nl nr tn dn M R → i + k = nl → k < n9 → ∃ M2, f_L_isSo_182 N n9 x12 1 (nI i) M = f_L_isSo_329 N x12 1 M2 ∧ INV M2 R ∧ PK T0 nb nl nr tn dn M2 R ∧ G9 M2 M := by
  intro k
  induction k with
  | zero =>
    intro i n9 M I H hi h9
    obtain ⟨n9, rfl⟩ : ∃ z, n9 = z + 1 := ⟨n9 - 1, by omega⟩
    have hnb := pq_nb H
    have hb := hnb.2.2
    have hnl := pq_nl H
    refine ⟨M, ?_, I, H, g9_r⟩
    show f_L_isSo_182_b N (f_L_isSo_182 N n9) x12 1 (nI i) M = _
    unfold f_L_isSo_182_b
    rw [gi5_56, cl5, gq_l_e, hnl.1, if_pos (nI_le (by omega) (by omega))]
  | succ k ih =>
    intro i n9 M I H hi h9
    obtain ⟨n9, rfl⟩ : ∃ z, n9 = z + 1 := ⟨n9 - 1, by omega⟩
    have hnb := pq_nb H
    have hb := hnb.2.2
    have hnl := pq_nl H
    have hj : i < nl := by omega
    have h40 : i < 40 := by omega
    obtain ⟨M1, f1, I1, H1, g1⟩ := k_lot0 (N := N) hN I H hj
    obtain ⟨M2, f2, I2, H2, g2⟩ := k_lot1 (N := N) hN I1 H1 hj
    obtain ⟨M3, f3, I3, H3, g3⟩ := k_lot2 (N := N) hN I2 H2 hj
    obtain ⟨M4, f4, I4, H4, g4⟩ := k_lot3 (N := N) hN I3 H3 hj
    obtain ⟨M5, f5, I5, H5, g5⟩ := k_lot4 (N := N) hN I4 H4 hj
    obtain ⟨M6, f6, I6, H6, g6⟩ := k_lot5 (N := N) hN I5 H5 hj
    have hleft := l_left (N := N) (M := M6) (R := R) (nb := nb) (l := i) (pq_nb H6).1 hb (pq_bx H6) hN
    obtain ⟨M9, y1, y2, y3, y4⟩ := ih (i + 1) n9 M6 I6 H6 (by omega) (by omega)
    refine ⟨M9, ?_, y2, y3, g9_t y4 (g9_t g6 (g9_t g5 (g9_t g4 (g9_t g3 (g9_t g2 g1)))))⟩
    show f_L_isSo_182_b N (f_L_isSo_182 N n9) x12 1 (nI i) M = _
    unfold f_L_isSo_182_b f_L_isSo_321
    rw [gi5_56, cl5, gq_l_e, hnl.1, if_neg (nI_ge (by omega) (by omega)), if_neg one_ne, f1, g_inN h40 (by omega), gq_l_e, nI_clamp (by omega), (LT_l (pq_lt H1 i hj)).1, if_pos rfl, f2, g_inN h40 (by omega), gq_l_e, (LT_l (pq_lt H2 i hj)).2.1, if_pos rfl, f3, g_inN h40 (by omega), gq_l_e, (LT_l (pq_lt H3 i hj)).2.2.1, if_pos rfl, f4, g_inN h40 (by omega), gq_l_e, (LT_l (pq_lt H4 i hj)).2.2.2.1, if_pos rfl, f5, g_inN h40 (by omega), gq_l_e, (LT_l (pq_lt H5 i hj)).2.2.2.2.1, if_pos rfl, f6, hleft, gq_b_s, if_pos rfl, nI_1]
    exact y1
theorem so_cnt {x12 : Int32} {kh : Int32 → Int32 → Int32 → gq_M → Option (Int32 × gq_M)} {h : Nat} {M : gq_M} (F : Int32 → Int32 → Int32 → Int32 → gq_M → Option (Int32 × gq_M)) (hM : M 119 5 = nI nl) (hl : nl ≤ 40) (hh : h < 3) (hL : ∀ k, k < nl → LT M R k) : ∀ (k i n9 c : Nat), i + k = nl → k < n9 → f_L_isSo_349 N kh n9 x12 (nI h) (nI c) (nI i) M = f_L_isSo_349_b N kh F x12 (nI h) (nI (c + cnt (rg i k) (isNd (R 31) (R 32) h))) (nI nl) M := by
  intro k
  induction k with
  | zero =>
    intro i n9 c hi h9
    obtain ⟨n9, rfl⟩ : ∃ z, n9 = z + 1 := ⟨n9 - 1, by omega⟩
    obtain rfl : i = nl := by omega
    show f_L_isSo_349_b N kh (f_L_isSo_349 N kh n9) x12 (nI h) (nI c) (nI i) M = f_L_isSo_349_b N kh F x12 (nI h) (nI c) (nI i) M
    unfold f_L_isSo_349_b
    rw [gi5_56, cl5, gq_l_e, hM, if_pos (Int32.le_refl _), gi5_56, gq_l_e, if_pos (Int32.le_refl _)]
  | succ k ih =>
    intro i n9 c hi h9
    obtain ⟨n9, rfl⟩ : ∃ z, n9 = z + 1 := ⟨n9 - 1, by omega⟩
    show f_L_isSo_349_b N kh (f_L_isSo_349 N kh n9) x12 (nI h) (nI c) (nI i) M = _
    have L := LT_l (hL i (by omega))
    conv => lhs; unfold f_L_isSo_349_b
    unfold f_L_isSo_391 f_L_isSo_392
    rw [gi5_56, cl5, gq_l_e, hM, if_neg (nI_ge (by omega) (by omega)), g_inN (by omega) (by omega), gq_l_e, nI_clamp (by omega), L.2.2.2.2.1, rg_s, cnt_cons]
    have e8 : ((8192 : Int32) ≤ M 114 i) = ¬ R 32 i = 0 := by
      rw [← L.2.2.2.2.2]
      apply propext
      rw [Int32.not_le]
      constructor
      · intro z; exact Int32.lt_of_lt_of_le (show (8191 : Int32) < 8192 by decide) z
      · intro z
        rw [Int32.lt_iff_toInt_lt] at z
        rw [Int32.le_iff_toInt_le]
        have e1 : (8191 : Int32).toInt = 8191 := rfl
        have e2 : (8192 : Int32).toInt = 8192 := rfl
        omega
    by_cases c1 : R 31 i = nI h
    · rw [if_pos c1, g_inN (by omega) (by omega), gq_l_e, nI_1]
      by_cases c2 : R 32 i = 0
      · rw [if_neg (by rw [e8]; exact fun z => z c2), nI_1, ih (i + 1) n9 (c + 1) (by omega) (by omega), if_pos (show isNd (R 31) (R 32) h i = true from decide_eq_true ⟨c1, c2⟩), Nat.add_assoc]
      · rw [if_pos (by rw [e8]; exact c2), Int32.add_zero, ih (i + 1) n9 c (by omega) (by omega), if_neg (show ¬ isNd (R 31) (R 32) h i = true from fun z => c2 (of_decide_eq_true z).2), Nat.zero_add]
    · rw [if_neg c1, nI_1, Int32.add_zero, ih (i + 1) n9 c (by omega) (by omega), if_neg (show ¬ isNd (R 31) (R 32) h i = true from fun z => c1 (of_decide_eq_true z).1), Nat.zero_add]
theorem so_hall {x12 : Int32} (hN : 600 ≤ N) : ∀ (k i n9 : Nat) (M : gq_M), INV M R → PK T0 nb nl nr tn dn M R → i + k = 3 → k < n9 → ∃ M2, f_L_isSo_332 N n9 x12 1 (nI i) M = f_L_isSo_504 N x12 1 M2 ∧ INV M2 R ∧ PK T0 nb nl nr tn dn M2 R ∧ G9 M2 M := by
  intro k
  induction k with
  | zero =>
    intro i n9 M I H hi h9
    obtain ⟨n9, rfl⟩ : ∃ z, n9 = z + 1 := ⟨n9 - 1, by omega⟩
    obtain rfl : i = 3 := by omega
    refine ⟨M, ?_, I, H, g9_r⟩
    show f_L_isSo_332_b N (f_L_isSo_332 N n9) x12 1 (nI 3) M = _
    unfold f_L_isSo_332_b
    rw [if_pos (show (3 : Int32) ≤ nI 3 by decide)]
  | succ k ih =>
    intro i n9 M I H hi h9
    obtain ⟨n9, rfl⟩ : ∃ z, n9 = z + 1 := ⟨n9 - 1, by omega⟩
    have he : ¬ (3 : Int32) ≤ nI i := fun h2 => by have := (nI_leI (a := 3) (by omega) (by omega)).mp h2; omega
    have hnb := pq_nb H
    have hb := hnb.2.2
    have hnl := pq_nl H
    have hj : i < 3 := by omega
    obtain ⟨M1, f1, I1, H1, g1⟩ := k_hall0 (N := N) hN I H hj
    obtain ⟨M2, f2, I2, H2, g2⟩ := k_hall1 (N := N) hN I1 H1 hj
    obtain ⟨M3, f3, I3, H3, g3⟩ := k_hall2 (N := N) hN I2 H2 hj
    obtain ⟨M4, f4, I4, H4, g4⟩ := k_hall3 (N := N) hN I3 H3 hj
    obtain ⟨M5, f5, I5, H5, g5⟩ := k_hall4 (N := N) hN I4 H4 hj
    have h1 := ((pq_ha H1 i hj).2 trivial).1
    have h2 := ((pq_ha H2 i hj).2 trivial).2.1
    have h3 := ((pq_ha H3 i hj).2 trivial).2.2.1
    have h4 := ((pq_ha H4 i hj).2 trivial).2.2.2.1
    obtain ⟨M9, y1, y2, y3, y4⟩ := ih (i + 1) n9 M5 I5 H5 (by omega) (by omega)
    refine ⟨M9, ?_, y2, y3, g9_t y4 (g9_t g5 (g9_t g4 (g9_t g3 (g9_t g2 g1))))⟩
    show f_L_isSo_332_b N (f_L_isSo_332 N n9) x12 1 (nI i) M = _
    unfold f_L_isSo_332_b
    rw [if_neg he, if_neg one_ne]
    have ec := so_cnt (N := N) (R := R) (x12 := x12) (kh := f_L_isSo_332 N n9) (h := i) (M := M) (fun _ _ _ _ _ => none) hnl.1 (by omega) hj (pq_lt H) nl 0 N 0 (by omega) (by omega)
    refine Eq.trans ec ?_
    unfold f_L_isSo_349_b f_L_isSo_496
    rw [gi5_56, cl5, gq_l_e, hnl.1, if_pos (Int32.le_refl _), f1, pl8z, g_inN (by omega) (by omega), gq_l_e, nI_clamp (by omega), h1, if_pos rfl, f2, nI_1, g_inN (by omega) (by omega), gq_l_e, nI_clamp (by omega), h2, if_pos rfl, f3, ap2, g_inN (by omega) (by omega), gq_l_e, nI_clamp (by omega), h3, if_pos rfl, f4, ap4, g_inN (by omega) (by omega), gq_l_e, nI_clamp (by omega), h4, if_pos rfl, f5, Nat.zero_add (cnt (rg 0 nl) (isNd (R 31) (R 32) i)), if_pos rfl]
    try rw [nI_1]
    exact y1
end

