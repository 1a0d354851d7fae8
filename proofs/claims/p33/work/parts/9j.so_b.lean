/-! is it so: accounts, kilos, average, loads -/
section
variable {N nb nl nr tn dn : Nat} {R : gq_M}
theorem ad33 {n : Nat} : (33 : Int32) + nI n = nI (33 + n) := nI_add 33 n
theorem ad34 {n : Nat} : (34 : Int32) + nI n = nI (34 + n) := nI_add 34 n
theorem ad35 {n : Nat} : (35 : Int32) + nI n = nI (35 + n) := nI_add 35 n
theorem pq_qu {S : Nat → Prop} {M : gq_M} (H : PK S nb nl nr tn dn M R) : ∀ j, j < 32 → M 120 j = R 1 j ∧ M 120 (32 + j) = R 2 j := by
  obtain ⟨hnb, hnl, hnr, htn, hdn, hop, hdr, hkd, hby, hqu, hbt, hha, hpr, hbx, hbz, hlt, hlo⟩ := H
  exact hqu
theorem pq_bt {S : Nat → Prop} {M : gq_M} (H : PK S nb nl nr tn dn M R) : ∀ j, j < 8 → M 121 j = R 3 j ∧ M 121 (8 + j) = R 4 j ∧ M 121 (16 + j) = R 5 j ∧ bit (R 4 j) := by
  obtain ⟨hnb, hnl, hnr, htn, hdn, hop, hdr, hkd, hby, hqu, hbt, hha, hpr, hbx, hbz, hlt, hlo⟩ := H
  exact hbt
theorem pq_lo {S : Nat → Prop} {M : gq_M} (H : PK S nb nl nr tn dn M R) : ∀ k, k < nr → M 122 (4 * k) = R 44 k ∧ M 122 (4 * k + 1) = R 45 k ∧ M 122 (4 * k + 2) = R 46 k ∧ M 122 (4 * k + 3) = R 47 k := by
  obtain ⟨hnb, hnl, hnr, htn, hdn, hop, hdr, hkd, hby, hqu, hbt, hha, hpr, hbx, hbz, hlt, hlo⟩ := H
  exact hlo
theorem pq_nr {S : Nat → Prop} {M : gq_M} (H : PK S nb nl nr tn dn M R) : M 119 6 = nI nr ∧ R 0 49 = nI nr ∧ nr ≤ 10 := by
  obtain ⟨hnb, hnl, hnr, htn, hdn, hop, hdr, hkd, hby, hqu, hbt, hha, hpr, hbx, hbz, hlt, hlo⟩ := H
  exact hnr
theorem pq_dn {S : Nat → Prop} {M : gq_M} (H : PK S nb nl nr tn dn M R) : M 119 1 = nI dn ∧ R 0 1 = nI dn ∧ dn ≤ 100 := by
  obtain ⟨hnb, hnl, hnr, htn, hdn, hop, hdr, hkd, hby, hqu, hbt, hha, hpr, hbx, hbz, hlt, hlo⟩ := H
  exact hdn
theorem pq_tn {S : Nat → Prop} {M : gq_M} (H : PK S nb nl nr tn dn M R) : M 119 0 = nI tn ∧ R 0 0 = nI tn ∧ tn ≤ 3000 := by
  obtain ⟨hnb, hnl, hnr, htn, hdn, hop, hdr, hkd, hby, hqu, hbt, hha, hpr, hbx, hbz, hlt, hlo⟩ := H
  exact htn
theorem pq_op {S : Nat → Prop} {M : gq_M} (H : PK S nb nl nr tn dn M R) : M 119 2 = R 0 2 ∧ bit (R 0 2) := by
  obtain ⟨hnb, hnl, hnr, htn, hdn, hop, hdr, hkd, hby, hqu, hbt, hha, hpr, hbx, hbz, hlt, hlo⟩ := H
  exact hop
theorem so_bought {x12 : Int32} {kh : Int32 → Int32 → Int32 → gq_M → Option (Int32 × gq_M)} {j : Nat} {M : gq_M} (F : Int32 → Int32 → Int32 → Int32 → gq_M → Option (Int32 × gq_M)) (hM : M 119 4 = nI nb) (hl : nb ≤ 40) (hj : j < 8) (hB : ∀ b, b < nb → BX M R b) : ∀ (k i n9 c : Nat), i + k = nb → k < n9 → f_L_isSo_525 N kh n9 x12 (nI j) (nI c) (nI i) M = f_L_isSo_525_b N kh F x12 (nI j) (nI (c + cnt (rg i k) (fun b => decide (R 21 b = nI j)))) (nI nb) M := by
  intro k
  induction k with
  | zero =>
    intro i n9 c hi h9
    obtain ⟨n9, rfl⟩ : ∃ z, n9 = z + 1 := ⟨n9 - 1, by omega⟩
    obtain rfl : i = nb := by omega
    show f_L_isSo_525_b N kh (f_L_isSo_525 N kh n9) x12 (nI j) (nI c) (nI i) M = f_L_isSo_525_b N kh F x12 (nI j) (nI c) (nI i) M
    unfold f_L_isSo_525_b
    rw [gi4_56, cl4, gq_l_e (M 119 4), hM, if_pos (Int32.le_refl _), gi4_56, gq_l_e (nI i), if_pos (Int32.le_refl _)]
  | succ k ih =>
    intro i n9 c hi h9
    obtain ⟨n9, rfl⟩ : ∃ z, n9 = z + 1 := ⟨n9 - 1, by omega⟩
    show f_L_isSo_525_b N kh (f_L_isSo_525 N kh n9) x12 (nI j) (nI c) (nI i) M = _
    have hd := (BX_d (hB i (by omega))).1
    have k1 : (M 112 i - M 112 i / 16 * 16 = nI j + 1) = (R 21 i = nI j) := propext ⟨fun h => by rw [← hd, h, Int32.add_sub_cancel], fun h => by rw [← h, ← hd, Int32.sub_add_cancel]⟩
    conv => lhs; unfold f_L_isSo_525_b
    unfold f_L_isSo_556
    rw [gi4_56, cl4, gq_l_e, hM, if_neg (nI_ge (by omega) (by omega)), g_inN (by omega) (by omega), gq_l_e, nI_clamp (by omega), rg_s, cnt_cons]
    by_cases c1 : R 21 i = nI j
    · rw [if_pos (k1.mpr c1), nI_1, nI_1, ih (i + 1) n9 (c + 1) (by omega) (by omega), if_pos (decide_eq_true c1), Nat.add_assoc]
    · rw [if_neg (fun z => c1 (k1.mp z)), nI_1, Int32.add_zero, ih (i + 1) n9 c (by omega) (by omega), if_neg (fun z => c1 (of_decide_eq_true z)), Nat.zero_add]
theorem lsum4 {f : Nat → Int32} {a : Nat} : 0 + lsum (rg a 4) f = f a + f (a + 1) + f (a + 2) + f (a + 3) := by
  show 0 + (f a + (f (a + 1) + (f (a + 2) + (f (a + 3) + 0)))) = _
  rw [Int32.zero_add, Int32.add_zero, Int32.add_assoc, Int32.add_assoc]
theorem so_acc {x12 : Int32} (hN : 600 ≤ N) : ∀ (k i n9 : Nat) (M : gq_M), INV M R → PK T0 nb nl nr tn dn M R → i + k = 8 → k < n9 → ∃ M2, f_L_isSo_507 N n9 x12 1 (nI i) M = f_L_isSo_716 N x12 1 M2 ∧ INV M2 R ∧ PK T0 nb nl nr tn dn M2 R ∧ G9 M2 M := by
  intro k
  induction k with
  | zero =>
    intro i n9 M I H hi h9
    obtain ⟨n9, rfl⟩ : ∃ z, n9 = z + 1 := ⟨n9 - 1, by omega⟩
    obtain rfl : i = 8 := by omega
    refine ⟨M, ?_, I, H, g9_r⟩
    show f_L_isSo_507_b N (f_L_isSo_507 N n9) x12 1 (nI 8) M = _
    unfold f_L_isSo_507_b
    rw [if_pos (show (8 : Int32) ≤ nI 8 by decide)]
  | succ k ih =>
    intro i n9 M I H hi h9
    obtain ⟨n9, rfl⟩ : ∃ z, n9 = z + 1 := ⟨n9 - 1, by omega⟩
    have he : ¬ (8 : Int32) ≤ nI i := fun h2 => by have := (nI_leI (a := 8) (by omega) (by omega)).mp h2; omega
    have hnb := pq_nb H
    have hb := hnb.2.2
    have hj : i < 8 := by omega
    obtain ⟨M1, f1, I1, H1, g1⟩ := k_account0 (N := N) hN I H hj
    obtain ⟨M2, f2, I2, H2, g2⟩ := k_account1 (N := N) hN I1 H1 hj
    obtain ⟨M3, f3, I3, H3, g3⟩ := k_account2 (N := N) hN I2 H2 hj
    obtain ⟨M4, f4, I4, H4, g4⟩ := k_ship0 (N := N) hN I3 H3 hj
    obtain ⟨M5, f5, I5, H5, g5⟩ := k_ship1 (N := N) hN I4 H4 hj
    obtain ⟨M6, f6, I6, H6, g6⟩ := k_ship2 (N := N) hN I5 H5 hj
    have h1 := (pk_by H1 i hj).1
    have h2 := (pk_by H2 i hj).2.2.1
    have h4 := (pq_bt H4 i hj).2.2.1
    have h5 := (pq_bt H5 i hj).1
    have q0 := (pq_qu H (4 * i) (by omega)).2
    have q1 := (pq_qu H (4 * i + 1) (by omega)).2
    have q2 := (pq_qu H (4 * i + 2) (by omega)).2
    have q3 := (pq_qu H (4 * i + 3) (by omega)).2
    rw [show 32 + (4 * i + 1) = 33 + 4 * i by omega] at q1
    rw [show 32 + (4 * i + 2) = 34 + 4 * i by omega] at q2
    rw [show 32 + (4 * i + 3) = 35 + 4 * i by omega] at q3
    obtain ⟨M9, y1, y2, y3, y4⟩ := ih (i + 1) n9 M6 I6 H6 (by omega) (by omega)
    refine ⟨M9, ?_, y2, y3, g9_t y4 (g9_t g6 (g9_t g5 (g9_t g4 (g9_t g3 (g9_t g2 g1)))))⟩
    show f_L_isSo_507_b N (f_L_isSo_507 N n9) x12 1 (nI i) M = _
    unfold f_L_isSo_507_b
    rw [if_neg he, if_neg one_ne]
    have ec := so_bought (N := N) (R := R) (x12 := x12) (kh := f_L_isSo_507 N n9) (j := i) (M := M) (fun _ _ _ _ _ => none) hnb.1 (by omega) hj (pq_bx H) nb 0 N 0 (by omega) (by omega)
    refine Eq.trans ec ?_
    have e0 : (0 : Int32) + nI (cnt (rg 0 nb) fun b => decide (R 21 b = nI i)) = nI (0 + cnt (rg 0 nb) fun b => decide (R 21 b = nI i)) := nI_add 0 _
    generalize (cnt (rg 0 nb) fun b => decide (R 21 b = nI i)) = z at e0 f3 ⊢
    unfold f_L_isSo_525_b f_L_isSo_708
    have t0 : (nI (32 + 4 * i)).toNatClampNeg = 32 + 4 * i := nI_clamp (by omega)
    have t1 : (nI (33 + 4 * i)).toNatClampNeg = 33 + 4 * i := nI_clamp (by omega)
    have t2 : (nI (34 + 4 * i)).toNatClampNeg = 34 + 4 * i := nI_clamp (by omega)
    have t3 : (nI (35 + 4 * i)).toNatClampNeg = 35 + 4 * i := nI_clamp (by omega)
    have u1 : (nI (24 + i)).toNatClampNeg = 24 + i := nI_clamp (by omega)
    have u2 : (nI (40 + i)).toNatClampNeg = 40 + i := nI_clamp (by omega)
    have u4 : (nI (16 + i)).toNatClampNeg = 16 + i := nI_clamp (by omega)
    have u5 : (nI i).toNatClampNeg = i := nI_clamp (by omega)
    rw [gi4_56, cl4, gq_l_e (M 119 4), hnb.1, if_pos (Int32.le_refl _), pl4z, ad32, ad33, ad34, ad35, ad24, ad40, ad16, g_inN (j := 32 + 4 * i) (by omega) (by omega), t0, q0, gq_l_e (R 2 (4 * i)), g_inN (j := 33 + 4 * i) (by omega) (by omega), t1, q1, gq_l_e (R 2 (4 * i + 1)), g_inN (j := 34 + 4 * i) (by omega) (by omega), t2, q2, gq_l_e (R 2 (4 * i + 2)), g_inN (j := 35 + 4 * i) (by omega) (by omega), t3, q3, gq_l_e (R 2 (4 * i + 3)), f1, g_inN (j := 24 + i) (by omega) (by omega), u1, h1, gq_l_e (R 9 i), if_pos rfl, f2, g_inN (j := 40 + i) (by omega) (by omega), u2, h2, gq_l_e (R 11 i), if_pos rfl, f3, if_pos e0, f4, g_inN (j := 16 + i) (by omega) (by omega), u4, h4, gq_l_e (R 5 i), if_pos rfl, f5, g_inN (j := i) (by omega) (by omega), u5, h5, gq_l_e (R 3 i), if_pos rfl, f6, if_pos lsum4, nI_1]
    exact y1
-- kilos
theorem l_k70 {w o b : Nat} {acc : Int32} {kh : Int32 → Int32 → Int32 → gq_M → Option (Int32 × gq_M)} {M : gq_M} (hw : w < 6) (ho : o < 6) (hb : b < 40) (hB : BX M R b) : f_L_kilos_70 N kh (nI w) acc (nI b) (nI o) M = kh (nI w) (acc + (if w = 0 ∨ o = w then R 17 b else 0)) (nI (b + 1)) M := by
  unfold f_L_kilos_70 f_L_kilos_84 f_L_kilos_96
  have e := (BX_e hB).1
  by_cases c : w = 0
  · subst c
    rw [if_pos (show nI 0 = 0 from rfl), g_inN hb (by omega), gq_l_e, nI_clamp (by omega), e, if_pos (Or.inl rfl), nI_1]
  · rw [iE0f c (by omega)]
    by_cases d : o = w
    · rw [iEt d, g_inN hb (by omega), gq_l_e, nI_clamp (by omega), e, if_pos (Or.inr d), nI_1]
    · rw [iEf d (by omega) (by omega), if_neg (fun z => z.elim c d), nI_1]
theorem l_k34 {w acc x5 : Int32} {st : Nat} {kh : Int32 → Int32 → Int32 → gq_M → Option (Int32 × gq_M)} {M : gq_M} (hst : st < 8) : (if nI st = 3 then (f_L_kilos_34 N kh w acc x5 M) else (if nI st = 4 then (f_L_kilos_34 N kh w acc x5 M) else (if nI st = 5 then (f_L_kilos_70 N kh w acc x5 2 M) else (if nI st = 7 then (f_L_kilos_70 N kh w acc x5 3 M) else (if nI st = 1 then (f_L_kilos_70 N kh w acc x5 4 M) else (f_L_kilos_70 N kh w acc x5 5 M)))))) = f_L_kilos_70 N kh w acc x5 (nI (smN (nI st))) M := by
  unfold f_L_kilos_34
  obtain rfl | rfl | rfl | rfl | rfl | rfl | rfl | rfl : st = 0 ∨ st = 1 ∨ st = 2 ∨ st = 3 ∨ st = 4 ∨ st = 5 ∨ st = 6 ∨ st = 7 := by omega
  · rfl
  · rfl
  · rfl
  · rfl
  · rfl
  · rfl
  · rfl
  · rfl
theorem l_kilos_l {w : Nat} {M : gq_M} (hM : M 119 4 = nI nb) (hl : nb ≤ 40) (hB : ∀ b, b < nb → BX M R b) (hw : w < 6) : ∀ (k i n9 : Nat) (acc : Int32), i + k = nb → k < n9 → f_L_kilos_6 N n9 (nI w) acc (nI i) M = some (acc + lsum (rg i k) (fun b => if inS (R 19 b) w = true then R 17 b else 0), M) := by
  intro k
  induction k with
  | zero =>
    intro i n9 acc hi h9
    obtain ⟨n9, rfl⟩ : ∃ z, n9 = z + 1 := ⟨n9 - 1, by omega⟩
    show f_L_kilos_6_b N (f_L_kilos_6 N n9) (nI w) acc (nI i) M = _
    unfold f_L_kilos_6_b
    rw [gi4_56, cl4, gq_l_e, hM, if_pos (nI_le (by omega) (by omega)), lsum0]
  | succ k ih =>
    intro i n9 acc hi h9
    obtain ⟨n9, rfl⟩ : ∃ z, n9 = z + 1 := ⟨n9 - 1, by omega⟩
    show f_L_kilos_6_b N (f_L_kilos_6 N n9) (nI w) acc (nI i) M = _
    unfold f_L_kilos_6_b
    have hBi := hB i (by omega)
    obtain ⟨st, hst, es⟩ : ∃ st, st < 8 ∧ R 19 i = nI st := by
      obtain ⟨bo, ki, si, fr, st, wc, cl, kl, re, so, q1, q2, -⟩ := hBi
      exact ⟨st, by omega, q2.2.2.2.2.1⟩
    rw [gi4_56, cl4, gq_l_e, hM, if_neg (nI_ge (by omega) (by omega)), l_how hBi (by omega), gq_b_s, es, l_k34 hst, l_k70 hw (smN_lt _).1 (by omega) hBi, ih (i + 1) n9 _ (by omega) (by omega), rg_s]
    show some (_, M) = some (acc + ((if inS (R 19 i) w = true then R 17 i else 0) + lsum (rg (i + 1) k) _), M)
    rw [← Int32.add_assoc, es]
    congr 4
    unfold inS
    by_cases c : w = 0 ∨ smN (nI st) = w
    · rw [if_pos c, if_pos (decide_eq_true c)]
    · rw [if_neg c, if_neg (fun z => c (of_decide_eq_true z))]
theorem l_kilos {w : Nat} {M : gq_M} (hN : 600 ≤ N) (hM : M 119 4 = nI nb) (hl : nb ≤ 40) (hB : ∀ b, b < nb → BX M R b) (hw : w < 6) : f_L_kilos N (nI w) M = some (0 + lsum (rg 0 nb) (fun b => if inS (R 19 b) w = true then R 17 b else 0), M) := l_kilos_l hM hl hB hw nb 0 N 0 (by omega) (by omega)
theorem so_kilos {x12 : Int32} (hN : 600 ≤ N) : ∀ (k i n9 : Nat) (M : gq_M), INV M R → PK T0 nb nl nr tn dn M R → i + k = 6 → k < n9 → ∃ M2, f_L_isSo_719 N n9 x12 1 (nI i) M = f_L_isSo_787 N x12 1 M2 ∧ INV M2 R ∧ PK T0 nb nl nr tn dn M2 R ∧ G9 M2 M := by
  intro k
  induction k with
  | zero =>
    intro i n9 M I H hi h9
    obtain ⟨n9, rfl⟩ : ∃ z, n9 = z + 1 := ⟨n9 - 1, by omega⟩
    obtain rfl : i = 6 := by omega
    refine ⟨M, ?_, I, H, g9_r⟩
    show f_L_isSo_719_b N (f_L_isSo_719 N n9) x12 1 (nI 6) M = _
    unfold f_L_isSo_719_b
    rw [if_pos (show (6 : Int32) ≤ nI 6 by decide)]
  | succ k ih =>
    intro i n9 M I H hi h9
    obtain ⟨n9, rfl⟩ : ∃ z, n9 = z + 1 := ⟨n9 - 1, by omega⟩
    have he : ¬ (6 : Int32) ≤ nI i := fun h2 => by have := (nI_leI (a := 6) (by omega) (by omega)).mp h2; omega
    have hnb := pq_nb H
    have hb := hnb.2.2
    have hj : i < 6 := by omega
    obtain ⟨M1, f1, I1, H1, g1⟩ := k_kilos (N := N) hN I H hj
    obtain ⟨M2, f2, I2, H2, g2⟩ := k_kilosAnew (N := N) hN I1 H1 hj
    have l1 := l_kilos (N := N) (R := R) (w := i) hN (pq_nb H1).1 hb (pq_bx H1) hj
    have l2 := l_kilos (N := N) (R := R) (w := i) hN (pq_nb H2).1 hb (pq_bx H2) hj
    by_cases c : 0 < x12 - x12 / 3 * 3
    · obtain ⟨M9, y1, y2, y3, y4⟩ := ih (i + 1) n9 M1 I1 H1 (by omega) (by omega)
      refine ⟨M9, ?_, y2, y3, g9_t y4 g1⟩
      show f_L_isSo_719_b N (f_L_isSo_719 N n9) x12 1 (nI i) M = _
      unfold f_L_isSo_719_b f_L_isSo_774 f_L_isSo_779
      rw [if_neg he, if_neg one_ne, f1, l1, gq_b_s, if_pos rfl, if_pos c, nI_1]
      exact y1
    · obtain ⟨M9, y1, y2, y3, y4⟩ := ih (i + 1) n9 M2 I2 H2 (by omega) (by omega)
      refine ⟨M9, ?_, y2, y3, g9_t y4 (g9_t g2 g1)⟩
      show f_L_isSo_719_b N (f_L_isSo_719 N n9) x12 1 (nI i) M = _
      unfold f_L_isSo_719_b f_L_isSo_774 f_L_isSo_779
      rw [if_neg he, if_neg one_ne, f1, l1, gq_b_s, if_pos rfl, if_neg c, f2, l2, gq_b_s, if_pos rfl, nI_1]
      exact y1
-- average
theorem so_sum {ki dy : Nat} {M : gq_M} (hki : ki < 4) (hdy : dy < 2 ^ 31) (hM : M 119 4 = nI nb) (hl : nb ≤ 40) (hB : ∀ b, b < nb → BX M R b) : ∀ (k i n9 : Nat) (a1 a2 : Int32), i + k = nb → k < n9 → f_L_isSo_815 N n9 1 (nI ki) (nI dy) a1 a2 (nI i) M = f_L_isSo_928 N N 1 (nI ki) (nI dy) (a1 + lsum (rg i k) (fun b => if isA R ki dy b then R 17 b * R 22 b else 0)) (a2 + lsum (rg i k) (fun b => if isA R ki dy b then R 17 b else 0)) 0 M := by
  intro k
  induction k with
  | zero =>
    intro i n9 a1 a2 hi h9
    obtain ⟨n9, rfl⟩ : ∃ z, n9 = z + 1 := ⟨n9 - 1, by omega⟩
    show f_L_isSo_815_b N (f_L_isSo_815 N n9) 1 (nI ki) (nI dy) a1 a2 (nI i) M = _
    unfold f_L_isSo_815_b
    rw [gi4_56, cl4, gq_l_e, hM, if_pos (nI_le (by omega) (by omega)), lsum0, lsum0]
  | succ k ih =>
    intro i n9 a1 a2 hi h9
    obtain ⟨n9, rfl⟩ : ∃ z, n9 = z + 1 := ⟨n9 - 1, by omega⟩
    show f_L_isSo_815_b N (f_L_isSo_815 N n9) 1 (nI ki) (nI dy) a1 a2 (nI i) M = _
    have hBi := hB i (by omega)
    have hi40 : i < 40 := by omega
    have ea := (BX_a hBi).2.1
    have ee := (BX_e hBi).1
    have fin0 : ¬ isA R ki dy i → f_L_isSo_863 N (f_L_isSo_815 N n9) 1 (nI ki) (nI dy) a1 a2 (nI i) M = f_L_isSo_928 N N 1 (nI ki) (nI dy) (a1 + lsum (rg i (k + 1)) (fun b => if isA R ki dy b then R 17 b * R 22 b else 0)) (a2 + lsum (rg i (k + 1)) (fun b => if isA R ki dy b then R 17 b else 0)) 0 M := fun c => by
      unfold f_L_isSo_863 f_L_isSo_864 f_L_isSo_894 f_L_isSo_916
      rw [if_pos rfl, if_pos rfl, Int32.add_zero, Int32.add_zero, nI_1, ih (i + 1) n9 a1 a2 (by omega) (by omega), rg_s]
      show _ = f_L_isSo_928 N N 1 (nI ki) (nI dy) (a1 + ((if isA R ki dy i then R 17 i * R 22 i else 0) + lsum (rg (i + 1) k) _)) (a2 + ((if isA R ki dy i then R 17 i else 0) + lsum (rg (i + 1) k) _)) 0 M
      rw [if_neg c, if_neg c, Int32.zero_add, Int32.zero_add]
    unfold f_L_isSo_815_b
    rw [gi4_56, cl4, gq_l_e, hM, if_neg (nI_ge (by omega) (by omega)), g_inN hi40 (by omega), gq_l_e, nI_clamp (by omega)]
    obtain ⟨bo, ki2, si, fr, st, wc, cl, kl, re, so, h1, h2, h3, h4, h5, h6⟩ := hBi
    rcases h6 with ⟨w1, w2, w3, w4⟩ | ⟨w, p, t, d, b1, b2, b3, b4, b5, w1, w2, w3, w4, w5, w6⟩
    · rw [w3, if_pos (show (0 : Int32) ≤ 0 by decide)]
      exact fin0 (fun z => z.2.1 w1)
    · have n0 : ¬ nI (w + 1 + 16 * p) ≤ 0 := fun z => by have := (nI_leI (b := 0) (by omega) (by omega)).mp z; omega
      have e6 : nI (t + 131072 * d) / 131072 = nI d := (nI_div (b := 131072) (by omega) (by omega)).trans (congrArg nI (by omega))
      have e5 : nI (w + 1 + 16 * p) / 16 = R 22 i := by rw [w2]; exact (nI_div (b := 16) (by omega) (by omega)).trans (congrArg nI (by omega))
      have n1 : ¬ R 21 i = -1 := by rw [w1]; exact nI_m1 (by omega)
      rw [w5, if_neg n0, g_inN hi40 (by omega), gq_l_e, ea]
      by_cases c1 : R 14 i = nI ki
      · rw [if_pos c1, g_inN hi40 (by omega), gq_l_e, w6, e6]
        by_cases c2 : nI d = nI dy
        · have hA : isA R ki dy i := ⟨c1, n1, w4.trans c2⟩
          rw [if_pos c2]
          unfold f_L_isSo_864 f_L_isSo_894 f_L_isSo_916
          rw [if_neg one_ne, g_inN hi40 (by omega), gq_l_e, nI_clamp (by omega), g_inN hi40 (by omega), gq_l_e, if_neg one_ne, g_inN hi40 (by omega), gq_l_e, ee, w5, e5, nI_1, ih (i + 1) n9 _ _ (by omega) (by omega), rg_s]
          show _ = f_L_isSo_928 N N 1 (nI ki) (nI dy) (a1 + ((if isA R ki dy i then R 17 i * R 22 i else 0) + lsum (rg (i + 1) k) _)) (a2 + ((if isA R ki dy i then R 17 i else 0) + lsum (rg (i + 1) k) _)) 0 M
          rw [if_pos hA, if_pos hA, Int32.add_assoc, Int32.add_assoc]
        · rw [if_neg c2]
          exact fin0 (fun z => c2 (w4.symm.trans z.2.2))
      · rw [if_neg c1]
        exact fin0 (fun z => c1 z.1)
theorem so_load {x14 x15 x16 x17 : Int32} (hN : 600 ≤ N) : ∀ (k i n9 : Nat) (M : gq_M), INV M R → PK T0 nb nl nr tn dn M R → i + k = nr → k < n9 → ∃ M2, f_L_isSo_928 N n9 1 x14 x15 x16 x17 (nI i) M = f_L_isSo_974 N 1 x14 x15 x16 x17 M2 ∧ INV M2 R ∧ PK T0 nb nl nr tn dn M2 R ∧ G9 M2 M := by
  intro k
  induction k with
  | zero =>
    intro i n9 M I H hi h9
    obtain ⟨n9, rfl⟩ : ∃ z, n9 = z + 1 := ⟨n9 - 1, by omega⟩
    have hnr := pq_nr H
    have hb := hnr.2.2
    refine ⟨M, ?_, I, H, g9_r⟩
    show f_L_isSo_928_b N (f_L_isSo_928 N n9) 1 x14 x15 x16 x17 (nI i) M = _
    unfold f_L_isSo_928_b
    rw [gz6_56, cl6, gq_l_e, hnr.1, if_pos (nI_le (by omega) (by omega))]
  | succ k ih =>
    intro i n9 M I H hi h9
    obtain ⟨n9, rfl⟩ : ∃ z, n9 = z + 1 := ⟨n9 - 1, by omega⟩
    have hnr := pq_nr H
    have hb := hnr.2.2
    have hj : i < nr := by omega
    obtain ⟨M1, f1, I1, H1, g1⟩ := k_loaded (N := N) hN I H hj hnr.2.1 hb
    have h1 := (pq_lo H1 i hj).2.2.2
    obtain ⟨M9, y1, y2, y3, y4⟩ := ih (i + 1) n9 M1 I1 H1 (by omega) (by omega)
    refine ⟨M9, ?_, y2, y3, g9_t y4 g1⟩
    show f_L_isSo_928_b N (f_L_isSo_928 N n9) 1 x14 x15 x16 x17 (nI i) M = _
    unfold f_L_isSo_928_b f_L_isSo_966
    rw [gz6_56, cl6, gq_l_e, hnr.1, if_neg (nI_ge (by omega) (by omega)), if_neg one_ne, f1, pl4z, ap3, g_inN (by omega) (by omega), gq_l_e, nI_clamp (by omega), h1, if_pos rfl, nI_1]
    exact y1
theorem so_end {v : Int32} {M : gq_M} (hN : 600 ≤ N) (I : INV M R) (H : PK T0 nb nl nr tn dn M R) : ∃ M2, f_L_isSo_1001 N v v M = some (1, M2) ∧ INV M2 R ∧ PK T0 nb nl nr tn dn M2 R ∧ G9 M2 M := by
  have hnb := pq_nb H
  have hb := hnb.2.2
  have hnl := pq_nl H
  have hdn := pq_dn H
  have q1 : ¬ vp_in (nI nb) nb := vpN (by omega) (by omega) (by omega)
  have q2 : ¬ vp_in (nI nl) nl := vpN (by omega) (by omega) (by omega)
  have q3 : ¬ ((0 : Int32) ≤ nI (dn + 1) ∧ nI (dn + 1) ≤ nI dn) := ibf (a := 0) (b := dn) (by omega) (by omega) (by omega) (by omega)
  have q4 : vp_in 0 4 := show vp_in (nI 0) 4 from vpY (by omega) (by omega)
  have hr1 : f_X10_told N (nI nb) 0 R = some (0, thr R 1) := by
    simp (disch := omega) only [f_X10_told_27, f_X10_told, r_isEight, r_isKind, r_isHall, r_areCents, r_isBox, r_isIn, r_fails, gq_b_s, gq_l_e, bI_z, Classical.not_not, reduceIte, not_true_eq_false, not_false_eq_true, f01, f02, f03, f00, f10, f01b, ite_not, ite_self, and_self, e8a, e8b, e4a, e4b, e3a, e3b, g_inN, g_bb0, g_bb1, g_bbI, nI_clamp, pl4, pl4b, pl8, pl8b, thr_r, thr_s, d20, d21, d23, d24, d25, d30, d31, d32, d34, d35, d40, d41, d42, d43, d45, d50, d51, d52, d53, d54, d02, d03, d04, d05, d12, d13, d14, d15, ena, enb, q1, hnb.2.1]
  have hr2 : f_X10_lot N (nI nl) 0 R = some (0, thr R 1) := by
    simp (disch := omega) only [f_X10_lot_33, f_X10_lot, r_isEight, r_isKind, r_isHall, r_areCents, r_isBox, r_isIn, r_fails, gq_b_s, gq_l_e, bI_z, Classical.not_not, reduceIte, not_true_eq_false, not_false_eq_true, f01, f02, f03, f00, f10, f01b, ite_not, ite_self, and_self, e8a, e8b, e4a, e4b, e3a, e3b, g_inN, g_bb0, g_bb1, g_bbI, nI_clamp, pl4, pl4b, pl8, pl8b, thr_r, thr_s, d20, d21, d23, d24, d25, d30, d31, d32, d34, d35, d40, d41, d42, d43, d45, d50, d51, d52, d53, d54, d02, d03, d04, d05, d12, d13, d14, d15, ena, enb, q2, hnl.2.1]
  have hr3 : f_X10_average N 0 (nI (dn + 1)) R = some (0, thr R 2) := by
    simp (disch := omega) only [f_X10_average_29, f_X10_average, r_isEight, r_isKind, r_isHall, r_areCents, r_isBox, r_isIn, r_fails, gq_b_s, gq_l_e, bI_z, Classical.not_not, reduceIte, not_true_eq_false, not_false_eq_true, f01, f02, f03, f00, f10, f01b, ite_not, ite_self, and_self, e8a, e8b, e4a, e4b, e3a, e3b, g_inN, g_bb0, g_bb1, g_bbI, nI_clamp, pl4, pl4b, pl8, pl8b, thr_r, thr_s, d20, d21, d23, d24, d25, d30, d31, d32, d34, d35, d40, d41, d42, d43, d45, d50, d51, d52, d53, d54, d02, d03, d04, d05, d12, d13, d14, d15, ena, enb, q3, q4, hdn.2.1]
  obtain ⟨M1, y1, I1, g1⟩ := y_told (N := N) (M := M) (hN := hN) (a3 := 0) (a4 := 0) (a5 := 0) (a6 := 0) (x := -300000000) I hr1 rfl
  have H1 := pk_mc H g1
  have I1 := inv_rth I1
  obtain ⟨M2, y2, I2, g2⟩ := y_lot (N := N) (M := M1) (hN := hN) (a3 := 0) (a4 := 0) (a5 := 0) (a6 := 0) (x := -300000000) I1 hr2 rfl
  have H2 := pk_mc H1 g2
  have I2 := inv_rth I2
  obtain ⟨M3, y3, I3, g3⟩ := y_average (N := N) (M := M2) (hN := hN) (a3 := 0) (a4 := 0) (a5 := 0) (a6 := 0) (x := -200000000) I2 hr3 rfl
  refine ⟨M3, ?_, inv_rth I3, pk_mc H2 g3, g9_t g3 (g9_t g2 g1)⟩
  unfold f_L_isSo_1001 f_L_isSo_1071
  rw [if_pos rfl, gi4_56, cl4, gq_l_e, hnb.1, y1, gq_b_s, if_pos rfl, gi5_56, cl5, gq_l_e, (pq_nl H1).1, y2, gq_b_s, if_pos rfl, gi1_56, cl1, gq_l_e, (pq_dn H2).1, nI_1, y3, gq_b_s, if_pos rfl, g_bb1]
theorem s_so {one : Nat} {M : gq_M} (hN : 600 ≤ N) (I : INV M R) (H : PK T0 nb nl nr tn dn M R) (ho : one < 2 ^ 31) : ∃ M2, f_L_isSo N (nI one) M = some (1, M2) ∧ INV M2 R ∧ PK T0 nb nl nr tn dn M2 R ∧ G9 M2 M := by
  have hb := (pq_nb H).2.2
  obtain ⟨M1, f1, I1, H1, g1⟩ := k_now (N := N) I H
  obtain ⟨M2, f2, I2, H2, g2⟩ := k_day (N := N) I1 H1
  obtain ⟨M3, f3, I3, H3, g3⟩ := k_isOpen (N := N) I2 H2 (pq_op H2).2
  obtain ⟨M4, e4, I4, H4, g4⟩ := so_box (N := N) (x12 := nI one) hN nb 0 N M3 I3 H3 (by omega) (by omega)
  obtain ⟨M5, e5, I5, H5, g5⟩ := so_lot (N := N) (x12 := nI one) hN nl 0 N M4 I4 H4 (by omega) (by have := (pq_nl H).2.2; omega)
  obtain ⟨M6, e6, I6, H6, g6⟩ := so_hall (N := N) (x12 := nI one) hN 3 0 N M5 I5 H5 (by omega) (by omega)
  obtain ⟨M7, e7, I7, H7, g7⟩ := so_acc (N := N) (x12 := nI one) hN 8 0 N M6 I6 H6 (by omega) (by omega)
  obtain ⟨M8, e8, I8, H8, g8⟩ := so_kilos (N := N) (x12 := nI one) hN 6 0 N M7 I7 H7 (by omega) (by omega)
  have hdn := pq_dn H8
  have hdl : one / 4 % (dn + 1) < dn + 1 := Nat.mod_lt _ (by omega)
  have hki : one % 4 < 4 := Nat.mod_lt _ (by omega)
  have e9 := so_sum (N := N) (R := R) (ki := one % 4) (dy := one / 4 % (dn + 1)) hki (by omega) (pq_nb H8).1 hb (pq_bx H8) nb 0 N 0 0 (by omega) (by omega)
  obtain ⟨M9, e10, I9, H9, g9⟩ := so_load (N := N) (x14 := nI (one % 4)) (x15 := nI (one / 4 % (dn + 1))) (x16 := 0 + lsum (rg 0 nb) (fun b => if isA R (one % 4) (one / 4 % (dn + 1)) b then R 17 b * R 22 b else 0)) (x17 := 0 + lsum (rg 0 nb) (fun b => if isA R (one % 4) (one / 4 % (dn + 1)) b then R 17 b else 0)) hN nr 0 N M8 I8 H8 (by omega) (by have := (pq_nr H).2.2; omega)
  obtain ⟨M10, f10, I10, H10, g10⟩ := k_average (N := N) (ki := one % 4) (dy := one / 4 % (dn + 1)) hN I9 H9 hki (by omega) (pq_dn H9).2.1 hdn.2.2
  obtain ⟨M11, e11, I11, H11, g11⟩ := so_end (N := N) (v := if 0 + lsum (rg 0 nb) (fun b => if isA R (one % 4) (one / 4 % (dn + 1)) b then R 17 b else 0) = 0 then -1 else (0 + lsum (rg 0 nb) (fun b => if isA R (one % 4) (one / 4 % (dn + 1)) b then R 17 b * R 22 b else 0)) / (0 + lsum (rg 0 nb) (fun b => if isA R (one % 4) (one / 4 % (dn + 1)) b then R 17 b else 0))) hN I10 H10
  refine ⟨M11, ?_, I11, H11, g9_t g11 (g9_t g10 (g9_t g9 (g9_t g8 (g9_t g7 (g9_t g6 (g9_t g5 (g9_t g4 (g9_t g3 (g9_t g2 g1)))))))))⟩
  have t1 : f_L_isSo N (nI one) M = f_L_isSo_46 N (nI one) 1 M3 := by
    unfold f_L_isSo
    rw [f1, gi0_56, cl0, gq_l_e, (pq_tn H1).1, if_pos (pq_tn H1).2.1, f2, gi1_56, cl1, gq_l_e, (pq_dn H2).1, if_pos (pq_dn H2).2.1, f3, gi2_56, cl2, gq_l_e, (pq_op H3).1]
    unfold f_L_isSo_38
    rcases (pq_op H3).2 with c | c
    · rw [c, if_pos (show (0 : Int32) ≤ 0 by decide), if_pos rfl]
    · rw [c, if_neg (show ¬ (1 : Int32) ≤ 0 by decide), if_pos rfl]
  have t2 : f_L_isSo_787 N (nI one) 1 M8 = f_L_isSo_974 N 1 (nI (one % 4)) (nI (one / 4 % (dn + 1))) (0 + lsum (rg 0 nb) (fun b => if isA R (one % 4) (one / 4 % (dn + 1)) b then R 17 b * R 22 b else 0)) (0 + lsum (rg 0 nb) (fun b => if isA R (one % 4) (one / 4 % (dn + 1)) b then R 17 b else 0)) M9 := by
    unfold f_L_isSo_787
    have ed : nI one / 4 - nI one / 4 / nI (dn + 1) * nI (dn + 1) = nI (one / 4 % (dn + 1)) := rd (a := 4) (b := dn + 1) (by omega) (by omega) ho
    rw [gi1_56, cl1, gq_l_e, hdn.1, nI_1, gnz (by omega) (by omega), gq_l_e, ed, rm4 ho]
    refine Eq.trans e9 ?_
    exact e10
  rw [t1]
  refine Eq.trans e4 ?_
  refine Eq.trans e5 ?_
  refine Eq.trans e6 ?_
  refine Eq.trans e7 ?_
  refine Eq.trans e8 ?_
  rw [t2]
  unfold f_L_isSo_974
  rw [if_neg one_ne, f10]
  generalize (0 + lsum (rg 0 nb) (fun b => if isA R (one % 4) (one / 4 % (dn + 1)) b then R 17 b * R 22 b else 0)) = x at e11 ⊢
  generalize (0 + lsum (rg 0 nb) (fun b => if isA R (one % 4) (one / 4 % (dn + 1)) b then R 17 b else 0)) = y at e11 ⊢
  by_cases c : y = 0
  · rw [if_pos c] at e11
    rw [if_pos c, if_pos c]
    exact e11
  · rw [if_neg c] at e11
    rw [if_neg c, if_neg c, gq_g_t (b := gq_nz y) (decide_eq_true c)]
    exact e11
end

