/-! draw, pay, settle -/
section
variable {N nb nl nr tn dn : Nat} {M R : gq_M}
theorem t_draw {one two : Nat} {x y : Int32} (H : PK T0 nb nl nr tn dn M R) (I : INV M R) : ∃ M2 R2, f_L_isTold_19 N 7 (nI one) (nI two) x y M = some (1, M2) ∧ INV M2 R2 ∧ PK T0 nb nl nr tn dn M2 R2 := by
  have H9 := pk_x (v := nI two * 40009 - nI one) (pk_thr (w := 0) H)
  obtain ⟨v, C2, R2, h1, h2, h3⟩ := c_draw (N := N) (a1 := nI two * 40009 - nI one) (inv_up (k := 119) (j := 3) (v := nI two * 40009 - nI one) I (by omega))
  have h4 : some (R 0 3, gq_up (thr R 0) 0 3 (nI two * 40009 - nI one)) = some (v, R2) := h2
  cases h4
  have hdr : M 119 3 = R 0 3 := by
    obtain ⟨hnb, hnl, hnr, htn, hdn, hop, hdr, hkd, hby, hqu, hbt, hha, hpr, hbx, hbz, hlt, hlo⟩ := H
    exact hdr
  refine ⟨mrg 109 C2 (gq_up M 119 3 (nI two * 40009 - nI one)), _, ?_, inv_mrg h3, pk_mc H9 (fun k hk => mrg_ge (by omega))⟩
  unfold f_L_isTold_19 f_L_isTold_1107
  rw [if_neg (show ¬ (7 : Int32) = 0 by decide), if_neg (show ¬ (7 : Int32) = 1 by decide), if_neg (show ¬ (7 : Int32) = 2 by decide), if_neg (show ¬ (7 : Int32) = 3 by decide), if_neg (show ¬ (7 : Int32) = 4 by decide), if_neg (show ¬ (7 : Int32) = 5 by decide), if_neg (show ¬ (7 : Int32) = 6 by decide), if_pos (show (7 : Int32) = 7 from rfl), gi3_56, gq_l_e, gi3_56, gq_l_e, gi3_56, gq_l_e, cl3, up_same, h1, gq_b_s, gq_l_e, if_pos hdr.symm, g_bb1]
def pays (o c : Int32) : Int32 := if 0 ≤ o then (if c ≤ o then c else o) else 0
theorem e_pay {bo ce : Nat} (hbo : bo < 2 ^ 31) (hce : ce < 2 ^ 31) : f_X10_pay N (nI bo) (nI ce) R = if bo < 8 then (if (1 ≤ ce ∧ ce ≤ 100000000) then some (pays (R 11 bo) (nI ce), gq_up (thr R 0) 11 bo (R 11 bo - pays (R 11 bo) (nI ce))) else some (0, thr R 2)) else some (0, thr R 1) := by
  by_cases c1 : bo < 8
  · have k1 : vp_in (nI bo) 8 := vpY c1 (by omega)
    by_cases c2 : 1 ≤ ce ∧ ce ≤ 100000000
    · have k2 : (1 : Int32) ≤ nI ce ∧ nI ce ≤ (100000000 : Int32) := ibt (a := 1) (b := 100000000) c2 (by omega)
      have k3 : (0 : Int32) ≤ nI ce := nI_pos' (by omega)
      rw [if_pos c1, if_pos c2]
      unfold pays
      by_cases q1 : nI ce ≤ R 11 bo
      · have q2 : 0 ≤ R 11 bo := Int32.le_trans k3 q1
        simp (disch := omega) only [f_X10_pay_62, f_X10_pay_52, f_X10_pay_24, f_X10_pay, r_isEight, r_isKind, r_isHall, r_areCents, r_isBox, r_isIn, r_fails, gq_b_s, gq_l_e, bI_z, Classical.not_not, reduceIte, not_true_eq_false, not_false_eq_true, f01, f02, f03, f00, f10, f01b, ite_not, ite_self, and_self, e8a, e8b, e4a, e4b, e3a, e3b, g_inN, g_bb0, g_bb1, g_bbI, nI_clamp, pl4, pl4b, pl8, pl8b, thr_r, thr_s, k1, k2, k3, q1, q2]
      · by_cases q2 : 0 ≤ R 11 bo
        · simp (disch := omega) only [f_X10_pay_62, f_X10_pay_52, f_X10_pay_24, f_X10_pay, r_isEight, r_isKind, r_isHall, r_areCents, r_isBox, r_isIn, r_fails, gq_b_s, gq_l_e, bI_z, Classical.not_not, reduceIte, not_true_eq_false, not_false_eq_true, f01, f02, f03, f00, f10, f01b, ite_not, ite_self, and_self, e8a, e8b, e4a, e4b, e3a, e3b, g_inN, g_bb0, g_bb1, g_bbI, nI_clamp, pl4, pl4b, pl8, pl8b, thr_r, thr_s, k1, k2, k3, q1, q2]
        · simp (disch := omega) only [f_X10_pay_62, f_X10_pay_52, f_X10_pay_24, f_X10_pay, r_isEight, r_isKind, r_isHall, r_areCents, r_isBox, r_isIn, r_fails, gq_b_s, gq_l_e, bI_z, Classical.not_not, reduceIte, not_true_eq_false, not_false_eq_true, f01, f02, f03, f00, f10, f01b, ite_not, ite_self, and_self, e8a, e8b, e4a, e4b, e3a, e3b, g_inN, g_bb0, g_bb1, g_bbI, nI_clamp, pl4, pl4b, pl8, pl8b, thr_r, thr_s, k1, k2, k3, q1, q2]
    · have k2 : ¬ ((1 : Int32) ≤ nI ce ∧ nI ce ≤ (100000000 : Int32)) := ibf (a := 1) (b := 100000000) c2 (by omega) (by omega) (by omega)
      rw [if_pos c1, if_neg c2]
      simp (disch := omega) only [f_X10_pay_62, f_X10_pay_52, f_X10_pay_24, f_X10_pay, r_isEight, r_isKind, r_isHall, r_areCents, r_isBox, r_isIn, r_fails, gq_b_s, gq_l_e, bI_z, Classical.not_not, reduceIte, not_true_eq_false, not_false_eq_true, f01, f02, f03, f00, f10, f01b, ite_not, ite_self, and_self, e8a, e8b, e4a, e4b, e3a, e3b, g_inN, g_bb0, g_bb1, g_bbI, nI_clamp, pl4, pl4b, pl8, pl8b, thr_r, thr_s, k1, k2]
  · have k1 : ¬ vp_in (nI bo) 8 := vpN c1 (by omega) (by omega)
    rw [if_neg c1]
    simp (disch := omega) only [f_X10_pay_62, f_X10_pay_52, f_X10_pay_24, f_X10_pay, r_isEight, r_isKind, r_isHall, r_areCents, r_isBox, r_isIn, r_fails, gq_b_s, gq_l_e, bI_z, Classical.not_not, reduceIte, not_true_eq_false, not_false_eq_true, f01, f02, f03, f00, f10, f01b, ite_not, ite_self, and_self, e8a, e8b, e4a, e4b, e3a, e3b, g_inN, g_bb0, g_bb1, g_bbI, nI_clamp, pl4, pl4b, pl8, pl8b, thr_r, thr_s, k1]
theorem l_1175 {x12 x13 x14 x15 s0 : Int32} : f_L_isTold_1175 N x12 x13 x14 x15 s0 M = f_L_isTold_1200 N x12 x13 x14 x15 (pays s0 x14) M := by
  unfold f_L_isTold_1175 pays
  by_cases q2 : 0 ≤ s0
  · by_cases q1 : x14 ≤ s0
    · rw [if_pos q2, if_pos q1, if_pos q2, if_pos q1]
    · rw [if_pos q2, if_neg q1, if_pos q2, if_neg q1]
  · rw [if_neg q2, if_neg q2]
theorem l_1130 {one two bo ce : Nat} {s : Int32} (hce : ce < 2 ^ 31) : f_L_isTold_1130 N 8 (nI one) (nI two) (nI bo) s (nI ce) M = f_L_isTold_1156 N (nI bo) s (nI ce) (bI (1 ≤ ce ∧ ce ≤ 100000000)) M := by
  unfold f_L_isTold_1130 f_L_isTold_1155
  rw [if_pos (show (8 : Int32) = 8 from rfl)]
  by_cases c : 1 ≤ ce ∧ ce ≤ 100000000
  · rw [bI_t c]
    simp (disch := omega) only [↓reduceIte, ite_self, iL8t, iL8f, iL4t, iL4f, iL3t, iL3f, iL100001t, iL100001f, iL10001t, iL10001f, iL501t, iL501f, iL100000001t, iL100000001f, iL10t, iL10f, iL10000001t, iL10000001f, iL101t, iL101f, iL100t, iL100f, iL51t, iL51f, iL9t, iL9f, iL1t, iL1f, iL2t, iL2f, iL7t, iL7f, iL29t, iL29f, iR0t, iR0f, iR100t, iR100f, iR10t, iR10f, iE0t, iE0f, iE1t, iE1f, iE2t, iE2f, iE3t, iE3f, iE4t, iE4f, iE5t, iE5f, iE6t, iE6f, iE7t, iE7f, iE8t, iE8f, iE9t, iE9f, iE10t, iE10f, iE11t, iE11f, iE12t, iE12f, iE13t, iE13f, iBt, iBf, i1_0, i0_0, i0_1, iSt, rm9, rm4, rm100002, rm2, rm5, rm10002, rm200, rm502, rm20, rm30000, rm3, rm4000, rm3000, rm11, rm13, rm40, rm6, rq4_3, rq4_120, rq2_3, rq2_90, rq7_5, rq7_10002, rq7_60, rq5_4, rq9_5, rq45_11, rq45_3, rq9_102, rq4_9, rq36_10, rq36_3, rq11_12, rq132_102, rq11_30, rq396_3, rq40_9, rq40_6, mu2, mu1700, mu1701, mu167, mv10, mv51, mv4, mv8, ad1, ad100, ad60, ad5, ad8, ad12, ad16, ad24, ad32, ad40, ad48, nI_add, nI_1, ap2, ap3, ap4, ap5, ap6]
  · rw [bI_f c]
    by_cases d : ce ≤ 0
    · simp (disch := omega) only [↓reduceIte, ite_self, iL8t, iL8f, iL4t, iL4f, iL3t, iL3f, iL100001t, iL100001f, iL10001t, iL10001f, iL501t, iL501f, iL100000001t, iL100000001f, iL10t, iL10f, iL10000001t, iL10000001f, iL101t, iL101f, iL100t, iL100f, iL51t, iL51f, iL9t, iL9f, iL1t, iL1f, iL2t, iL2f, iL7t, iL7f, iL29t, iL29f, iR0t, iR0f, iR100t, iR100f, iR10t, iR10f, iE0t, iE0f, iE1t, iE1f, iE2t, iE2f, iE3t, iE3f, iE4t, iE4f, iE5t, iE5f, iE6t, iE6f, iE7t, iE7f, iE8t, iE8f, iE9t, iE9f, iE10t, iE10f, iE11t, iE11f, iE12t, iE12f, iE13t, iE13f, iBt, iBf, i1_0, i0_0, i0_1, iSt, rm9, rm4, rm100002, rm2, rm5, rm10002, rm200, rm502, rm20, rm30000, rm3, rm4000, rm3000, rm11, rm13, rm40, rm6, rq4_3, rq4_120, rq2_3, rq2_90, rq7_5, rq7_10002, rq7_60, rq5_4, rq9_5, rq45_11, rq45_3, rq9_102, rq4_9, rq36_10, rq36_3, rq11_12, rq132_102, rq11_30, rq396_3, rq40_9, rq40_6, mu2, mu1700, mu1701, mu167, mv10, mv51, mv4, mv8, ad1, ad100, ad60, ad5, ad8, ad12, ad16, ad24, ad32, ad40, ad48, nI_add, nI_1, ap2, ap3, ap4, ap5, ap6]
    · simp (disch := omega) only [↓reduceIte, ite_self, iL8t, iL8f, iL4t, iL4f, iL3t, iL3f, iL100001t, iL100001f, iL10001t, iL10001f, iL501t, iL501f, iL100000001t, iL100000001f, iL10t, iL10f, iL10000001t, iL10000001f, iL101t, iL101f, iL100t, iL100f, iL51t, iL51f, iL9t, iL9f, iL1t, iL1f, iL2t, iL2f, iL7t, iL7f, iL29t, iL29f, iR0t, iR0f, iR100t, iR100f, iR10t, iR10f, iE0t, iE0f, iE1t, iE1f, iE2t, iE2f, iE3t, iE3f, iE4t, iE4f, iE5t, iE5f, iE6t, iE6f, iE7t, iE7f, iE8t, iE8f, iE9t, iE9f, iE10t, iE10f, iE11t, iE11f, iE12t, iE12f, iE13t, iE13f, iBt, iBf, i1_0, i0_0, i0_1, iSt, rm9, rm4, rm100002, rm2, rm5, rm10002, rm200, rm502, rm20, rm30000, rm3, rm4000, rm3000, rm11, rm13, rm40, rm6, rq4_3, rq4_120, rq2_3, rq2_90, rq7_5, rq7_10002, rq7_60, rq5_4, rq9_5, rq45_11, rq45_3, rq9_102, rq4_9, rq36_10, rq36_3, rq11_12, rq132_102, rq11_30, rq396_3, rq40_9, rq40_6, mu2, mu1700, mu1701, mu167, mv10, mv51, mv4, mv8, ad1, ad100, ad60, ad5, ad8, ad12, ad16, ad24, ad32, ad40, ad48, nI_add, nI_1, ap2, ap3, ap4, ap5, ap6]
theorem cmp0b (x : Int64) : (lg_cmp x 0 ≤ 0) = (x ≤ 0) := by
  apply propext
  unfold lg_cmp
  by_cases h3 : 0 < x
  · have h2 : ¬ x ≤ 0 := Int64.not_le.mpr h3
    simp [h3, h2]
  · have h2 : x ≤ 0 := Int64.not_lt.mp h3
    by_cases h4 : x = 0
    · subst h4; simp
    · simp [h3, h4, h2]
def crew (A c p : Int32) : Int32 := if 0 ≤ (A.toInt64 - (if 0 ≤ A.toInt64 then (A.toInt64 * 3) / 100 else 0)) - c.toInt64 then (((A.toInt64 - (if 0 ≤ A.toInt64 then (A.toInt64 * 3) / 100 else 0)) - c.toInt64) * p.toInt64 / 100).toInt32 else 0
theorem crew_l {A c p : Int32} : crew A c p = if (A.toInt64 - c.toInt64) - (if A.toInt64 ≤ 0 then 0 else (A.toInt64 * 3) / 100) ≤ 0 then 0 else ((((A.toInt64 - c.toInt64) - (if A.toInt64 ≤ 0 then 0 else (A.toInt64 * 3) / 100)) * p.toInt64) / 100).toInt32 := by
  unfold crew
  generalize A.toInt64 = X
  generalize c.toInt64 = Y
  generalize p.toInt64 = Z
  have hf : (if 0 ≤ X then (X * 3) / 100 else 0) = if X ≤ 0 then 0 else (X * 3) / 100 := by
    by_cases h : X = 0
    · subst h; decide
    · by_cases h2 : 0 ≤ X
      · rw [if_pos h2, if_neg (fun h3 => h (Int64.le_antisymm h3 h2))]
      · rw [if_neg h2, if_pos (Int64.le_of_lt (Int64.not_le.mp h2))]
  rw [hf]
  generalize (if X ≤ 0 then 0 else (X * 3) / 100) = F
  have hs : X - F - Y = X - Y - F := by grind
  rw [hs]
  generalize X - Y - F = n
  by_cases h : n = 0
  · subst h
    rw [if_pos (Int64.le_refl _), if_pos (Int64.le_refl _), Int64.zero_mul]
    decide
  · by_cases h2 : 0 ≤ n
    · rw [if_pos h2, if_neg (fun h3 => h (Int64.le_antisymm h3 h2))]
    · rw [if_neg h2, if_pos (Int64.le_of_lt (Int64.not_le.mp h2))]
theorem e_settle {bo co pa : Nat} (hbo : bo < 2 ^ 31) (hco : co < 2 ^ 31) (hpa : pa < 2 ^ 31) : f_X10_settle N (nI bo) (nI co) (nI pa) R = if bo < 8 then (if ((0 ≤ co ∧ co ≤ 10000000) ∧ (0 ≤ pa ∧ pa ≤ 100)) then some (crew (R 5 bo) (nI co) (nI pa), gq_up (thr R 0) 5 bo 0) else some (0, thr R 2)) else some (0, thr R 1) := by
  by_cases c1 : bo < 8
  · have k1 : vp_in (nI bo) 8 := vpY c1 (by omega)
    by_cases c2 : 0 ≤ co ∧ co ≤ 10000000
    · have k2 : (0 : Int32) ≤ nI co ∧ nI co ≤ (10000000 : Int32) := ibt (a := 0) (b := 10000000) c2 (by omega)
      by_cases c3 : 0 ≤ pa ∧ pa ≤ 100
      · have k3 : (0 : Int32) ≤ nI pa ∧ nI pa ≤ (100 : Int32) := ibt (a := 0) (b := 100) c3 (by omega)
        rw [if_pos c1, if_pos ⟨c2, c3⟩]
        simp (disch := omega) only [f_X10_settle_124, f_X10_settle_90, f_X10_settle_50, f_X10_settle_26, f_X10_settle_25, f_X10_settle, r_isEight, r_isKind, r_isHall, r_areCents, r_isBox, r_isIn, r_fails, gq_b_s, gq_l_e, bI_z, Classical.not_not, reduceIte, not_true_eq_false, not_false_eq_true, f01, f02, f03, f00, f10, f01b, ite_not, ite_self, and_self, e8a, e8b, e4a, e4b, e3a, e3b, g_inN, g_bb0, g_bb1, g_bbI, nI_clamp, pl4, pl4b, pl8, pl8b, thr_r, thr_s, k1, k2, k3, cmp0, up_no]
        unfold crew
        by_cases q1 : 0 ≤ (R 5 bo).toInt64
        · rw [if_pos q1, if_pos q1]
          split
          · rfl
          · rfl
        · rw [if_neg q1, if_neg q1]
          split
          · rfl
          · rfl
      · have k3 : ¬ ((0 : Int32) ≤ nI pa ∧ nI pa ≤ (100 : Int32)) := ibf (a := 0) (b := 100) c3 (by omega) (by omega) (by omega)
        rw [if_pos c1, if_neg (fun z => c3 z.2)]
        simp (disch := omega) only [f_X10_settle_124, f_X10_settle_90, f_X10_settle_50, f_X10_settle_26, f_X10_settle_25, f_X10_settle, r_isEight, r_isKind, r_isHall, r_areCents, r_isBox, r_isIn, r_fails, gq_b_s, gq_l_e, bI_z, Classical.not_not, reduceIte, not_true_eq_false, not_false_eq_true, f01, f02, f03, f00, f10, f01b, ite_not, ite_self, and_self, e8a, e8b, e4a, e4b, e3a, e3b, g_inN, g_bb0, g_bb1, g_bbI, nI_clamp, pl4, pl4b, pl8, pl8b, thr_r, thr_s, k1, k2, k3]
    · have k2 : ¬ ((0 : Int32) ≤ nI co ∧ nI co ≤ (10000000 : Int32)) := ibf (a := 0) (b := 10000000) c2 (by omega) (by omega) (by omega)
      rw [if_pos c1, if_neg (fun z => c2 z.1)]
      simp (disch := omega) only [f_X10_settle_124, f_X10_settle_90, f_X10_settle_50, f_X10_settle_26, f_X10_settle_25, f_X10_settle, r_isEight, r_isKind, r_isHall, r_areCents, r_isBox, r_isIn, r_fails, gq_b_s, gq_l_e, bI_z, Classical.not_not, reduceIte, not_true_eq_false, not_false_eq_true, f01, f02, f03, f00, f10, f01b, ite_not, ite_self, and_self, e8a, e8b, e4a, e4b, e3a, e3b, g_inN, g_bb0, g_bb1, g_bbI, nI_clamp, pl4, pl4b, pl8, pl8b, thr_r, thr_s, k1, k2]
  · have k1 : ¬ vp_in (nI bo) 8 := vpN c1 (by omega) (by omega)
    rw [if_neg c1]
    simp (disch := omega) only [f_X10_settle_124, f_X10_settle_90, f_X10_settle_50, f_X10_settle_26, f_X10_settle_25, f_X10_settle, r_isEight, r_isKind, r_isHall, r_areCents, r_isBox, r_isIn, r_fails, gq_b_s, gq_l_e, bI_z, Classical.not_not, reduceIte, not_true_eq_false, not_false_eq_true, f01, f02, f03, f00, f10, f01b, ite_not, ite_self, and_self, e8a, e8b, e4a, e4b, e3a, e3b, g_inN, g_bb0, g_bb1, g_bbI, nI_clamp, pl4, pl4b, pl8, pl8b, thr_r, thr_s, k1]
theorem l_1547 {one bo co : Nat} {s : Int32} (hco : co < 2 ^ 31) (ho : one < 2 ^ 31) : f_L_isTold_1547 N (nI one) (nI bo) s (nI co) M = f_L_isTold_1578 N (nI bo) s (nI co) (nI (one / 9 % 102)) (bI ((0 ≤ co ∧ co ≤ 10000000) ∧ (0 ≤ one / 9 % 102 ∧ one / 9 % 102 ≤ 100))) M := by
  unfold f_L_isTold_1547 f_L_isTold_1577
  by_cases c : (0 ≤ co ∧ co ≤ 10000000) ∧ (0 ≤ one / 9 % 102 ∧ one / 9 % 102 ≤ 100)
  · rw [bI_t c]
    simp (disch := omega) only [↓reduceIte, ite_self, iL8t, iL8f, iL4t, iL4f, iL3t, iL3f, iL100001t, iL100001f, iL10001t, iL10001f, iL501t, iL501f, iL100000001t, iL100000001f, iL10t, iL10f, iL10000001t, iL10000001f, iL101t, iL101f, iL100t, iL100f, iL51t, iL51f, iL9t, iL9f, iL1t, iL1f, iL2t, iL2f, iL7t, iL7f, iL29t, iL29f, iR0t, iR0f, iR100t, iR100f, iR10t, iR10f, iE0t, iE0f, iE1t, iE1f, iE2t, iE2f, iE3t, iE3f, iE4t, iE4f, iE5t, iE5f, iE6t, iE6f, iE7t, iE7f, iE8t, iE8f, iE9t, iE9f, iE10t, iE10f, iE11t, iE11f, iE12t, iE12f, iE13t, iE13f, iBt, iBf, i1_0, i0_0, i0_1, iSt, rm9, rm4, rm100002, rm2, rm5, rm10002, rm200, rm502, rm20, rm30000, rm3, rm4000, rm3000, rm11, rm13, rm40, rm6, rq4_3, rq4_120, rq2_3, rq2_90, rq7_5, rq7_10002, rq7_60, rq5_4, rq9_5, rq45_11, rq45_3, rq9_102, rq4_9, rq36_10, rq36_3, rq11_12, rq132_102, rq11_30, rq396_3, rq40_9, rq40_6, mu2, mu1700, mu1701, mu167, mv10, mv51, mv4, mv8, ad1, ad100, ad60, ad5, ad8, ad12, ad16, ad24, ad32, ad40, ad48, nI_add, nI_1, ap2, ap3, ap4, ap5, ap6]
  · rw [bI_f c]
    by_cases d : 10000001 ≤ co
    · simp (disch := omega) only [↓reduceIte, ite_self, iL8t, iL8f, iL4t, iL4f, iL3t, iL3f, iL100001t, iL100001f, iL10001t, iL10001f, iL501t, iL501f, iL100000001t, iL100000001f, iL10t, iL10f, iL10000001t, iL10000001f, iL101t, iL101f, iL100t, iL100f, iL51t, iL51f, iL9t, iL9f, iL1t, iL1f, iL2t, iL2f, iL7t, iL7f, iL29t, iL29f, iR0t, iR0f, iR100t, iR100f, iR10t, iR10f, iE0t, iE0f, iE1t, iE1f, iE2t, iE2f, iE3t, iE3f, iE4t, iE4f, iE5t, iE5f, iE6t, iE6f, iE7t, iE7f, iE8t, iE8f, iE9t, iE9f, iE10t, iE10f, iE11t, iE11f, iE12t, iE12f, iE13t, iE13f, iBt, iBf, i1_0, i0_0, i0_1, iSt, rm9, rm4, rm100002, rm2, rm5, rm10002, rm200, rm502, rm20, rm30000, rm3, rm4000, rm3000, rm11, rm13, rm40, rm6, rq4_3, rq4_120, rq2_3, rq2_90, rq7_5, rq7_10002, rq7_60, rq5_4, rq9_5, rq45_11, rq45_3, rq9_102, rq4_9, rq36_10, rq36_3, rq11_12, rq132_102, rq11_30, rq396_3, rq40_9, rq40_6, mu2, mu1700, mu1701, mu167, mv10, mv51, mv4, mv8, ad1, ad100, ad60, ad5, ad8, ad12, ad16, ad24, ad32, ad40, ad48, nI_add, nI_1, ap2, ap3, ap4, ap5, ap6]
    · simp (disch := omega) only [↓reduceIte, ite_self, iL8t, iL8f, iL4t, iL4f, iL3t, iL3f, iL100001t, iL100001f, iL10001t, iL10001f, iL501t, iL501f, iL100000001t, iL100000001f, iL10t, iL10f, iL10000001t, iL10000001f, iL101t, iL101f, iL100t, iL100f, iL51t, iL51f, iL9t, iL9f, iL1t, iL1f, iL2t, iL2f, iL7t, iL7f, iL29t, iL29f, iR0t, iR0f, iR100t, iR100f, iR10t, iR10f, iE0t, iE0f, iE1t, iE1f, iE2t, iE2f, iE3t, iE3f, iE4t, iE4f, iE5t, iE5f, iE6t, iE6f, iE7t, iE7f, iE8t, iE8f, iE9t, iE9f, iE10t, iE10f, iE11t, iE11f, iE12t, iE12f, iE13t, iE13f, iBt, iBf, i1_0, i0_0, i0_1, iSt, rm9, rm4, rm100002, rm2, rm5, rm10002, rm200, rm502, rm20, rm30000, rm3, rm4000, rm3000, rm11, rm13, rm40, rm6, rq4_3, rq4_120, rq2_3, rq2_90, rq7_5, rq7_10002, rq7_60, rq5_4, rq9_5, rq45_11, rq45_3, rq9_102, rq4_9, rq36_10, rq36_3, rq11_12, rq132_102, rq11_30, rq396_3, rq40_9, rq40_6, mu2, mu1700, mu1701, mu167, mv10, mv51, mv4, mv8, ad1, ad100, ad60, ad5, ad8, ad12, ad16, ad24, ad32, ad40, ad48, nI_add, nI_1, ap2, ap3, ap4, ap5, ap6]
theorem l_1578 {co pa : Int32} {bo : Nat} (hb : bo < 8) : f_L_isTold_1578 N (nI bo) 1 co pa 1 M = f_L_isTold_1656 N (nI bo) 1 co pa 1 (crew (M 121 (16 + bo)) co pa) M := by
  unfold f_L_isTold_1578 f_L_isTold_1631
  simp (disch := omega) only [↓reduceIte, ite_self, iL8t, iL8f, iL4t, iL4f, iL3t, iL3f, iL100001t, iL100001f, iL10001t, iL10001f, iL501t, iL501f, iL100000001t, iL100000001f, iL10t, iL10f, iL10000001t, iL10000001f, iL101t, iL101f, iL100t, iL100f, iL51t, iL51f, iL9t, iL9f, iL1t, iL1f, iL2t, iL2f, iL7t, iL7f, iL29t, iL29f, iR0t, iR0f, iR100t, iR100f, iR10t, iR10f, iE0t, iE0f, iE1t, iE1f, iE2t, iE2f, iE3t, iE3f, iE4t, iE4f, iE5t, iE5f, iE6t, iE6f, iE7t, iE7f, iE8t, iE8f, iE9t, iE9f, iE10t, iE10f, iE11t, iE11f, iE12t, iE12f, iE13t, iE13f, iBt, iBf, i1_0, i0_0, i0_1, iSt, rm9, rm4, rm100002, rm2, rm5, rm10002, rm200, rm502, rm20, rm30000, rm3, rm4000, rm3000, rm11, rm13, rm40, rm6, rq4_3, rq4_120, rq2_3, rq2_90, rq7_5, rq7_10002, rq7_60, rq5_4, rq9_5, rq45_11, rq45_3, rq9_102, rq4_9, rq36_10, rq36_3, rq11_12, rq132_102, rq11_30, rq396_3, rq40_9, rq40_6, mu2, mu1700, mu1701, mu167, mv10, mv51, mv4, mv8, ad1, ad100, ad60, ad5, ad8, ad12, ad16, ad24, ad32, ad40, ad48, nI_add, nI_1, ap2, ap3, ap4, ap5, ap6, g_inN, nI_clamp, gq_l_e, gq_b_s, g_bb0, g_bb1, gi0_56, gi3_56, gi4_56, gi7_56, gi7_24, cl0, cl3, cl4, cl7, cmp0b]
  rw [crew_l]
  by_cases q1 : (M 121 (16 + bo)).toInt64 ≤ 0
  · rw [if_pos q1, if_pos q1]
    split
    · rfl
    · rfl
  · rw [if_neg q1, if_neg q1]
    split
    · rfl
    · rfl
theorem t_pay {bo ce : Nat} (H : PK T0 nb nl nr tn dn M R) (I : INV M R) (hN : 600 ≤ N) (hbo : bo < 9) (hce : ce < 2 ^ 31) : ∃ M2 R2, f_L_isTold_1156 N (nI bo) (bI (bo < 8)) (nI ce) (bI (1 ≤ ce ∧ ce ≤ 100000000)) M = some (1, M2) ∧ INV M2 R2 ∧ PK T0 nb nl nr tn dn M2 R2 := by
  have hr := e_pay (N := N) (R := R) (bo := bo) (ce := ce) (by omega) (by omega)
  have H9 := pk_thr (w := 0) H
  obtain ⟨hnb, hnl, hnr, htn, hdn, hop, hdr, hkd, hby, hqu, hbt, hha, hpr, hbx, hbz, hlt, hlo⟩ := H9
  by_cases c1 : bo < 8
  · by_cases c2 : (1 ≤ ce ∧ ce ≤ 100000000)
    · rw [if_pos c1, if_pos c2] at hr
      obtain ⟨M2, y1, y2, y3⟩ := y_pay (N := N) (M := gq_up M 119 (40 + bo) (R 11 bo - pays (R 11 bo) (nI ce))) (hN := hN) (a3 := 0) (a4 := 0) (a5 := 0) (a6 := 0) (x := pays (R 11 bo) (nI ce)) (inv_up I (by omega)) hr rfl
      refine ⟨M2, _, ?_, y2, pk_mc ?_ y3⟩
      · simp (maxSteps := 1000000) (disch := omega) only [f_L_isTold_1156, f_L_isTold_1200, f_L_isTold_1225, f_L_isTold_1261, f_L_isTold_1269, ↓reduceIte, ite_self, iL8t, iL8f, iL4t, iL4f, iL3t, iL3f, iL100001t, iL100001f, iL10001t, iL10001f, iL501t, iL501f, iL100000001t, iL100000001f, iL10t, iL10f, iL10000001t, iL10000001f, iL101t, iL101f, iL100t, iL100f, iL51t, iL51f, iL9t, iL9f, iL1t, iL1f, iL2t, iL2f, iL7t, iL7f, iL29t, iL29f, iR0t, iR0f, iR100t, iR100f, iR10t, iR10f, iE0t, iE0f, iE1t, iE1f, iE2t, iE2f, iE3t, iE3f, iE4t, iE4f, iE5t, iE5f, iE6t, iE6f, iE7t, iE7f, iE8t, iE8f, iE9t, iE9f, iE10t, iE10f, iE11t, iE11f, iE12t, iE12f, iE13t, iE13f, iBt, iBf, i1_0, i0_0, i0_1, iSt, rm9, rm4, rm100002, rm2, rm5, rm10002, rm200, rm502, rm20, rm30000, rm3, rm4000, rm3000, rm11, rm13, rm40, rm6, rq4_3, rq4_120, rq2_3, rq2_90, rq7_5, rq7_10002, rq7_60, rq5_4, rq9_5, rq45_11, rq45_3, rq9_102, rq4_9, rq36_10, rq36_3, rq11_12, rq132_102, rq11_30, rq396_3, rq40_9, rq40_6, mu2, mu1700, mu1701, mu167, mv10, mv51, mv4, mv8, ad1, ad100, ad60, ad5, ad8, ad12, ad16, ad24, ad32, ad40, ad48, nI_add, nI_1, ap2, ap3, ap4, ap5, ap6, g_inN, nI_clamp, gq_l_e, gq_b_s, g_bb0, g_bb1, gi0_56, gi3_56, gi4_56, gi7_56, gi7_24, cl0, cl3, cl4, cl7, y1, l_1175, (hby bo c1).2.2.1, thr_r]
      · refine ⟨⟨(by simp (disch := omega) only [up_no]; exact hnb.1), hnb.2⟩, ⟨(by simp (disch := omega) only [up_no]; exact hnl.1), hnl.2⟩, ⟨(by simp (disch := omega) only [up_no]; exact hnr.1), hnr.2⟩, ⟨(by simp (disch := omega) only [up_no]; exact htn.1), htn.2⟩, ⟨(by simp (disch := omega) only [up_no]; exact hdn.1), hdn.2⟩, ⟨(by simp (disch := omega) only [up_no]; exact hop.1), hop.2⟩, (by simp (disch := omega) only [up_no]; exact hdr), (fun j hj => by simp (disch := omega) only [up_no]; exact hkd j hj), fun j hj => ?_, hqu, hbt, hha, hpr, hbx, hbz, hlt, hlo⟩
        obtain ⟨h1, h2, h3, h4, h5, h6⟩ := hby j hj
        by_cases e : j = bo
        · subst e
          simp (disch := omega) only [up_no, up_same]
          exact ⟨h1, h2, trivial, h4, h5, h6⟩
        · simp (disch := omega) only [up_no]
          exact ⟨h1, h2, h3, h4, h5, h6⟩
    · rw [if_pos c1, if_neg c2] at hr
      obtain ⟨M2, y1, y2, y3⟩ := y_pay (N := N) (M := M) (hN := hN) (a3 := 0) (a4 := 0) (a5 := 0) (a6 := 0) (x := -200000000) I hr rfl
      refine ⟨M2, _, ?_, y2, pk_mc (pk_thr H) y3⟩
      simp (maxSteps := 1000000) (disch := omega) only [f_L_isTold_1156, f_L_isTold_1200, f_L_isTold_1225, f_L_isTold_1261, f_L_isTold_1269, ↓reduceIte, ite_self, iL8t, iL8f, iL4t, iL4f, iL3t, iL3f, iL100001t, iL100001f, iL10001t, iL10001f, iL501t, iL501f, iL100000001t, iL100000001f, iL10t, iL10f, iL10000001t, iL10000001f, iL101t, iL101f, iL100t, iL100f, iL51t, iL51f, iL9t, iL9f, iL1t, iL1f, iL2t, iL2f, iL7t, iL7f, iL29t, iL29f, iR0t, iR0f, iR100t, iR100f, iR10t, iR10f, iE0t, iE0f, iE1t, iE1f, iE2t, iE2f, iE3t, iE3f, iE4t, iE4f, iE5t, iE5f, iE6t, iE6f, iE7t, iE7f, iE8t, iE8f, iE9t, iE9f, iE10t, iE10f, iE11t, iE11f, iE12t, iE12f, iE13t, iE13f, iBt, iBf, i1_0, i0_0, i0_1, iSt, rm9, rm4, rm100002, rm2, rm5, rm10002, rm200, rm502, rm20, rm30000, rm3, rm4000, rm3000, rm11, rm13, rm40, rm6, rq4_3, rq4_120, rq2_3, rq2_90, rq7_5, rq7_10002, rq7_60, rq5_4, rq9_5, rq45_11, rq45_3, rq9_102, rq4_9, rq36_10, rq36_3, rq11_12, rq132_102, rq11_30, rq396_3, rq40_9, rq40_6, mu2, mu1700, mu1701, mu167, mv10, mv51, mv4, mv8, ad1, ad100, ad60, ad5, ad8, ad12, ad16, ad24, ad32, ad40, ad48, nI_add, nI_1, ap2, ap3, ap4, ap5, ap6, g_inN, nI_clamp, gq_l_e, gq_b_s, g_bb0, g_bb1, gi0_56, gi3_56, gi4_56, gi7_56, gi7_24, cl0, cl3, cl4, cl7, y1, l_1175]
  · rw [if_neg c1] at hr
    obtain ⟨M2, y1, y2, y3⟩ := y_pay (N := N) (M := M) (hN := hN) (a3 := 0) (a4 := 0) (a5 := 0) (a6 := 0) (x := -300000000) I hr rfl
    refine ⟨M2, _, ?_, y2, pk_mc (pk_thr H) y3⟩
    simp (maxSteps := 1000000) (disch := omega) only [f_L_isTold_1156, f_L_isTold_1200, f_L_isTold_1225, f_L_isTold_1261, f_L_isTold_1269, ↓reduceIte, ite_self, iL8t, iL8f, iL4t, iL4f, iL3t, iL3f, iL100001t, iL100001f, iL10001t, iL10001f, iL501t, iL501f, iL100000001t, iL100000001f, iL10t, iL10f, iL10000001t, iL10000001f, iL101t, iL101f, iL100t, iL100f, iL51t, iL51f, iL9t, iL9f, iL1t, iL1f, iL2t, iL2f, iL7t, iL7f, iL29t, iL29f, iR0t, iR0f, iR100t, iR100f, iR10t, iR10f, iE0t, iE0f, iE1t, iE1f, iE2t, iE2f, iE3t, iE3f, iE4t, iE4f, iE5t, iE5f, iE6t, iE6f, iE7t, iE7f, iE8t, iE8f, iE9t, iE9f, iE10t, iE10f, iE11t, iE11f, iE12t, iE12f, iE13t, iE13f, iBt, iBf, i1_0, i0_0, i0_1, iSt, rm9, rm4, rm100002, rm2, rm5, rm10002, rm200, rm502, rm20, rm30000, rm3, rm4000, rm3000, rm11, rm13, rm40, rm6, rq4_3, rq4_120, rq2_3, rq2_90, rq7_5, rq7_10002, rq7_60, rq5_4, rq9_5, rq45_11, rq45_3, rq9_102, rq4_9, rq36_10, rq36_3, rq11_12, rq132_102, rq11_30, rq396_3, rq40_9, rq40_6, mu2, mu1700, mu1701, mu167, mv10, mv51, mv4, mv8, ad1, ad100, ad60, ad5, ad8, ad12, ad16, ad24, ad32, ad40, ad48, nI_add, nI_1, ap2, ap3, ap4, ap5, ap6, g_inN, nI_clamp, gq_l_e, gq_b_s, g_bb0, g_bb1, gi0_56, gi3_56, gi4_56, gi7_56, gi7_24, cl0, cl3, cl4, cl7, y1, l_1175]
theorem t_settle {bo co pa : Nat} (H : PK T0 nb nl nr tn dn M R) (I : INV M R) (hN : 600 ≤ N) (hbo : bo < 9) (hco : co < 2 ^ 31) (hpa : pa < 2 ^ 31) : ∃ M2 R2, f_L_isTold_1578 N (nI bo) (bI (bo < 8)) (nI co) (nI pa) (bI ((0 ≤ co ∧ co ≤ 10000000) ∧ (0 ≤ pa ∧ pa ≤ 100))) M = some (1, M2) ∧ INV M2 R2 ∧ PK T0 nb nl nr tn dn M2 R2 := by
  have hr := e_settle (N := N) (R := R) (bo := bo) (co := co) (pa := pa) (by omega) (by omega) (by omega)
  have H9 := pk_thr (w := 0) H
  obtain ⟨hnb, hnl, hnr, htn, hdn, hop, hdr, hkd, hby, hqu, hbt, hha, hpr, hbx, hbz, hlt, hlo⟩ := H9
  by_cases c1 : bo < 8
  · by_cases c2 : (0 ≤ co ∧ co ≤ 10000000) ∧ (0 ≤ pa ∧ pa ≤ 100)
    · rw [if_pos c1, if_pos c2] at hr
      obtain ⟨M2, y1, y2, y3⟩ := y_settle (N := N) (M := gq_up M 121 (16 + bo) 0) (hN := hN) (a4 := 0) (a5 := 0) (a6 := 0) (x := crew (R 5 bo) (nI co) (nI pa)) (inv_up I (by omega)) hr rfl
      refine ⟨M2, _, ?_, y2, pk_mc ?_ y3⟩
      · rw [bI_t c1, bI_t c2, l_1578 c1]
        simp (maxSteps := 1000000) (disch := omega) only [f_L_isTold_1656, f_L_isTold_1667, f_L_isTold_1704, f_L_isTold_1712, ↓reduceIte, ite_self, iL8t, iL8f, iL4t, iL4f, iL3t, iL3f, iL100001t, iL100001f, iL10001t, iL10001f, iL501t, iL501f, iL100000001t, iL100000001f, iL10t, iL10f, iL10000001t, iL10000001f, iL101t, iL101f, iL100t, iL100f, iL51t, iL51f, iL9t, iL9f, iL1t, iL1f, iL2t, iL2f, iL7t, iL7f, iL29t, iL29f, iR0t, iR0f, iR100t, iR100f, iR10t, iR10f, iE0t, iE0f, iE1t, iE1f, iE2t, iE2f, iE3t, iE3f, iE4t, iE4f, iE5t, iE5f, iE6t, iE6f, iE7t, iE7f, iE8t, iE8f, iE9t, iE9f, iE10t, iE10f, iE11t, iE11f, iE12t, iE12f, iE13t, iE13f, iBt, iBf, i1_0, i0_0, i0_1, iSt, rm9, rm4, rm100002, rm2, rm5, rm10002, rm200, rm502, rm20, rm30000, rm3, rm4000, rm3000, rm11, rm13, rm40, rm6, rq4_3, rq4_120, rq2_3, rq2_90, rq7_5, rq7_10002, rq7_60, rq5_4, rq9_5, rq45_11, rq45_3, rq9_102, rq4_9, rq36_10, rq36_3, rq11_12, rq132_102, rq11_30, rq396_3, rq40_9, rq40_6, mu2, mu1700, mu1701, mu167, mv10, mv51, mv4, mv8, ad1, ad100, ad60, ad5, ad8, ad12, ad16, ad24, ad32, ad40, ad48, nI_add, nI_1, ap2, ap3, ap4, ap5, ap6, g_inN, nI_clamp, gq_l_e, gq_b_s, g_bb0, g_bb1, gi0_56, gi3_56, gi4_56, gi7_56, gi7_24, cl0, cl3, cl4, cl7, y1, (hbt bo c1).2.2.1, thr_r]
      · refine ⟨hnb, hnl, hnr, htn, hdn, hop, hdr, hkd, hby, hqu, fun j hj => ?_, hha, hpr, hbx, hbz, hlt, hlo⟩
        obtain ⟨h1, h2, h3, h4⟩ := hbt j hj
        by_cases e : j = bo
        · subst e
          simp (disch := omega) only [up_no, up_same]
          exact ⟨h1, h2, trivial, h4⟩
        · simp (disch := omega) only [up_no]
          exact ⟨h1, h2, h3, h4⟩
    · rw [if_pos c1, if_neg c2] at hr
      obtain ⟨M2, y1, y2, y3⟩ := y_settle (N := N) (M := M) (hN := hN) (a4 := 0) (a5 := 0) (a6 := 0) (x := -200000000) I hr rfl
      refine ⟨M2, _, ?_, y2, pk_mc (pk_thr H) y3⟩
      simp (maxSteps := 1000000) (disch := omega) only [f_L_isTold_1656, f_L_isTold_1667, f_L_isTold_1704, f_L_isTold_1712, ↓reduceIte, ite_self, iL8t, iL8f, iL4t, iL4f, iL3t, iL3f, iL100001t, iL100001f, iL10001t, iL10001f, iL501t, iL501f, iL100000001t, iL100000001f, iL10t, iL10f, iL10000001t, iL10000001f, iL101t, iL101f, iL100t, iL100f, iL51t, iL51f, iL9t, iL9f, iL1t, iL1f, iL2t, iL2f, iL7t, iL7f, iL29t, iL29f, iR0t, iR0f, iR100t, iR100f, iR10t, iR10f, iE0t, iE0f, iE1t, iE1f, iE2t, iE2f, iE3t, iE3f, iE4t, iE4f, iE5t, iE5f, iE6t, iE6f, iE7t, iE7f, iE8t, iE8f, iE9t, iE9f, iE10t, iE10f, iE11t, iE11f, iE12t, iE12f, iE13t, iE13f, iBt, iBf, i1_0, i0_0, i0_1, iSt, rm9, rm4, rm100002, rm2, rm5, rm10002, rm200, rm502, rm20, rm30000, rm3, rm4000, rm3000, rm11, rm13, rm40, rm6, rq4_3, rq4_120, rq2_3, rq2_90, rq7_5, rq7_10002, rq7_60, rq5_4, rq9_5, rq45_11, rq45_3, rq9_102, rq4_9, rq36_10, rq36_3, rq11_12, rq132_102, rq11_30, rq396_3, rq40_9, rq40_6, mu2, mu1700, mu1701, mu167, mv10, mv51, mv4, mv8, ad1, ad100, ad60, ad5, ad8, ad12, ad16, ad24, ad32, ad40, ad48, nI_add, nI_1, ap2, ap3, ap4, ap5, ap6, g_inN, nI_clamp, gq_l_e, gq_b_s, g_bb0, g_bb1, gi0_56, gi3_56, gi4_56, gi7_56, gi7_24, cl0, cl3, cl4, cl7, y1, f_L_isTold_1578]
  · rw [if_neg c1] at hr
    obtain ⟨M2, y1, y2, y3⟩ := y_settle (N := N) (M := M) (hN := hN) (a4 := 0) (a5 := 0) (a6 := 0) (x := -300000000) I hr rfl
    refine ⟨M2, _, ?_, y2, pk_mc (pk_thr H) y3⟩
    simp (maxSteps := 1000000) (disch := omega) only [f_L_isTold_1656, f_L_isTold_1667, f_L_isTold_1704, f_L_isTold_1712, ↓reduceIte, ite_self, iL8t, iL8f, iL4t, iL4f, iL3t, iL3f, iL100001t, iL100001f, iL10001t, iL10001f, iL501t, iL501f, iL100000001t, iL100000001f, iL10t, iL10f, iL10000001t, iL10000001f, iL101t, iL101f, iL100t, iL100f, iL51t, iL51f, iL9t, iL9f, iL1t, iL1f, iL2t, iL2f, iL7t, iL7f, iL29t, iL29f, iR0t, iR0f, iR100t, iR100f, iR10t, iR10f, iE0t, iE0f, iE1t, iE1f, iE2t, iE2f, iE3t, iE3f, iE4t, iE4f, iE5t, iE5f, iE6t, iE6f, iE7t, iE7f, iE8t, iE8f, iE9t, iE9f, iE10t, iE10f, iE11t, iE11f, iE12t, iE12f, iE13t, iE13f, iBt, iBf, i1_0, i0_0, i0_1, iSt, rm9, rm4, rm100002, rm2, rm5, rm10002, rm200, rm502, rm20, rm30000, rm3, rm4000, rm3000, rm11, rm13, rm40, rm6, rq4_3, rq4_120, rq2_3, rq2_90, rq7_5, rq7_10002, rq7_60, rq5_4, rq9_5, rq45_11, rq45_3, rq9_102, rq4_9, rq36_10, rq36_3, rq11_12, rq132_102, rq11_30, rq396_3, rq40_9, rq40_6, mu2, mu1700, mu1701, mu167, mv10, mv51, mv4, mv8, ad1, ad100, ad60, ad5, ad8, ad12, ad16, ad24, ad32, ad40, ad48, nI_add, nI_1, ap2, ap3, ap4, ap5, ap6, g_inN, nI_clamp, gq_l_e, gq_b_s, g_bb0, g_bb1, gi0_56, gi3_56, gi4_56, gi7_56, gi7_24, cl0, cl3, cl4, cl7, y1, f_L_isTold_1578]
end

