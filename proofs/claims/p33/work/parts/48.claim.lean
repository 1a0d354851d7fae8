/-! pure: claim, settle, press -/
theorem b_isIn {β : Type} {N : Nat} {a x y : Int32} {M : gq_M} {F : Int32 → gq_M → Option β} : gq_b (f_X10_isIn N a x y M) F = F (bI (x ≤ a ∧ a ≤ y)) M := by rw [r_isIn]; rfl
theorem b_isEight {β : Type} {N : Nat} {a : Int32} {M : gq_M} {F : Int32 → gq_M → Option β} : gq_b (f_X10_isEight N a M) F = F (bI (0 ≤ a ∧ a ≤ 7)) M := by rw [r_isEight]; rfl
theorem b_isKind {β : Type} {N : Nat} {a : Int32} {M : gq_M} {F : Int32 → gq_M → Option β} : gq_b (f_X10_isKind N a M) F = F (bI (0 ≤ a ∧ a ≤ 3)) M := by rw [r_isKind]; rfl
theorem b_isHall {β : Type} {N : Nat} {a : Int32} {M : gq_M} {F : Int32 → gq_M → Option β} : gq_b (f_X10_isHall N a M) F = F (bI (0 ≤ a ∧ a ≤ 2)) M := by rw [r_isHall]; rfl
theorem b_areCents {β : Type} {N : Nat} {a : Int32} {M : gq_M} {F : Int32 → gq_M → Option β} : gq_b (f_X10_areCents N a M) F = F (bI (1 ≤ a ∧ a ≤ 100000000)) M := by rw [r_areCents]; rfl
theorem b_isBox {β : Type} {N : Nat} {a : Int32} {M : gq_M} {F : Int32 → gq_M → Option β} : gq_b (f_X10_isBox N a M) F = F (bI (0 ≤ a ∧ a ≤ M 0 16 - 1)) M := by rw [r_isBox]; rfl
theorem b_fails {β : Type} {N : Nat} {w : Int32} {M : gq_M} {F : Int32 → gq_M → Option β} : gq_b (f_X10_fails N w M) F = F (bI (0 < w)) (thr M w) := by rw [r_fails]; rfl
theorem b_atN {β : Type} {r n N j : Nat} {M : gq_M} {F : Int32 → gq_M → Option β} (h : j < n) (hn : n < 2 ^ 31) : gq_b (f_X8_at r n N (nI j) M) F = F (M r j) M := by rw [m_atN h hn]; rfl
theorem b_putN {β : Type} {r n N j : Nat} {v : Int32} {M : gq_M} {F : Int32 → gq_M → Option β} (h : j < n) (hn : n < 2 ^ 31) : gq_b (f_X8_put r n N (nI j) v M) F = F 0 (gq_up M r j v) := by rw [m_putN h hn]; rfl
theorem b_addN {β : Type} {r n N j : Nat} {v : Int32} {M : gq_M} {F : Int32 → gq_M → Option β} (h : j < n) (hn : n < 2 ^ 31) : gq_b (f_X8_add r n N (nI j) v M) F = F 0 (gq_up M r j (M r j + v)) := by rw [m_addN h hn]; rfl
theorem b_swapN {β : Type} {r n N j : Nat} {v : Int32} {M : gq_M} {F : Int32 → gq_M → Option β} (h : j < n) (hn : n < 2 ^ 31) : gq_b (f_X8_swap r n N (nI j) v M) F = F (M r j) (gq_up M r j v) := by rw [m_swapN h hn]; rfl
theorem eqR_upv {n j : Nat} {f g : Nat → Int32} {v w : Int32} (h : eqR n f g) (hv : v = w) : eqR n (upd f j v) (upd g j w) := hv ▸ eqR_up h
def dC (K L P : Int32) : Int32 := if (K - L) * 100 ≤ 3 * K then 0 else (K - L) * P
theorem dC_b {K L P : Int32} (hK : rng 1 100 K) (hL : rng 1 100 L) (hP : rng 1 10000 P) : 0 ≤ (dC K L P).toInt ∧ (dC K L P).toInt ≤ 1000000 := by
  obtain ⟨k, k1, k2, rfl⟩ := hK
  obtain ⟨l, l1, l2, rfl⟩ := hL
  obtain ⟨p, p1, p2, rfl⟩ := hP
  unfold dC
  split
  · exact ⟨by decide, by decide⟩
  · rename_i hc
    by_cases hlk : l ≤ k
    · rw [nI_sub hlk, nI_mul]
      have hm : (k - l) * p ≤ 99 * 10000 := Nat.mul_le_mul (by omega) p2
      rw [nI_toInt (by omega)]
      omega
    · exfalso
      apply hc
      have t1 := nI_toInt (n := k) (by omega)
      have t2 := nI_toInt (n := l) (by omega)
      have t3 : (100 : Int32).toInt = 100 := rfl
      have t4 : (3 : Int32).toInt = 3 := rfl
      have t5 : (nI k - nI l).toInt = k - l := by rw [ti_sub (by omega) (by omega), t1, t2]
      rw [Int32.le_iff_toInt_le, ti_mul (by rw [t5, t3]; omega) (by rw [t5, t3]; omega), ti_mul (by rw [t1, t4]; omega) (by rw [t1, t4]; omega), t5, t3, t4, t1]
      omega
theorem ti_neg {a : Int32} (h1 : -2147483648 ≤ -a.toInt) (h2 : -a.toInt < 2147483648) : (-a).toInt = -a.toInt := by rw [Int32.toInt_neg, bm_id h1 h2]

set_option maxHeartbeats 1000000 in
theorem c_claim {N : Nat} {a1 a2 : Int32} {C R : gq_M} (hN : 600 ≤ N) (H : INV C R) : OUT kE (f_X9_claim N a1 a2 C) (f_X10_claim N a1 a2 R) := by
  have H0 := H
  obtain ⟨nb, nl, nr, tn, hnb, hnl, hnr, htn, hda, hop, hdr, hqu, hai, hid, hac, hlk, hla, hwt, hks, hkm, hkh, hbg, hbd, hbo, hbl, hbb, hst, hpw, hxb, hxk, hxr, hxs, hxf, hxl, hxc, hxi, hxp, hsu, hmo, hsb, hlo, hlb, hlf, hlh, hld, hsg, hlr, hcl, hhl⟩ := H0
  have hb150 := hnb.2.2
  have hl150 := hnl.2.2
  have hr20 := hnr.2.2
  have ht5 := htn.2.2
  by_cases h1 : vp_in a1 8
  · skip
    by_cases h2 : vp_in a2 nb
    · skip
      obtain ⟨i, hi, rfl⟩ := vp_in_of h1 (by omega)
      obtain ⟨j, hj, rfl⟩ := vp_in_of h2 (by omega)
      have x1 := hxp.1 j hj
      have xb := x1.1
      have hic := hxi.1 j hj
      by_cases c1 : R 21 j = nI i
      · by_cases c2 : R 25 j = 0
        · obtain ⟨-, xp, ⟨q, -⟩ | ⟨-, hP, q3, ⟨t, -, ht, q4⟩, -⟩⟩ := x1
          · exact absurd (c1.symm.trans q) (nI_m1 (by omega))
          · have q1 : ((240 : Int32) < nI tn - nI t) = ¬ tn ≤ t + 240 := by
              rw [show (240 : Int32) = nI 240 from rfl, nI_sub ht]
              exact propext ((nI_ltI (by omega) (by omega)).trans (by omega))
            have q2 : (nI tn ≤ nI t + 240) = (tn ≤ t + 240) := by
              rw [show (240 : Int32) = nI 240 from rfl, nI_add]
              exact propext (nI_leI (by omega) (by omega))
            by_cases c3 : tn ≤ t + 240
            · obtain ⟨g, -, hg, hbj⟩ := hxb.2 j hj
              have hd := dC_b (hxk.2 j hj) (hxr.2 j hj) hP
              have hm : K_mon nb (upd (R 5) g (R 5 g - dC (R 17 j) (R 18 j) (R 22 j))) (R 19) (upd (R 25) j 1) := by
                rw [Int32.sub_eq_add_neg]
                have hcn := cnt_upd (f := R 25) (v := 1) (fun v => decide (v = 1)) hj
                rw [c2] at hcn
                simp only [f01b, decide_true, decide_false, Bool.false_eq_true, reduceIte] at hcn
                exact mon_upd (s := 0) (c := 1) hmo hb150 (Nat.le_refl _) (by omega) (by rw [ti_neg (by omega) (by omega)]; omega) (by rw [ti_neg (by omega) (by omega)]; omega)
              have hi2 : eqR nb (upd (C 58) j 1) (upd (R 25) j 1) ∧ bits 150 (upd (R 25) j 1) ∧ ∀ b, nb ≤ b → b < 150 → upd (C 58) j 1 b = 0 ∧ upd (R 25) j 1 b = 0 := ⟨eqR_up hxi.1, bits_up hxi.2.1 (Or.inr rfl), fun b g1 g2 => by
                rw [upd_n (by omega), upd_n (by omega)]
                exact hxi.2.2 b g1 g2⟩
              unfold dC at hm
              by_cases c4 : (R 17 j - R 18 j) * 100 ≤ 3 * R 17 j
              · rw [if_pos c4] at hm
                simp (disch := omega) only [f_X9_claim_81, f_X9_claim_51, f_X9_claim_50, f_X9_claim, f_X10_claim_130, f_X10_claim_71, f_X10_claim_66, f_X10_claim_20, f_X10_claim_19, f_X10_claim, f_X1_centsLacking_49, f_X1_centsLacking, ↓m_exist, ↓m_beIn, ↓m_hold, e8a, e8b, e4a, e4b, e3a, e3b, ↓b_isEight, ↓b_isKind, ↓b_isHall, ↓b_areCents, ↓b_isBox, ↓b_isIn, ↓b_fails, ↓gq_b_s, ↓gq_l_e, ↓b_atN, ↓b_putN, ↓b_addN, ↓b_swapN, ↓g_inN, b_atN, b_putN, b_addN, b_swapN, g_inN, ↓g_bb0, ↓g_bb1, ↓g_bbI, bI_z, Classical.not_not, ↓reduceIte, not_true_eq_false, not_false_eq_true, f01, f02, f03, f00, ite_not, ite_self, and_self, nI_clamp, pl4, pl4b, pl8, pl8b, thr_r, thr_s, xb, hic, eq_true c1, c2, c3, c4, q1, q2, q3, q4, xp, htn.1, htn.2.1, hxk.1 j hj, hxr.1 j hj, hxb.1 j hj, hbj, hbo i hi, hac g (by omega), up_ne, ne_eq, Nat.reduceEqDiff, f10, h1, h2, hnb.1, hnb.2.1, ena, enb]
                exact out_v rfl rfl ⟨nb, nl, nr, tn, hnb, hnl, hnr, htn, hda, hop, hdr, hqu, hai, hid, (eqR_upv hac (Int32.sub_eq_add_neg _ _).symm), hlk, hla, hwt, hks, hkm, hkh, hbg, hbd, (eqR_upv hbo (Int32.sub_eq_add_neg _ _).symm), hbl, hbb, hst, hpw, hxb, hxk, hxr, hxs, hxf, hxl, hxc, hi2, hxp, hsu, hm, hsb, hlo, hlb, hlf, hlh, hld, hsg, hlr, hcl, hhl⟩
              · rw [if_neg c4] at hm
                simp (disch := omega) only [f_X9_claim_81, f_X9_claim_51, f_X9_claim_50, f_X9_claim, f_X10_claim_130, f_X10_claim_71, f_X10_claim_66, f_X10_claim_20, f_X10_claim_19, f_X10_claim, f_X1_centsLacking_49, f_X1_centsLacking, ↓m_exist, ↓m_beIn, ↓m_hold, e8a, e8b, e4a, e4b, e3a, e3b, ↓b_isEight, ↓b_isKind, ↓b_isHall, ↓b_areCents, ↓b_isBox, ↓b_isIn, ↓b_fails, ↓gq_b_s, ↓gq_l_e, ↓b_atN, ↓b_putN, ↓b_addN, ↓b_swapN, ↓g_inN, b_atN, b_putN, b_addN, b_swapN, g_inN, ↓g_bb0, ↓g_bb1, ↓g_bbI, bI_z, Classical.not_not, ↓reduceIte, not_true_eq_false, not_false_eq_true, f01, f02, f03, f00, ite_not, ite_self, and_self, nI_clamp, pl4, pl4b, pl8, pl8b, thr_r, thr_s, xb, hic, eq_true c1, c2, c3, c4, q1, q2, q3, q4, xp, htn.1, htn.2.1, hxk.1 j hj, hxr.1 j hj, hxb.1 j hj, hbj, hbo i hi, hac g (by omega), up_ne, ne_eq, Nat.reduceEqDiff, f10, h1, h2, hnb.1, hnb.2.1, ena, enb]
                exact out_v rfl rfl ⟨nb, nl, nr, tn, hnb, hnl, hnr, htn, hda, hop, hdr, hqu, hai, hid, (eqR_upv hac (Int32.sub_eq_add_neg _ _).symm), hlk, hla, hwt, hks, hkm, hkh, hbg, hbd, (eqR_upv hbo (Int32.sub_eq_add_neg _ _).symm), hbl, hbb, hst, hpw, hxb, hxk, hxr, hxs, hxf, hxl, hxc, hi2, hxp, hsu, hm, hsb, hlo, hlb, hlf, hlh, hld, hsg, hlr, hcl, hhl⟩
            · skip
              simp (disch := omega) only [f_X9_claim_81, f_X9_claim_51, f_X9_claim_50, f_X9_claim, f_X10_claim_130, f_X10_claim_71, f_X10_claim_66, f_X10_claim_20, f_X10_claim_19, f_X10_claim, f_X1_centsLacking_49, f_X1_centsLacking, ↓m_exist, ↓m_beIn, ↓m_hold, e8a, e8b, e4a, e4b, e3a, e3b, ↓b_isEight, ↓b_isKind, ↓b_isHall, ↓b_areCents, ↓b_isBox, ↓b_isIn, ↓b_fails, ↓gq_b_s, ↓gq_l_e, ↓b_atN, ↓b_putN, ↓b_addN, ↓b_swapN, ↓g_inN, b_atN, b_putN, b_addN, b_swapN, g_inN, ↓g_bb0, ↓g_bb1, ↓g_bbI, bI_z, Classical.not_not, ↓reduceIte, not_true_eq_false, not_false_eq_true, f01, f02, f03, f00, ite_not, ite_self, and_self, nI_clamp, pl4, pl4b, pl8, pl8b, thr_r, thr_s, xb, hic, h1, h2, hnb.1, hnb.2.1, ena, enb, c1, c2, c3, q1, q2, q3, q4, htn.1, htn.2.1, f10]
              exact out_t H rfl
        · skip
          simp (disch := omega) only [f_X9_claim_81, f_X9_claim_51, f_X9_claim_50, f_X9_claim, f_X10_claim_130, f_X10_claim_71, f_X10_claim_66, f_X10_claim_20, f_X10_claim_19, f_X10_claim, f_X1_centsLacking_49, f_X1_centsLacking, ↓m_exist, ↓m_beIn, ↓m_hold, e8a, e8b, e4a, e4b, e3a, e3b, ↓b_isEight, ↓b_isKind, ↓b_isHall, ↓b_areCents, ↓b_isBox, ↓b_isIn, ↓b_fails, ↓gq_b_s, ↓gq_l_e, ↓b_atN, ↓b_putN, ↓b_addN, ↓b_swapN, ↓g_inN, b_atN, b_putN, b_addN, b_swapN, g_inN, ↓g_bb0, ↓g_bb1, ↓g_bbI, bI_z, Classical.not_not, ↓reduceIte, not_true_eq_false, not_false_eq_true, f01, f02, f03, f00, ite_not, ite_self, and_self, nI_clamp, pl4, pl4b, pl8, pl8b, thr_r, thr_s, xb, hic, h1, h2, hnb.1, hnb.2.1, ena, enb, c1, c2]
          exact out_t H rfl
      · skip
        simp (disch := omega) only [f_X9_claim_81, f_X9_claim_51, f_X9_claim_50, f_X9_claim, f_X10_claim_130, f_X10_claim_71, f_X10_claim_66, f_X10_claim_20, f_X10_claim_19, f_X10_claim, f_X1_centsLacking_49, f_X1_centsLacking, ↓m_exist, ↓m_beIn, ↓m_hold, e8a, e8b, e4a, e4b, e3a, e3b, ↓b_isEight, ↓b_isKind, ↓b_isHall, ↓b_areCents, ↓b_isBox, ↓b_isIn, ↓b_fails, ↓gq_b_s, ↓gq_l_e, ↓b_atN, ↓b_putN, ↓b_addN, ↓b_swapN, ↓g_inN, b_atN, b_putN, b_addN, b_swapN, g_inN, ↓g_bb0, ↓g_bb1, ↓g_bbI, bI_z, Classical.not_not, ↓reduceIte, not_true_eq_false, not_false_eq_true, f01, f02, f03, f00, ite_not, ite_self, and_self, nI_clamp, pl4, pl4b, pl8, pl8b, thr_r, thr_s, xb, hic, h1, h2, hnb.1, hnb.2.1, ena, enb, c1]
        exact out_t H rfl
    · simp (disch := omega) only [f_X9_claim_81, f_X9_claim_51, f_X9_claim_50, f_X9_claim, f_X10_claim_130, f_X10_claim_71, f_X10_claim_66, f_X10_claim_20, f_X10_claim_19, f_X10_claim, ↓m_exist, ↓m_beIn, ↓m_hold, e8a, e8b, e4a, e4b, e3a, e3b, ↓b_isEight, ↓b_isKind, ↓b_isHall, ↓b_areCents, ↓b_isBox, ↓b_isIn, ↓b_fails, ↓gq_b_s, ↓gq_l_e, ↓b_atN, ↓b_putN, ↓b_addN, ↓b_swapN, ↓g_inN, b_atN, b_putN, b_addN, b_swapN, g_inN, ↓g_bb0, ↓g_bb1, ↓g_bbI, bI_z, Classical.not_not, ↓reduceIte, not_true_eq_false, not_false_eq_true, f01, f02, f03, f00, ite_not, ite_self, and_self, nI_clamp, pl4, pl4b, pl8, pl8b, thr_r, thr_s, h1, h2, hnb.1, hnb.2.1, ena, enb]
      exact out_t H rfl
  · simp (disch := omega) only [f_X9_claim_81, f_X9_claim_51, f_X9_claim_50, f_X9_claim, f_X10_claim_130, f_X10_claim_71, f_X10_claim_66, f_X10_claim_20, f_X10_claim_19, f_X10_claim, ↓m_exist, ↓m_beIn, ↓m_hold, e8a, e8b, e4a, e4b, e3a, e3b, ↓b_isEight, ↓b_isKind, ↓b_isHall, ↓b_areCents, ↓b_isBox, ↓b_isIn, ↓b_fails, ↓gq_b_s, ↓gq_l_e, ↓b_atN, ↓b_putN, ↓b_addN, ↓b_swapN, ↓g_inN, b_atN, b_putN, b_addN, b_swapN, g_inN, ↓g_bb0, ↓g_bb1, ↓g_bbI, bI_z, Classical.not_not, ↓reduceIte, not_true_eq_false, not_false_eq_true, f01, f02, f03, f00, ite_not, ite_self, and_self, nI_clamp, pl4, pl4b, pl8, pl8b, thr_r, thr_s, h1, hnb.1, hnb.2.1, ena, enb]
    exact out_t H rfl
