/-! claim -/
section
variable {N nb nl nr tn dn : Nat} {M R : gq_M}
def lss (R : gq_M) (b : Nat) : Int32 := if (R 17 b - R 18 b) * 100 ≤ 3 * R 17 b then 0 else (R 17 b - R 18 b) * R 22 b
def SY (nb : Nat) (M : gq_M) : Prop := ∀ b, b < nb → M 110 b / 16384 = M 113 b - M 113 b / 131072 * 131072
theorem e_claim {bo bx g : Nat} (hbo : bo < 2 ^ 31) (hb : bx < 2 ^ 31) (hn : R 0 16 = nI nb) (hb40 : nb ≤ 40) (hg : bx < nb → R 13 bx = nI g) (hg8 : g < 8) : f_X10_claim N (nI bo) (nI bx) R = if bo < 8 ∧ bx < nb then (if (R 21 bx = nI bo ∧ R 25 bx = 0) ∧ R 0 0 ≤ R 23 bx + 240 then some (lss R bx, gq_up (gq_up (gq_up (thr R 0) 25 bx 1) 11 bo (R 11 bo - lss R bx)) 5 g (R 5 g - lss R bx)) else some (0, thr R 2)) else some (0, thr R 1) := by
  by_cases c1 : bo < 8
  · have k1 : vp_in (nI bo) 8 := vpY c1 (by omega)
    by_cases c2 : bx < nb
    · have k2 : 0 ≤ nI bx ∧ nI bx ≤ nI nb - 1 := by rw [enb (by omega)]; exact vpY c2 (by omega)
      rw [if_pos ⟨c1, c2⟩]
      by_cases q1 : R 21 bx = nI bo
      · by_cases q2 : R 25 bx = 0
        · by_cases q3 : R 0 0 ≤ R 23 bx + 240
          · rw [if_pos ⟨⟨q1, q2⟩, q3⟩]
            unfold lss
            have e1 := hg c2
            by_cases q4 : (R 17 bx - R 18 bx) * 100 ≤ 3 * R 17 bx
            · simp (maxSteps := 400000) (disch := omega) only [f_X10_claim, r_isEight, r_isKind, r_isHall, r_areCents, r_isBox, r_isIn, r_fails, gq_b_s, gq_l_e, bI_z, Classical.not_not, reduceIte, not_true_eq_false, not_false_eq_true, f01, f02, f03, f00, f10, f01b, ite_not, ite_self, and_self, e8a, e8b, e4a, e4b, e3a, e3b, g_inN, g_bb0, g_bb1, g_bbI, nI_clamp, pl4, pl4b, pl8, pl8b, thr_r, thr_s, k1, k2, q1, q2, q3, q4, e1, up_no, up_same, hn]
              simp (maxSteps := 400000) (disch := omega) only [f_X10_claim_20, f_X10_claim_19, r_isEight, r_isKind, r_isHall, r_areCents, r_isBox, r_isIn, r_fails, gq_b_s, gq_l_e, bI_z, Classical.not_not, reduceIte, not_true_eq_false, not_false_eq_true, f01, f02, f03, f00, f10, f01b, ite_not, ite_self, and_self, e8a, e8b, e4a, e4b, e3a, e3b, g_inN, g_bb0, g_bb1, g_bbI, nI_clamp, pl4, pl4b, pl8, pl8b, thr_r, thr_s, k1, k2, q1, q2, q3, q4, e1, up_no, up_same, hn]
              simp (maxSteps := 400000) (disch := omega) only [f_X10_claim_71, f_X10_claim_66, r_isEight, r_isKind, r_isHall, r_areCents, r_isBox, r_isIn, r_fails, gq_b_s, gq_l_e, bI_z, Classical.not_not, reduceIte, not_true_eq_false, not_false_eq_true, f01, f02, f03, f00, f10, f01b, ite_not, ite_self, and_self, e8a, e8b, e4a, e4b, e3a, e3b, g_inN, g_bb0, g_bb1, g_bbI, nI_clamp, pl4, pl4b, pl8, pl8b, thr_r, thr_s, k1, k2, q1, q2, q3, q4, e1, up_no, up_same, hn]
              simp (maxSteps := 400000) (disch := omega) only [f_X10_claim_130, r_isEight, r_isKind, r_isHall, r_areCents, r_isBox, r_isIn, r_fails, gq_b_s, gq_l_e, bI_z, Classical.not_not, reduceIte, not_true_eq_false, not_false_eq_true, f01, f02, f03, f00, f10, f01b, ite_not, ite_self, and_self, e8a, e8b, e4a, e4b, e3a, e3b, g_inN, g_bb0, g_bb1, g_bbI, nI_clamp, pl4, pl4b, pl8, pl8b, thr_r, thr_s, k1, k2, q1, q2, q3, q4, e1, up_no, up_same, hn]
            · simp (maxSteps := 400000) (disch := omega) only [f_X10_claim, r_isEight, r_isKind, r_isHall, r_areCents, r_isBox, r_isIn, r_fails, gq_b_s, gq_l_e, bI_z, Classical.not_not, reduceIte, not_true_eq_false, not_false_eq_true, f01, f02, f03, f00, f10, f01b, ite_not, ite_self, and_self, e8a, e8b, e4a, e4b, e3a, e3b, g_inN, g_bb0, g_bb1, g_bbI, nI_clamp, pl4, pl4b, pl8, pl8b, thr_r, thr_s, k1, k2, q1, q2, q3, q4, e1, up_no, up_same, hn]
              simp (maxSteps := 400000) (disch := omega) only [f_X10_claim_20, f_X10_claim_19, r_isEight, r_isKind, r_isHall, r_areCents, r_isBox, r_isIn, r_fails, gq_b_s, gq_l_e, bI_z, Classical.not_not, reduceIte, not_true_eq_false, not_false_eq_true, f01, f02, f03, f00, f10, f01b, ite_not, ite_self, and_self, e8a, e8b, e4a, e4b, e3a, e3b, g_inN, g_bb0, g_bb1, g_bbI, nI_clamp, pl4, pl4b, pl8, pl8b, thr_r, thr_s, k1, k2, q1, q2, q3, q4, e1, up_no, up_same, hn]
              simp (maxSteps := 400000) (disch := omega) only [f_X10_claim_71, f_X10_claim_66, r_isEight, r_isKind, r_isHall, r_areCents, r_isBox, r_isIn, r_fails, gq_b_s, gq_l_e, bI_z, Classical.not_not, reduceIte, not_true_eq_false, not_false_eq_true, f01, f02, f03, f00, f10, f01b, ite_not, ite_self, and_self, e8a, e8b, e4a, e4b, e3a, e3b, g_inN, g_bb0, g_bb1, g_bbI, nI_clamp, pl4, pl4b, pl8, pl8b, thr_r, thr_s, k1, k2, q1, q2, q3, q4, e1, up_no, up_same, hn]
              simp (maxSteps := 400000) (disch := omega) only [f_X10_claim_130, r_isEight, r_isKind, r_isHall, r_areCents, r_isBox, r_isIn, r_fails, gq_b_s, gq_l_e, bI_z, Classical.not_not, reduceIte, not_true_eq_false, not_false_eq_true, f01, f02, f03, f00, f10, f01b, ite_not, ite_self, and_self, e8a, e8b, e4a, e4b, e3a, e3b, g_inN, g_bb0, g_bb1, g_bbI, nI_clamp, pl4, pl4b, pl8, pl8b, thr_r, thr_s, k1, k2, q1, q2, q3, q4, e1, up_no, up_same, hn]
          · rw [if_neg (fun z => q3 z.2)]
            simp (maxSteps := 400000) (disch := omega) only [f_X10_claim, r_isEight, r_isKind, r_isHall, r_areCents, r_isBox, r_isIn, r_fails, gq_b_s, gq_l_e, bI_z, Classical.not_not, reduceIte, not_true_eq_false, not_false_eq_true, f01, f02, f03, f00, f10, f01b, ite_not, ite_self, and_self, e8a, e8b, e4a, e4b, e3a, e3b, g_inN, g_bb0, g_bb1, g_bbI, nI_clamp, pl4, pl4b, pl8, pl8b, thr_r, thr_s, k1, k2, q1, q2, q3, up_no, up_same, hn]
            simp (maxSteps := 400000) (disch := omega) only [f_X10_claim_20, f_X10_claim_19, r_isEight, r_isKind, r_isHall, r_areCents, r_isBox, r_isIn, r_fails, gq_b_s, gq_l_e, bI_z, Classical.not_not, reduceIte, not_true_eq_false, not_false_eq_true, f01, f02, f03, f00, f10, f01b, ite_not, ite_self, and_self, e8a, e8b, e4a, e4b, e3a, e3b, g_inN, g_bb0, g_bb1, g_bbI, nI_clamp, pl4, pl4b, pl8, pl8b, thr_r, thr_s, k1, k2, q1, q2, q3, up_no, up_same, hn]
            simp (maxSteps := 400000) (disch := omega) only [f_X10_claim_71, f_X10_claim_66, r_isEight, r_isKind, r_isHall, r_areCents, r_isBox, r_isIn, r_fails, gq_b_s, gq_l_e, bI_z, Classical.not_not, reduceIte, not_true_eq_false, not_false_eq_true, f01, f02, f03, f00, f10, f01b, ite_not, ite_self, and_self, e8a, e8b, e4a, e4b, e3a, e3b, g_inN, g_bb0, g_bb1, g_bbI, nI_clamp, pl4, pl4b, pl8, pl8b, thr_r, thr_s, k1, k2, q1, q2, q3, up_no, up_same, hn]
        · rw [if_neg (fun z => q2 z.1.2)]
          simp (maxSteps := 400000) (disch := omega) only [f_X10_claim, r_isEight, r_isKind, r_isHall, r_areCents, r_isBox, r_isIn, r_fails, gq_b_s, gq_l_e, bI_z, Classical.not_not, reduceIte, not_true_eq_false, not_false_eq_true, f01, f02, f03, f00, f10, f01b, ite_not, ite_self, and_self, e8a, e8b, e4a, e4b, e3a, e3b, g_inN, g_bb0, g_bb1, g_bbI, nI_clamp, pl4, pl4b, pl8, pl8b, thr_r, thr_s, k1, k2, q1, q2, up_no, up_same, hn]
          simp (maxSteps := 400000) (disch := omega) only [f_X10_claim_20, f_X10_claim_19, r_isEight, r_isKind, r_isHall, r_areCents, r_isBox, r_isIn, r_fails, gq_b_s, gq_l_e, bI_z, Classical.not_not, reduceIte, not_true_eq_false, not_false_eq_true, f01, f02, f03, f00, f10, f01b, ite_not, ite_self, and_self, e8a, e8b, e4a, e4b, e3a, e3b, g_inN, g_bb0, g_bb1, g_bbI, nI_clamp, pl4, pl4b, pl8, pl8b, thr_r, thr_s, k1, k2, q1, q2, up_no, up_same, hn]
          simp (maxSteps := 400000) (disch := omega) only [f_X10_claim_71, f_X10_claim_66, r_isEight, r_isKind, r_isHall, r_areCents, r_isBox, r_isIn, r_fails, gq_b_s, gq_l_e, bI_z, Classical.not_not, reduceIte, not_true_eq_false, not_false_eq_true, f01, f02, f03, f00, f10, f01b, ite_not, ite_self, and_self, e8a, e8b, e4a, e4b, e3a, e3b, g_inN, g_bb0, g_bb1, g_bbI, nI_clamp, pl4, pl4b, pl8, pl8b, thr_r, thr_s, k1, k2, q1, q2, up_no, up_same, hn]
      · rw [if_neg (fun z => q1 z.1.1)]
        simp (maxSteps := 400000) (disch := omega) only [f_X10_claim, r_isEight, r_isKind, r_isHall, r_areCents, r_isBox, r_isIn, r_fails, gq_b_s, gq_l_e, bI_z, Classical.not_not, reduceIte, not_true_eq_false, not_false_eq_true, f01, f02, f03, f00, f10, f01b, ite_not, ite_self, and_self, e8a, e8b, e4a, e4b, e3a, e3b, g_inN, g_bb0, g_bb1, g_bbI, nI_clamp, pl4, pl4b, pl8, pl8b, thr_r, thr_s, k1, k2, q1, up_no, up_same, hn]
        simp (maxSteps := 400000) (disch := omega) only [f_X10_claim_20, f_X10_claim_19, r_isEight, r_isKind, r_isHall, r_areCents, r_isBox, r_isIn, r_fails, gq_b_s, gq_l_e, bI_z, Classical.not_not, reduceIte, not_true_eq_false, not_false_eq_true, f01, f02, f03, f00, f10, f01b, ite_not, ite_self, and_self, e8a, e8b, e4a, e4b, e3a, e3b, g_inN, g_bb0, g_bb1, g_bbI, nI_clamp, pl4, pl4b, pl8, pl8b, thr_r, thr_s, k1, k2, q1, up_no, up_same, hn]
        simp (maxSteps := 400000) (disch := omega) only [f_X10_claim_71, f_X10_claim_66, r_isEight, r_isKind, r_isHall, r_areCents, r_isBox, r_isIn, r_fails, gq_b_s, gq_l_e, bI_z, Classical.not_not, reduceIte, not_true_eq_false, not_false_eq_true, f01, f02, f03, f00, f10, f01b, ite_not, ite_self, and_self, e8a, e8b, e4a, e4b, e3a, e3b, g_inN, g_bb0, g_bb1, g_bbI, nI_clamp, pl4, pl4b, pl8, pl8b, thr_r, thr_s, k1, k2, q1, up_no, up_same, hn]
    · have k2 : ¬ (0 ≤ nI bx ∧ nI bx ≤ nI nb - 1) := by rw [enb (by omega)]; exact vpN c2 (by omega) (by omega)
      rw [if_neg (fun z => c2 z.2)]
      simp (maxSteps := 400000) (disch := omega) only [f_X10_claim, r_isEight, r_isKind, r_isHall, r_areCents, r_isBox, r_isIn, r_fails, gq_b_s, gq_l_e, bI_z, Classical.not_not, reduceIte, not_true_eq_false, not_false_eq_true, f01, f02, f03, f00, f10, f01b, ite_not, ite_self, and_self, e8a, e8b, e4a, e4b, e3a, e3b, g_inN, g_bb0, g_bb1, g_bbI, nI_clamp, pl4, pl4b, pl8, pl8b, thr_r, thr_s, k1, k2, up_no, up_same, hn]
      simp (maxSteps := 400000) (disch := omega) only [f_X10_claim_20, f_X10_claim_19, r_isEight, r_isKind, r_isHall, r_areCents, r_isBox, r_isIn, r_fails, gq_b_s, gq_l_e, bI_z, Classical.not_not, reduceIte, not_true_eq_false, not_false_eq_true, f01, f02, f03, f00, f10, f01b, ite_not, ite_self, and_self, e8a, e8b, e4a, e4b, e3a, e3b, g_inN, g_bb0, g_bb1, g_bbI, nI_clamp, pl4, pl4b, pl8, pl8b, thr_r, thr_s, k1, k2, up_no, up_same, hn]
      simp (maxSteps := 400000) (disch := omega) only [f_X10_claim_71, f_X10_claim_66, r_isEight, r_isKind, r_isHall, r_areCents, r_isBox, r_isIn, r_fails, gq_b_s, gq_l_e, bI_z, Classical.not_not, reduceIte, not_true_eq_false, not_false_eq_true, f01, f02, f03, f00, f10, f01b, ite_not, ite_self, and_self, e8a, e8b, e4a, e4b, e3a, e3b, g_inN, g_bb0, g_bb1, g_bbI, nI_clamp, pl4, pl4b, pl8, pl8b, thr_r, thr_s, k1, k2, up_no, up_same, hn]
  · have k1 : ¬ vp_in (nI bo) 8 := vpN c1 (by omega) (by omega)
    rw [if_neg (fun z => c1 z.1)]
    simp (maxSteps := 400000) (disch := omega) only [f_X10_claim, r_isEight, r_isKind, r_isHall, r_areCents, r_isBox, r_isIn, r_fails, gq_b_s, gq_l_e, bI_z, Classical.not_not, reduceIte, not_true_eq_false, not_false_eq_true, f01, f02, f03, f00, f10, f01b, ite_not, ite_self, and_self, e8a, e8b, e4a, e4b, e3a, e3b, g_inN, g_bb0, g_bb1, g_bbI, nI_clamp, pl4, pl4b, pl8, pl8b, thr_r, thr_s, k1, up_no, up_same, hn]
    simp (maxSteps := 400000) (disch := omega) only [f_X10_claim_20, f_X10_claim_19, r_isEight, r_isKind, r_isHall, r_areCents, r_isBox, r_isIn, r_fails, gq_b_s, gq_l_e, bI_z, Classical.not_not, reduceIte, not_true_eq_false, not_false_eq_true, f01, f02, f03, f00, f10, f01b, ite_not, ite_self, and_self, e8a, e8b, e4a, e4b, e3a, e3b, g_inN, g_bb0, g_bb1, g_bbI, nI_clamp, pl4, pl4b, pl8, pl8b, thr_r, thr_s, k1, up_no, up_same, hn]
    simp (maxSteps := 400000) (disch := omega) only [f_X10_claim_71, f_X10_claim_66, r_isEight, r_isKind, r_isHall, r_areCents, r_isBox, r_isIn, r_fails, gq_b_s, gq_l_e, bI_z, Classical.not_not, reduceIte, not_true_eq_false, not_false_eq_true, f01, f02, f03, f00, f10, f01b, ite_not, ite_self, and_self, e8a, e8b, e4a, e4b, e3a, e3b, g_inN, g_bb0, g_bb1, g_bbI, nI_clamp, pl4, pl4b, pl8, pl8b, thr_r, thr_s, k1, up_no, up_same, hn]
theorem t_claim {bo bx : Nat} (hN : 600 ≤ N) (H : PK T0 nb nl nr tn dn M R) (I : INV M R) (hs : SY nb M) (hbo : bo < 9) (hb : bx < 2 ^ 31) : ∃ M2 R2, f_L_isTold_1307 N (nI bo) (nI bx) (bI (bo < 8 ∧ bx < nb)) M = some (1, M2) ∧ INV M2 R2 ∧ PK T0 nb nl nr tn dn M2 R2 := by
  have H9 := pk_thr (w := 0) H
  have hnb := pq_nb H
  have hb40 := hnb.2.2
  have hbx := pq_bx H
  by_cases c1 : bo < 8 ∧ bx < nb
  · obtain ⟨c2, c3⟩ := c1
    have hB := hbx bx c3
    have hd := (BX_d hB).1
    have ha := BX_a hB
    have he := BX_e hB
    have hc5 := hs bx c3
    obtain ⟨g, ki, si, fr, st, wc, cl, kl, re, so, h1, h2, h3, h4, h5, h6⟩ := hB
    have hr := e_claim (N := N) (R := R) (nb := nb) (bo := bo) (bx := bx) (g := g) (by omega) (by omega) hnb.2.1 hb40 (fun _ => h2.1) (by omega)
    rw [if_pos ⟨c2, c3⟩] at hr
    have k1 : (M 112 bx - M 112 bx / 16 * 16 = nI bo + 1) = (R 21 bx = nI bo) := propext ⟨fun h => by rw [← hd, h, Int32.add_sub_cancel], fun h => by rw [← h, ← hd, Int32.sub_add_cancel]⟩
    rw [nI_1] at k1
    have k2 := ha.2.2.2.2.2.2
    by_cases q1 : R 21 bx = nI bo
    · rcases h6 with ⟨w1, -⟩ | ⟨w, p, t, d, b1, b2, b3, b4, b5, w1, w2, w3, w4, w5, w6⟩
      · rw [w1] at q1
        exact absurd q1.symm (nI_m1 (by omega))
      · have ec : R 25 bx = nI cl := h2.2.2.2.2.2.2.1
        have k3 : M 110 bx / 16384 = R 23 bx := by
          rw [hc5, w6, w3]
          exact (rd1 (b := 131072) (by omega) (by omega)).trans (congrArg nI (by omega))
        have k4 : M 112 bx / 16 = R 22 bx := by
          rw [w5, w2]
          exact (nI_div (b := 16) (by omega) (by omega)).trans (congrArg nI (by omega))
        have k1b := k1
        rw [k4] at k1b
        have ht0 : M 119 0 = R 0 0 := by
          obtain ⟨hnb, hnl, hnr, htn, hdn, hop, hdr, hkd, hby, hqu, hbt, hha, hpr, hbx, hbz, hlt, hlo⟩ := H
          exact htn.1.trans htn.2.1.symm
        by_cases q2 : R 25 bx = 0
        · by_cases q3 : R 0 0 ≤ R 23 bx + 240
          · rw [if_pos ⟨⟨q1, q2⟩, q3⟩] at hr
            have q4 : ¬ (R 23 bx + 240 < R 0 0) := Int32.not_lt.mpr q3
            have hcl : cl = 0 := (nI_j (b := 0) (by omega) (by omega)).mp (ec.symm.trans q2)
            subst hcl
            obtain ⟨hnb, hnl, hnr, htn, hdn, hop, hdr, hkd, hby, hqu, hbt, hha, hpr, hbx, hbz, hlt, hlo⟩ := H9
            have hg8 : g < 8 := h1.1
            have l1 : M 109 bx + 32768 = nI (g + 8 * ki + 32 * si + 128 * fr + 2048 * st + 16384 * wc + 32768 * 1) := by
              rw [h3, show (32768 : Int32) = nI 32768 from rfl, nI_add]
            have l2 : (M 109 bx + 32768) - (M 109 bx + 32768) / 8 * 8 = nI g := by
              rw [l1]
              exact (rd1 (b := 8) (by omega) (by omega)).trans (congrArg nI (by omega))
            have o1 := (hby bo c2).2.2.1
            have o2 := (hbt g hg8).2.2.1
            rw [thr_r (by omega)] at o1 o2
            have hL : f_L_isTold_1307 N (nI bo) (nI bx) (bI (bo < 8 ∧ bx < nb)) M = f_L_isTold_1433 N (nI bo) (nI bx) (bI (bo < 8 ∧ bx < nb)) 1 (lss R bx) M := by
              rw [bI_t ⟨c2, c3⟩]
              unfold lss
              by_cases z : (R 17 bx - R 18 bx) * 100 ≤ 3 * R 17 bx
              · have z2 : 100 * (R 17 bx - R 18 bx) ≤ 3 * R 17 bx := by rw [Int32.mul_comm]; exact z
                rw [if_pos z]
                simp (maxSteps := 1000000) (disch := omega) only [f_L_isTold_1307, f_L_isTold_1361, f_L_isTold_1393, f_L_isTold_1432, ↓reduceIte, ite_self, iL8t, iL8f, iL4t, iL4f, iL3t, iL3f, iL100001t, iL100001f, iL10001t, iL10001f, iL501t, iL501f, iL100000001t, iL100000001f, iL10t, iL10f, iL10000001t, iL10000001f, iL101t, iL101f, iL100t, iL100f, iL51t, iL51f, iL9t, iL9f, iL1t, iL1f, iL2t, iL2f, iL7t, iL7f, iL29t, iL29f, iR0t, iR0f, iR100t, iR100f, iR10t, iR10f, iE0t, iE0f, iE1t, iE1f, iE2t, iE2f, iE3t, iE3f, iE4t, iE4f, iE5t, iE5f, iE6t, iE6f, iE7t, iE7f, iE8t, iE8f, iE9t, iE9f, iE10t, iE10f, iE11t, iE11f, iE12t, iE12f, iE13t, iE13f, iBt, iBf, i1_0, i0_0, i0_1, iSt, rm9, rm4, rm100002, rm2, rm5, rm10002, rm200, rm502, rm20, rm30000, rm3, rm4000, rm3000, rm11, rm13, rm40, rm6, rq4_3, rq4_120, rq2_3, rq2_90, rq7_5, rq7_10002, rq7_60, rq5_4, rq9_5, rq45_11, rq45_3, rq9_102, rq4_9, rq36_10, rq36_3, rq11_12, rq132_102, rq11_30, rq396_3, rq40_9, rq40_6, mu2, mu1700, mu1701, mu167, mv10, mv51, mv4, mv8, ad1, ad100, ad60, ad5, ad8, ad12, ad16, ad24, ad32, ad40, ad48, nI_add, nI_1, ap2, ap3, ap4, ap5, ap6, g_inN, nI_clamp, gq_l_e, gq_b_s, g_bb0, g_bb1, gi0_56, gi3_56, gi4_56, gi7_56, gi7_24, cl0, cl3, cl4, cl7, k1b, k2, k3, k4, ht0, he.1, he.2, f_L_sold, q1, q2, q4, z2]
              · have z2 : ¬ 100 * (R 17 bx - R 18 bx) ≤ 3 * R 17 bx := by rw [Int32.mul_comm]; exact z
                rw [if_neg z]
                simp (maxSteps := 1000000) (disch := omega) only [f_L_isTold_1307, f_L_isTold_1361, f_L_isTold_1393, f_L_isTold_1432, ↓reduceIte, ite_self, iL8t, iL8f, iL4t, iL4f, iL3t, iL3f, iL100001t, iL100001f, iL10001t, iL10001f, iL501t, iL501f, iL100000001t, iL100000001f, iL10t, iL10f, iL10000001t, iL10000001f, iL101t, iL101f, iL100t, iL100f, iL51t, iL51f, iL9t, iL9f, iL1t, iL1f, iL2t, iL2f, iL7t, iL7f, iL29t, iL29f, iR0t, iR0f, iR100t, iR100f, iR10t, iR10f, iE0t, iE0f, iE1t, iE1f, iE2t, iE2f, iE3t, iE3f, iE4t, iE4f, iE5t, iE5f, iE6t, iE6f, iE7t, iE7f, iE8t, iE8f, iE9t, iE9f, iE10t, iE10f, iE11t, iE11f, iE12t, iE12f, iE13t, iE13f, iBt, iBf, i1_0, i0_0, i0_1, iSt, rm9, rm4, rm100002, rm2, rm5, rm10002, rm200, rm502, rm20, rm30000, rm3, rm4000, rm3000, rm11, rm13, rm40, rm6, rq4_3, rq4_120, rq2_3, rq2_90, rq7_5, rq7_10002, rq7_60, rq5_4, rq9_5, rq45_11, rq45_3, rq9_102, rq4_9, rq36_10, rq36_3, rq11_12, rq132_102, rq11_30, rq396_3, rq40_9, rq40_6, mu2, mu1700, mu1701, mu167, mv10, mv51, mv4, mv8, ad1, ad100, ad60, ad5, ad8, ad12, ad16, ad24, ad32, ad40, ad48, nI_add, nI_1, ap2, ap3, ap4, ap5, ap6, g_inN, nI_clamp, gq_l_e, gq_b_s, g_bb0, g_bb1, gi0_56, gi3_56, gi4_56, gi7_56, gi7_24, cl0, cl3, cl4, cl7, k1b, k2, k3, k4, ht0, he.1, he.2, f_L_sold, q1, q2, q4, z2]
            obtain ⟨M2, y1, y2, y3⟩ := y_claim (N := N) (M := gq_up (gq_up (gq_up M 109 bx (M 109 bx + 32768)) 119 (40 + bo) (R 11 bo - lss R bx)) 121 (16 + g) (R 5 g - lss R bx)) (hN := hN) (a3 := 0) (a4 := 0) (a5 := 0) (a6 := 0) (x := lss R bx) (inv_up (inv_up (inv_up I (by omega)) (by omega)) (by omega)) hr rfl
            refine ⟨M2, _, hL.trans ?_, y2, pk_mc ?_ y3⟩
            · rw [bI_t ⟨c2, c3⟩]
              simp (maxSteps := 1000000) (disch := omega) only [f_L_isTold_1433, f_L_isTold_1480, f_L_isTold_1516, f_L_isTold_1524, ↓reduceIte, ite_self, iL8t, iL8f, iL4t, iL4f, iL3t, iL3f, iL100001t, iL100001f, iL10001t, iL10001f, iL501t, iL501f, iL100000001t, iL100000001f, iL10t, iL10f, iL10000001t, iL10000001f, iL101t, iL101f, iL100t, iL100f, iL51t, iL51f, iL9t, iL9f, iL1t, iL1f, iL2t, iL2f, iL7t, iL7f, iL29t, iL29f, iR0t, iR0f, iR100t, iR100f, iR10t, iR10f, iE0t, iE0f, iE1t, iE1f, iE2t, iE2f, iE3t, iE3f, iE4t, iE4f, iE5t, iE5f, iE6t, iE6f, iE7t, iE7f, iE8t, iE8f, iE9t, iE9f, iE10t, iE10f, iE11t, iE11f, iE12t, iE12f, iE13t, iE13f, iBt, iBf, i1_0, i0_0, i0_1, iSt, rm9, rm4, rm100002, rm2, rm5, rm10002, rm200, rm502, rm20, rm30000, rm3, rm4000, rm3000, rm11, rm13, rm40, rm6, rq4_3, rq4_120, rq2_3, rq2_90, rq7_5, rq7_10002, rq7_60, rq5_4, rq9_5, rq45_11, rq45_3, rq9_102, rq4_9, rq36_10, rq36_3, rq11_12, rq132_102, rq11_30, rq396_3, rq40_9, rq40_6, mu2, mu1700, mu1701, mu167, mv10, mv51, mv4, mv8, ad1, ad100, ad60, ad5, ad8, ad12, ad16, ad24, ad32, ad40, ad48, nI_add, nI_1, ap2, ap3, ap4, ap5, ap6, g_inN, nI_clamp, gq_l_e, gq_b_s, g_bb0, g_bb1, gi0_56, gi3_56, gi4_56, gi7_56, gi7_24, cl0, cl3, cl4, cl7, y1, up_no, up_same, l2, o1, o2]
            · refine ⟨⟨(by simp (disch := omega) only [up_no]; exact hnb.1), hnb.2⟩, ⟨(by simp (disch := omega) only [up_no]; exact hnl.1), hnl.2⟩, ⟨(by simp (disch := omega) only [up_no]; exact hnr.1), hnr.2⟩, ⟨(by simp (disch := omega) only [up_no]; exact htn.1), htn.2⟩, ⟨(by simp (disch := omega) only [up_no]; exact hdn.1), hdn.2⟩, ⟨(by simp (disch := omega) only [up_no]; exact hop.1), hop.2⟩, (by simp (disch := omega) only [up_no]; exact hdr), (fun j hj => by simp (disch := omega) only [up_no]; exact hkd j hj), fun j hj => ?_, hqu, fun j hj => ?_, hha, hpr, fun j hj => ?_, hbz, hlt, hlo⟩
              · obtain ⟨h1, h2, h3, h4, h5, h6⟩ := hby j hj
                by_cases e : j = bo
                · subst e
                  simp (disch := omega) only [up_no, up_same]
                  exact ⟨h1, h2, trivial, h4, h5, h6⟩
                · simp (disch := omega) only [up_no]
                  exact ⟨h1, h2, h3, h4, h5, h6⟩
              · obtain ⟨u1, u2, u3, u4⟩ := hbt j hj
                by_cases e : j = g
                · subst e
                  simp (disch := omega) only [up_no, up_same]
                  exact ⟨u1, u2, trivial, u4⟩
                · simp (disch := omega) only [up_no]
                  exact ⟨u1, u2, u3, u4⟩
              · by_cases e : j = bx
                · subst e
                  refine ⟨g, ki, si, fr, st, wc, 1, kl, re, so, by omega, ?_, ?_, ?_, ?_, Or.inr ⟨w, p, t, d, b1, b2, b3, b4, b5, ?_, ?_, ?_, ?_, ?_, ?_⟩⟩
                  · simp (disch := omega) only [up_no, up_same, thr_r]
                    exact ⟨h2.1, h2.2.1, h2.2.2.1, h2.2.2.2.1, h2.2.2.2.2.1, h2.2.2.2.2.2.1, rfl, h2.2.2.2.2.2.2.2⟩
                  · simp (disch := omega) only [up_no, up_same]
                    exact l1
                  · simp (disch := omega) only [up_no]
                    exact h4
                  · simp (disch := omega) only [up_no, thr_r]
                    exact h5
                  · simp (disch := omega) only [up_no, thr_r]
                    exact w1
                  · simp (disch := omega) only [up_no, thr_r]
                    exact w2
                  · simp (disch := omega) only [up_no, thr_r]
                    exact w3
                  · simp (disch := omega) only [up_no, thr_r]
                    exact w4
                  · simp (disch := omega) only [up_no]
                    exact w5
                  · simp (disch := omega) only [up_no]
                    exact w6
                · refine BX_cg (hbx j hj) (fun a h1 h2 => by simp (disch := omega) only [up_no]) (fun a h1 h2 => by simp (disch := omega) only [up_no])
          · rw [if_neg (fun z => q3 z.2)] at hr
            have q4 : R 23 bx + 240 < R 0 0 := Int32.not_le.mp q3
            rw [bI_t ⟨c2, c3⟩]
            obtain ⟨M2, y1, y2, y3⟩ := y_claim (N := N) (M := M) (hN := hN) (a3 := 0) (a4 := 0) (a5 := 0) (a6 := 0) (x := -100000000) I hr rfl
            refine ⟨M2, _, ?_, y2, pk_mc (pk_thr H) y3⟩
            simp (maxSteps := 1000000) (disch := omega) only [f_L_isTold_1307, f_L_isTold_1306, f_L_isTold_1361, f_L_isTold_1360, f_L_isTold_1393, f_L_isTold_1432, f_L_isTold_1433, f_L_isTold_1480, f_L_isTold_1516, f_L_isTold_1524, ↓reduceIte, ite_self, iL8t, iL8f, iL4t, iL4f, iL3t, iL3f, iL100001t, iL100001f, iL10001t, iL10001f, iL501t, iL501f, iL100000001t, iL100000001f, iL10t, iL10f, iL10000001t, iL10000001f, iL101t, iL101f, iL100t, iL100f, iL51t, iL51f, iL9t, iL9f, iL1t, iL1f, iL2t, iL2f, iL7t, iL7f, iL29t, iL29f, iR0t, iR0f, iR100t, iR100f, iR10t, iR10f, iE0t, iE0f, iE1t, iE1f, iE2t, iE2f, iE3t, iE3f, iE4t, iE4f, iE5t, iE5f, iE6t, iE6f, iE7t, iE7f, iE8t, iE8f, iE9t, iE9f, iE10t, iE10f, iE11t, iE11f, iE12t, iE12f, iE13t, iE13f, iBt, iBf, i1_0, i0_0, i0_1, iSt, rm9, rm4, rm100002, rm2, rm5, rm10002, rm200, rm502, rm20, rm30000, rm3, rm4000, rm3000, rm11, rm13, rm40, rm6, rq4_3, rq4_120, rq2_3, rq2_90, rq7_5, rq7_10002, rq7_60, rq5_4, rq9_5, rq45_11, rq45_3, rq9_102, rq4_9, rq36_10, rq36_3, rq11_12, rq132_102, rq11_30, rq396_3, rq40_9, rq40_6, mu2, mu1700, mu1701, mu167, mv10, mv51, mv4, mv8, ad1, ad100, ad60, ad5, ad8, ad12, ad16, ad24, ad32, ad40, ad48, nI_add, nI_1, ap2, ap3, ap4, ap5, ap6, g_inN, nI_clamp, gq_l_e, gq_b_s, g_bb0, g_bb1, gi0_56, gi3_56, gi4_56, gi7_56, gi7_24, cl0, cl3, cl4, cl7, y1, k1b, k2, k3, k4, ht0, he.1, he.2, f_L_sold, q1, q2, q4]
        · rw [if_neg (fun z => q2 z.1.2)] at hr
          rw [bI_t ⟨c2, c3⟩]
          obtain ⟨M2, y1, y2, y3⟩ := y_claim (N := N) (M := M) (hN := hN) (a3 := 0) (a4 := 0) (a5 := 0) (a6 := 0) (x := -100000000) I hr rfl
          refine ⟨M2, _, ?_, y2, pk_mc (pk_thr H) y3⟩
          simp (maxSteps := 1000000) (disch := omega) only [f_L_isTold_1307, f_L_isTold_1306, f_L_isTold_1361, f_L_isTold_1360, f_L_isTold_1393, f_L_isTold_1432, f_L_isTold_1433, f_L_isTold_1480, f_L_isTold_1516, f_L_isTold_1524, ↓reduceIte, ite_self, iL8t, iL8f, iL4t, iL4f, iL3t, iL3f, iL100001t, iL100001f, iL10001t, iL10001f, iL501t, iL501f, iL100000001t, iL100000001f, iL10t, iL10f, iL10000001t, iL10000001f, iL101t, iL101f, iL100t, iL100f, iL51t, iL51f, iL9t, iL9f, iL1t, iL1f, iL2t, iL2f, iL7t, iL7f, iL29t, iL29f, iR0t, iR0f, iR100t, iR100f, iR10t, iR10f, iE0t, iE0f, iE1t, iE1f, iE2t, iE2f, iE3t, iE3f, iE4t, iE4f, iE5t, iE5f, iE6t, iE6f, iE7t, iE7f, iE8t, iE8f, iE9t, iE9f, iE10t, iE10f, iE11t, iE11f, iE12t, iE12f, iE13t, iE13f, iBt, iBf, i1_0, i0_0, i0_1, iSt, rm9, rm4, rm100002, rm2, rm5, rm10002, rm200, rm502, rm20, rm30000, rm3, rm4000, rm3000, rm11, rm13, rm40, rm6, rq4_3, rq4_120, rq2_3, rq2_90, rq7_5, rq7_10002, rq7_60, rq5_4, rq9_5, rq45_11, rq45_3, rq9_102, rq4_9, rq36_10, rq36_3, rq11_12, rq132_102, rq11_30, rq396_3, rq40_9, rq40_6, mu2, mu1700, mu1701, mu167, mv10, mv51, mv4, mv8, ad1, ad100, ad60, ad5, ad8, ad12, ad16, ad24, ad32, ad40, ad48, nI_add, nI_1, ap2, ap3, ap4, ap5, ap6, g_inN, nI_clamp, gq_l_e, gq_b_s, g_bb0, g_bb1, gi0_56, gi3_56, gi4_56, gi7_56, gi7_24, cl0, cl3, cl4, cl7, y1, k1b, k2, k3, k4, ht0, he.1, he.2, f_L_sold, q1, q2]
    · rw [if_neg (fun z => q1 z.1.1)] at hr
      rw [bI_t ⟨c2, c3⟩]
      obtain ⟨M2, y1, y2, y3⟩ := y_claim (N := N) (M := M) (hN := hN) (a3 := 0) (a4 := 0) (a5 := 0) (a6 := 0) (x := -100000000) I hr rfl
      refine ⟨M2, _, ?_, y2, pk_mc (pk_thr H) y3⟩
      simp (maxSteps := 1000000) (disch := omega) only [f_L_isTold_1307, f_L_isTold_1306, f_L_isTold_1361, f_L_isTold_1360, f_L_isTold_1393, f_L_isTold_1432, f_L_isTold_1433, f_L_isTold_1480, f_L_isTold_1516, f_L_isTold_1524, ↓reduceIte, ite_self, iL8t, iL8f, iL4t, iL4f, iL3t, iL3f, iL100001t, iL100001f, iL10001t, iL10001f, iL501t, iL501f, iL100000001t, iL100000001f, iL10t, iL10f, iL10000001t, iL10000001f, iL101t, iL101f, iL100t, iL100f, iL51t, iL51f, iL9t, iL9f, iL1t, iL1f, iL2t, iL2f, iL7t, iL7f, iL29t, iL29f, iR0t, iR0f, iR100t, iR100f, iR10t, iR10f, iE0t, iE0f, iE1t, iE1f, iE2t, iE2f, iE3t, iE3f, iE4t, iE4f, iE5t, iE5f, iE6t, iE6f, iE7t, iE7f, iE8t, iE8f, iE9t, iE9f, iE10t, iE10f, iE11t, iE11f, iE12t, iE12f, iE13t, iE13f, iBt, iBf, i1_0, i0_0, i0_1, iSt, rm9, rm4, rm100002, rm2, rm5, rm10002, rm200, rm502, rm20, rm30000, rm3, rm4000, rm3000, rm11, rm13, rm40, rm6, rq4_3, rq4_120, rq2_3, rq2_90, rq7_5, rq7_10002, rq7_60, rq5_4, rq9_5, rq45_11, rq45_3, rq9_102, rq4_9, rq36_10, rq36_3, rq11_12, rq132_102, rq11_30, rq396_3, rq40_9, rq40_6, mu2, mu1700, mu1701, mu167, mv10, mv51, mv4, mv8, ad1, ad100, ad60, ad5, ad8, ad12, ad16, ad24, ad32, ad40, ad48, nI_add, nI_1, ap2, ap3, ap4, ap5, ap6, g_inN, nI_clamp, gq_l_e, gq_b_s, g_bb0, g_bb1, gi0_56, gi3_56, gi4_56, gi7_56, gi7_24, cl0, cl3, cl4, cl7, y1, k1, k2, ha.1, he.1, he.2, q1]
  · have hB : ∃ g, g < 8 ∧ (bx < nb → R 13 bx = nI g) := by
      by_cases c : bx < nb
      · obtain ⟨g, ki, si, fr, st, wc, cl, kl, re, so, h1, h2, -⟩ := hbx bx c
        exact ⟨g, h1.1, fun _ => h2.1⟩
      · exact ⟨0, by omega, fun h => absurd h c⟩
    obtain ⟨g, g8, hg⟩ := hB
    have hr := e_claim (N := N) (R := R) (nb := nb) (bo := bo) (bx := bx) (g := g) (by omega) (by omega) hnb.2.1 hb40 hg g8
    rw [if_neg c1] at hr
    rw [bI_f c1]
    obtain ⟨M2, y1, y2, y3⟩ := y_claim (N := N) (M := M) (hN := hN) (a3 := 0) (a4 := 0) (a5 := 0) (a6 := 0) (x := -300000000) I hr rfl
    refine ⟨M2, _, ?_, y2, pk_mc (pk_thr H) y3⟩
    simp (maxSteps := 1000000) (disch := omega) only [f_L_isTold_1307, f_L_isTold_1306, f_L_isTold_1361, f_L_isTold_1360, f_L_isTold_1393, f_L_isTold_1432, f_L_isTold_1433, f_L_isTold_1480, f_L_isTold_1516, f_L_isTold_1524, ↓reduceIte, ite_self, iL8t, iL8f, iL4t, iL4f, iL3t, iL3f, iL100001t, iL100001f, iL10001t, iL10001f, iL501t, iL501f, iL100000001t, iL100000001f, iL10t, iL10f, iL10000001t, iL10000001f, iL101t, iL101f, iL100t, iL100f, iL51t, iL51f, iL9t, iL9f, iL1t, iL1f, iL2t, iL2f, iL7t, iL7f, iL29t, iL29f, iR0t, iR0f, iR100t, iR100f, iR10t, iR10f, iE0t, iE0f, iE1t, iE1f, iE2t, iE2f, iE3t, iE3f, iE4t, iE4f, iE5t, iE5f, iE6t, iE6f, iE7t, iE7f, iE8t, iE8f, iE9t, iE9f, iE10t, iE10f, iE11t, iE11f, iE12t, iE12f, iE13t, iE13f, iBt, iBf, i1_0, i0_0, i0_1, iSt, rm9, rm4, rm100002, rm2, rm5, rm10002, rm200, rm502, rm20, rm30000, rm3, rm4000, rm3000, rm11, rm13, rm40, rm6, rq4_3, rq4_120, rq2_3, rq2_90, rq7_5, rq7_10002, rq7_60, rq5_4, rq9_5, rq45_11, rq45_3, rq9_102, rq4_9, rq36_10, rq36_3, rq11_12, rq132_102, rq11_30, rq396_3, rq40_9, rq40_6, mu2, mu1700, mu1701, mu167, mv10, mv51, mv4, mv8, ad1, ad100, ad60, ad5, ad8, ad12, ad16, ad24, ad32, ad40, ad48, nI_add, nI_1, ap2, ap3, ap4, ap5, ap6, g_inN, nI_clamp, gq_l_e, gq_b_s, g_bb0, g_bb1, gi0_56, gi3_56, gi4_56, gi7_56, gi7_24, cl0, cl3, cl4, cl7, y1]
end
