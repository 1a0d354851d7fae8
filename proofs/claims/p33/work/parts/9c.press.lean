/-! press, lorry -/
section
variable {N nb nl nr tn dn : Nat} {M R : gq_M}
theorem ir_of {S : Nat → Prop} (I : INV M R) (H : PK S nb nl nr tn dn M R) : IR nb nl nr tn R := by
  obtain ⟨nb2, nl2, nr2, tn2, J⟩ := inv_invd I
  have hc := J.1
  obtain ⟨q1, q2, q3, q4, -⟩ := hc
  obtain ⟨hnb, hnl, hnr, htn, hdn, hop, hdr, hkd, hby, hqu, hbt, hha, hpr, hbx, hbz, hlt, hlo⟩ := H
  have e1 : nb2 = nb := (nI_j (by omega) (by omega)).mp (q1.2.1.symm.trans hnb.2.1)
  have e2 : nl2 = nl := (nI_j (by omega) (by omega)).mp (q2.2.1.symm.trans hnl.2.1)
  have e3 : nr2 = nr := (nI_j (by omega) (by omega)).mp (q3.2.1.symm.trans hnr.2.1)
  have e4 : tn2 = tn := (nI_j (by omega) (by omega)).mp (q4.2.1.symm.trans htn.2.1)
  subst e1 e2 e3 e4
  exact ⟨M, J⟩
theorem e_press_n {bu ha : Nat} (hbu : bu < 2 ^ 31) (hha : ha < 2 ^ 31) (c : ¬ (bu < 8 ∧ ha < 3)) : f_X10_press N (nI bu) (nI ha) R = some (0, thr R 1) := by
  by_cases c1 : bu < 8
  · have k1 : vp_in (nI bu) 8 := vpY c1 (by omega)
    have k2 : ¬ vp_in (nI ha) 3 := vpN (fun z => c ⟨c1, z⟩) (by omega) (by omega)
    simp (maxSteps := 400000) (disch := omega) only [f_X10_press, r_isEight, r_isKind, r_isHall, r_areCents, r_isBox, r_isIn, r_fails, gq_b_s, gq_l_e, bI_z, Classical.not_not, reduceIte, not_true_eq_false, not_false_eq_true, f01, f02, f03, f00, f10, f01b, ite_not, ite_self, and_self, e8a, e8b, e4a, e4b, e3a, e3b, g_inN, g_bb0, g_bb1, g_bbI, nI_clamp, pl4, pl4b, pl8, pl8b, thr_r, thr_s, k1, k2]
    simp (maxSteps := 400000) (disch := omega) only [f_X10_press_18, f_X10_press_19, r_isEight, r_isKind, r_isHall, r_areCents, r_isBox, r_isIn, r_fails, gq_b_s, gq_l_e, bI_z, Classical.not_not, reduceIte, not_true_eq_false, not_false_eq_true, f01, f02, f03, f00, f10, f01b, ite_not, ite_self, and_self, e8a, e8b, e4a, e4b, e3a, e3b, g_inN, g_bb0, g_bb1, g_bbI, nI_clamp, pl4, pl4b, pl8, pl8b, thr_r, thr_s, k1, k2]
    simp (maxSteps := 400000) (disch := omega) only [f_X10_press_71, f_X10_press_72, r_isEight, r_isKind, r_isHall, r_areCents, r_isBox, r_isIn, r_fails, gq_b_s, gq_l_e, bI_z, Classical.not_not, reduceIte, not_true_eq_false, not_false_eq_true, f01, f02, f03, f00, f10, f01b, ite_not, ite_self, and_self, e8a, e8b, e4a, e4b, e3a, e3b, g_inN, g_bb0, g_bb1, g_bbI, nI_clamp, pl4, pl4b, pl8, pl8b, thr_r, thr_s, k1, k2]
    simp (maxSteps := 400000) (disch := omega) only [f_X10_press_93, r_isEight, r_isKind, r_isHall, r_areCents, r_isBox, r_isIn, r_fails, gq_b_s, gq_l_e, bI_z, Classical.not_not, reduceIte, not_true_eq_false, not_false_eq_true, f01, f02, f03, f00, f10, f01b, ite_not, ite_self, and_self, e8a, e8b, e4a, e4b, e3a, e3b, g_inN, g_bb0, g_bb1, g_bbI, nI_clamp, pl4, pl4b, pl8, pl8b, thr_r, thr_s, k1, k2]
  · have k1 : ¬ vp_in (nI bu) 8 := vpN c1 (by omega) (by omega)
    simp (maxSteps := 400000) (disch := omega) only [f_X10_press, r_isEight, r_isKind, r_isHall, r_areCents, r_isBox, r_isIn, r_fails, gq_b_s, gq_l_e, bI_z, Classical.not_not, reduceIte, not_true_eq_false, not_false_eq_true, f01, f02, f03, f00, f10, f01b, ite_not, ite_self, and_self, e8a, e8b, e4a, e4b, e3a, e3b, g_inN, g_bb0, g_bb1, g_bbI, nI_clamp, pl4, pl4b, pl8, pl8b, thr_r, thr_s, k1]
    simp (maxSteps := 400000) (disch := omega) only [f_X10_press_18, f_X10_press_19, r_isEight, r_isKind, r_isHall, r_areCents, r_isBox, r_isIn, r_fails, gq_b_s, gq_l_e, bI_z, Classical.not_not, reduceIte, not_true_eq_false, not_false_eq_true, f01, f02, f03, f00, f10, f01b, ite_not, ite_self, and_self, e8a, e8b, e4a, e4b, e3a, e3b, g_inN, g_bb0, g_bb1, g_bbI, nI_clamp, pl4, pl4b, pl8, pl8b, thr_r, thr_s, k1]
    simp (maxSteps := 400000) (disch := omega) only [f_X10_press_71, f_X10_press_72, r_isEight, r_isKind, r_isHall, r_areCents, r_isBox, r_isIn, r_fails, gq_b_s, gq_l_e, bI_z, Classical.not_not, reduceIte, not_true_eq_false, not_false_eq_true, f01, f02, f03, f00, f10, f01b, ite_not, ite_self, and_self, e8a, e8b, e4a, e4b, e3a, e3b, g_inN, g_bb0, g_bb1, g_bbI, nI_clamp, pl4, pl4b, pl8, pl8b, thr_r, thr_s, k1]
    simp (maxSteps := 400000) (disch := omega) only [f_X10_press_93, r_isEight, r_isKind, r_isHall, r_areCents, r_isBox, r_isIn, r_fails, gq_b_s, gq_l_e, bI_z, Classical.not_not, reduceIte, not_true_eq_false, not_false_eq_true, f01, f02, f03, f00, f10, f01b, ite_not, ite_self, and_self, e8a, e8b, e4a, e4b, e3a, e3b, g_inN, g_bb0, g_bb1, g_bbI, nI_clamp, pl4, pl4b, pl8, pl8b, thr_r, thr_s, k1]
def canP (R : gq_M) (bu ha : Nat) : Prop := ((R 35 ha = 1 ∧ R 34 ha = 1) ∧ R 12 bu = 1) ∧ R 40 (8 * ha + bu) = -1
theorem e_press_c {bu ha : Nat} (hbu : bu < 8) (hha : ha < 3) (c : canP R bu ha) : f_X10_press N (nI bu) (nI ha) R = some (R 37 ha, gq_up (gq_up (gq_up (thr R 0) 40 (8 * ha + bu) (R 0 0)) 41 (8 * ha + bu) (R 0 0 + R 10 bu)) 42 (8 * ha + bu) (R 37 ha)) := by
  have k1 : vp_in (nI bu) 8 := vpY hbu (by omega)
  have k2 : vp_in (nI ha) 3 := vpY hha (by omega)
  obtain ⟨⟨⟨q1, q2⟩, q3⟩, q4⟩ := c
  simp (maxSteps := 400000) (disch := omega) only [f_X10_press, r_isEight, r_isKind, r_isHall, r_areCents, r_isBox, r_isIn, r_fails, gq_b_s, gq_l_e, bI_z, Classical.not_not, reduceIte, not_true_eq_false, not_false_eq_true, f01, f02, f03, f00, f10, f01b, ite_not, ite_self, and_self, e8a, e8b, e4a, e4b, e3a, e3b, g_inN, g_bb0, g_bb1, g_bbI, nI_clamp, pl4, pl4b, pl8, pl8b, thr_r, thr_s, k1, k2, q1, q2, q3, q4, up_no, up_same]
  simp (maxSteps := 400000) (disch := omega) only [f_X10_press_18, f_X10_press_19, r_isEight, r_isKind, r_isHall, r_areCents, r_isBox, r_isIn, r_fails, gq_b_s, gq_l_e, bI_z, Classical.not_not, reduceIte, not_true_eq_false, not_false_eq_true, f01, f02, f03, f00, f10, f01b, ite_not, ite_self, and_self, e8a, e8b, e4a, e4b, e3a, e3b, g_inN, g_bb0, g_bb1, g_bbI, nI_clamp, pl4, pl4b, pl8, pl8b, thr_r, thr_s, k1, k2, q1, q2, q3, q4, up_no, up_same]
  simp (maxSteps := 400000) (disch := omega) only [f_X10_press_71, f_X10_press_72, r_isEight, r_isKind, r_isHall, r_areCents, r_isBox, r_isIn, r_fails, gq_b_s, gq_l_e, bI_z, Classical.not_not, reduceIte, not_true_eq_false, not_false_eq_true, f01, f02, f03, f00, f10, f01b, ite_not, ite_self, and_self, e8a, e8b, e4a, e4b, e3a, e3b, g_inN, g_bb0, g_bb1, g_bbI, nI_clamp, pl4, pl4b, pl8, pl8b, thr_r, thr_s, k1, k2, q1, q2, q3, q4, up_no, up_same]
  simp (maxSteps := 400000) (disch := omega) only [f_X10_press_93, r_isEight, r_isKind, r_isHall, r_areCents, r_isBox, r_isIn, r_fails, gq_b_s, gq_l_e, bI_z, Classical.not_not, reduceIte, not_true_eq_false, not_false_eq_true, f01, f02, f03, f00, f10, f01b, ite_not, ite_self, and_self, e8a, e8b, e4a, e4b, e3a, e3b, g_inN, g_bb0, g_bb1, g_bbI, nI_clamp, pl4, pl4b, pl8, pl8b, thr_r, thr_s, k1, k2, q1, q2, q3, q4, up_no, up_same]
theorem e_press_f {bu ha : Nat} (hbu : bu < 8) (hha : ha < 3) (hp : bit (R 34 ha)) (hl : bit (R 12 bu)) (c : ¬ canP R bu ha) : f_X10_press N (nI bu) (nI ha) R = some (0, thr R 2) := by
  have k1 : vp_in (nI bu) 8 := vpY hbu (by omega)
  have k2 : vp_in (nI ha) 3 := vpY hha (by omega)
  by_cases q1 : R 35 ha = 1
  · rcases hp with q2 | q2
    · simp (maxSteps := 400000) (disch := omega) only [f_X10_press, r_isEight, r_isKind, r_isHall, r_areCents, r_isBox, r_isIn, r_fails, gq_b_s, gq_l_e, bI_z, Classical.not_not, reduceIte, not_true_eq_false, not_false_eq_true, f01, f02, f03, f00, f10, f01b, ite_not, ite_self, and_self, e8a, e8b, e4a, e4b, e3a, e3b, g_inN, g_bb0, g_bb1, g_bbI, nI_clamp, pl4, pl4b, pl8, pl8b, thr_r, thr_s, k1, k2, q1, q2]
      simp (maxSteps := 400000) (disch := omega) only [f_X10_press_18, f_X10_press_19, r_isEight, r_isKind, r_isHall, r_areCents, r_isBox, r_isIn, r_fails, gq_b_s, gq_l_e, bI_z, Classical.not_not, reduceIte, not_true_eq_false, not_false_eq_true, f01, f02, f03, f00, f10, f01b, ite_not, ite_self, and_self, e8a, e8b, e4a, e4b, e3a, e3b, g_inN, g_bb0, g_bb1, g_bbI, nI_clamp, pl4, pl4b, pl8, pl8b, thr_r, thr_s, k1, k2, q1, q2]
      simp (maxSteps := 400000) (disch := omega) only [f_X10_press_71, f_X10_press_72, r_isEight, r_isKind, r_isHall, r_areCents, r_isBox, r_isIn, r_fails, gq_b_s, gq_l_e, bI_z, Classical.not_not, reduceIte, not_true_eq_false, not_false_eq_true, f01, f02, f03, f00, f10, f01b, ite_not, ite_self, and_self, e8a, e8b, e4a, e4b, e3a, e3b, g_inN, g_bb0, g_bb1, g_bbI, nI_clamp, pl4, pl4b, pl8, pl8b, thr_r, thr_s, k1, k2, q1, q2]
      simp (maxSteps := 400000) (disch := omega) only [f_X10_press_93, r_isEight, r_isKind, r_isHall, r_areCents, r_isBox, r_isIn, r_fails, gq_b_s, gq_l_e, bI_z, Classical.not_not, reduceIte, not_true_eq_false, not_false_eq_true, f01, f02, f03, f00, f10, f01b, ite_not, ite_self, and_self, e8a, e8b, e4a, e4b, e3a, e3b, g_inN, g_bb0, g_bb1, g_bbI, nI_clamp, pl4, pl4b, pl8, pl8b, thr_r, thr_s, k1, k2, q1, q2]
    · rcases hl with q3 | q3
      · simp (maxSteps := 400000) (disch := omega) only [f_X10_press, r_isEight, r_isKind, r_isHall, r_areCents, r_isBox, r_isIn, r_fails, gq_b_s, gq_l_e, bI_z, Classical.not_not, reduceIte, not_true_eq_false, not_false_eq_true, f01, f02, f03, f00, f10, f01b, ite_not, ite_self, and_self, e8a, e8b, e4a, e4b, e3a, e3b, g_inN, g_bb0, g_bb1, g_bbI, nI_clamp, pl4, pl4b, pl8, pl8b, thr_r, thr_s, k1, k2, q1, q2, q3]
        simp (maxSteps := 400000) (disch := omega) only [f_X10_press_18, f_X10_press_19, r_isEight, r_isKind, r_isHall, r_areCents, r_isBox, r_isIn, r_fails, gq_b_s, gq_l_e, bI_z, Classical.not_not, reduceIte, not_true_eq_false, not_false_eq_true, f01, f02, f03, f00, f10, f01b, ite_not, ite_self, and_self, e8a, e8b, e4a, e4b, e3a, e3b, g_inN, g_bb0, g_bb1, g_bbI, nI_clamp, pl4, pl4b, pl8, pl8b, thr_r, thr_s, k1, k2, q1, q2, q3]
        simp (maxSteps := 400000) (disch := omega) only [f_X10_press_71, f_X10_press_72, r_isEight, r_isKind, r_isHall, r_areCents, r_isBox, r_isIn, r_fails, gq_b_s, gq_l_e, bI_z, Classical.not_not, reduceIte, not_true_eq_false, not_false_eq_true, f01, f02, f03, f00, f10, f01b, ite_not, ite_self, and_self, e8a, e8b, e4a, e4b, e3a, e3b, g_inN, g_bb0, g_bb1, g_bbI, nI_clamp, pl4, pl4b, pl8, pl8b, thr_r, thr_s, k1, k2, q1, q2, q3]
        simp (maxSteps := 400000) (disch := omega) only [f_X10_press_93, r_isEight, r_isKind, r_isHall, r_areCents, r_isBox, r_isIn, r_fails, gq_b_s, gq_l_e, bI_z, Classical.not_not, reduceIte, not_true_eq_false, not_false_eq_true, f01, f02, f03, f00, f10, f01b, ite_not, ite_self, and_self, e8a, e8b, e4a, e4b, e3a, e3b, g_inN, g_bb0, g_bb1, g_bbI, nI_clamp, pl4, pl4b, pl8, pl8b, thr_r, thr_s, k1, k2, q1, q2, q3]
      · have q4 : ¬ R 40 (8 * ha + bu) = -1 := fun z => c ⟨⟨⟨q1, q2⟩, q3⟩, z⟩
        simp (maxSteps := 400000) (disch := omega) only [f_X10_press, r_isEight, r_isKind, r_isHall, r_areCents, r_isBox, r_isIn, r_fails, gq_b_s, gq_l_e, bI_z, Classical.not_not, reduceIte, not_true_eq_false, not_false_eq_true, f01, f02, f03, f00, f10, f01b, ite_not, ite_self, and_self, e8a, e8b, e4a, e4b, e3a, e3b, g_inN, g_bb0, g_bb1, g_bbI, nI_clamp, pl4, pl4b, pl8, pl8b, thr_r, thr_s, k1, k2, q1, q2, q3, q4]
        simp (maxSteps := 400000) (disch := omega) only [f_X10_press_18, f_X10_press_19, r_isEight, r_isKind, r_isHall, r_areCents, r_isBox, r_isIn, r_fails, gq_b_s, gq_l_e, bI_z, Classical.not_not, reduceIte, not_true_eq_false, not_false_eq_true, f01, f02, f03, f00, f10, f01b, ite_not, ite_self, and_self, e8a, e8b, e4a, e4b, e3a, e3b, g_inN, g_bb0, g_bb1, g_bbI, nI_clamp, pl4, pl4b, pl8, pl8b, thr_r, thr_s, k1, k2, q1, q2, q3, q4]
        simp (maxSteps := 400000) (disch := omega) only [f_X10_press_71, f_X10_press_72, r_isEight, r_isKind, r_isHall, r_areCents, r_isBox, r_isIn, r_fails, gq_b_s, gq_l_e, bI_z, Classical.not_not, reduceIte, not_true_eq_false, not_false_eq_true, f01, f02, f03, f00, f10, f01b, ite_not, ite_self, and_self, e8a, e8b, e4a, e4b, e3a, e3b, g_inN, g_bb0, g_bb1, g_bbI, nI_clamp, pl4, pl4b, pl8, pl8b, thr_r, thr_s, k1, k2, q1, q2, q3, q4]
        simp (maxSteps := 400000) (disch := omega) only [f_X10_press_93, r_isEight, r_isKind, r_isHall, r_areCents, r_isBox, r_isIn, r_fails, gq_b_s, gq_l_e, bI_z, Classical.not_not, reduceIte, not_true_eq_false, not_false_eq_true, f01, f02, f03, f00, f10, f01b, ite_not, ite_self, and_self, e8a, e8b, e4a, e4b, e3a, e3b, g_inN, g_bb0, g_bb1, g_bbI, nI_clamp, pl4, pl4b, pl8, pl8b, thr_r, thr_s, k1, k2, q1, q2, q3, q4]
  · simp (maxSteps := 400000) (disch := omega) only [f_X10_press, r_isEight, r_isKind, r_isHall, r_areCents, r_isBox, r_isIn, r_fails, gq_b_s, gq_l_e, bI_z, Classical.not_not, reduceIte, not_true_eq_false, not_false_eq_true, f01, f02, f03, f00, f10, f01b, ite_not, ite_self, and_self, e8a, e8b, e4a, e4b, e3a, e3b, g_inN, g_bb0, g_bb1, g_bbI, nI_clamp, pl4, pl4b, pl8, pl8b, thr_r, thr_s, k1, k2, q1]
    simp (maxSteps := 400000) (disch := omega) only [f_X10_press_18, f_X10_press_19, r_isEight, r_isKind, r_isHall, r_areCents, r_isBox, r_isIn, r_fails, gq_b_s, gq_l_e, bI_z, Classical.not_not, reduceIte, not_true_eq_false, not_false_eq_true, f01, f02, f03, f00, f10, f01b, ite_not, ite_self, and_self, e8a, e8b, e4a, e4b, e3a, e3b, g_inN, g_bb0, g_bb1, g_bbI, nI_clamp, pl4, pl4b, pl8, pl8b, thr_r, thr_s, k1, k2, q1]
    simp (maxSteps := 400000) (disch := omega) only [f_X10_press_71, f_X10_press_72, r_isEight, r_isKind, r_isHall, r_areCents, r_isBox, r_isIn, r_fails, gq_b_s, gq_l_e, bI_z, Classical.not_not, reduceIte, not_true_eq_false, not_false_eq_true, f01, f02, f03, f00, f10, f01b, ite_not, ite_self, and_self, e8a, e8b, e4a, e4b, e3a, e3b, g_inN, g_bb0, g_bb1, g_bbI, nI_clamp, pl4, pl4b, pl8, pl8b, thr_r, thr_s, k1, k2, q1]
    simp (maxSteps := 400000) (disch := omega) only [f_X10_press_93, r_isEight, r_isKind, r_isHall, r_areCents, r_isBox, r_isIn, r_fails, gq_b_s, gq_l_e, bI_z, Classical.not_not, reduceIte, not_true_eq_false, not_false_eq_true, f01, f02, f03, f00, f10, f01b, ite_not, ite_self, and_self, e8a, e8b, e4a, e4b, e3a, e3b, g_inN, g_bb0, g_bb1, g_bbI, nI_clamp, pl4, pl4b, pl8, pl8b, thr_r, thr_s, k1, k2, q1]
theorem hall_p {h : Nat} (J : IR nb nl nr tn R) (hh : h < 3) (hc : ¬ R 35 h = 0) : ∃ p a, a < nl ∧ R 36 h = nI a ∧ R 37 h = nI p ∧ 1 ≤ p ∧ p ≤ 10000 := by
  obtain ⟨C, -, -, -, k⟩ := J
  obtain ⟨-, -, -, -, -, -, k7⟩ := k h hh
  rcases k7 with ⟨w1, -⟩ | ⟨a, p, w1, w2, w3, w4, w5, w6, w7, w8⟩
  · exact absurd w1 hc
  · exact ⟨p, a, w1, w2, w5, w6, w7⟩
theorem t_press {x16 x17 s0 x15 : Int32} {bu ha : Nat} (hN : 600 ≤ N) (H : PK T0 nb nl nr tn dn M R) (I : INV M R) (h15 : ¬ 7 ≤ x15) (hbu : bu < 9) (hha2 : ha < 4) (h0 : ha < 3 → s0 = nI (8 * ha)) : ∃ M2 R2, f_L_isSale_769 N x15 x16 x17 (nI bu) (nI ha) (bI (bu < 8 ∧ ha < 3)) s0 M = some (1, M2) ∧ INV M2 R2 ∧ PK T0 nb nl nr tn dn M2 R2 := by
  have hun : f_L_isSale_769 N x15 x16 x17 (nI bu) (nI ha) (bI (bu < 8 ∧ ha < 3)) s0 M = if (bI (bu < 8 ∧ ha < 3)) = 0 then (f_L_isSale_831 N (nI bu) (nI ha) (bI (bu < 8 ∧ ha < 3)) s0 M) else (gq_g (gq_in s0 24) (gq_l (M 115 s0.toNatClampNeg) fun v132 => if v132 = 1 then (gq_g (gq_in (s0 + 6) 24) (gq_l (M 115 ((s0 + 6) : Int32).toNatClampNeg) fun v135 => if v135 = 1 then (gq_g (gq_in (48 + nI bu) 56) (gq_l (M 119 ((48 + nI bu) : Int32).toNatClampNeg) fun v138 => if v138 = 1 then (gq_g (gq_in (s0 + nI bu) 24) (gq_l (M 116 ((s0 + nI bu) : Int32).toNatClampNeg) fun v141 => if 0 ≤ v141 then (f_L_isSale_831 N (nI bu) (nI ha) (bI (bu < 8 ∧ ha < 3)) s0 M) else (f_L_isSale_832 N (nI bu) (nI ha) (bI (bu < 8 ∧ ha < 3)) s0 1 M))) else (f_L_isSale_831 N (nI bu) (nI ha) (bI (bu < 8 ∧ ha < 3)) s0 M))) else (f_L_isSale_831 N (nI bu) (nI ha) (bI (bu < 8 ∧ ha < 3)) s0 M))) else (f_L_isSale_831 N (nI bu) (nI ha) (bI (bu < 8 ∧ ha < 3)) s0 M))) := by
    unfold f_L_isSale_769
    rw [if_neg h15]
  rw [hun]
  by_cases c1 : bu < 8 ∧ ha < 3
  · obtain ⟨hb, hh⟩ := c1
    rw [bI_t ⟨hb, hh⟩, h0 hh]
    have J := ir_of I H
    have H9 := pk_thr (w := 0) H
    obtain ⟨hnb, hnl, hnr, htn, hdn, hop, hdr, hkd, hby, hqu, hbt, hha, hpr, hbx, hbz, hlt, hlo⟩ := H9
    have o1 := (hby bu hb).2.2.2.1
    have o2 := (hby bu hb).2.1
    have ob := (hby bu hb).2.2.2.2.2
    obtain ⟨s1, s2⟩ := hha ha hh
    have os := s1.2.2.1
    have op := s1.2.2.2.2
    obtain ⟨a1, a2, a3, -⟩ := s2 trivial
    have hj := hpr (8 * ha + bu) (by omega)
    have od := (hby bu hb).2.2.2.2.1
    rw [thr_r (by omega)] at o1 o2 os a1 a3 ob op od
    have ht := htn.1
    have htr : R 0 0 = nI tn := htn.2.1
    by_cases c : canP R bu ha
    · have hr := e_press_c (N := N) hb hh c
      obtain ⟨⟨⟨q1, q2⟩, q3⟩, q4⟩ := c
      obtain ⟨p, a, -, -, p3, p4, p5⟩ := hall_p J hh (by rw [q1]; decide)
      obtain ⟨dl, d1, d2, d3⟩ := od
      have hj2 : M 116 (8 * ha + bu) = -1 ∧ R 43 (8 * ha + bu) = 0 := by
        rcases hj with ⟨g1, g2, g3⟩ | ⟨t, p, g1, g2, g3, g4, -⟩
        · exact ⟨g3, g2⟩
        · exact absurd (g4.symm.trans q4) (nI_m1 (by omega))
      have e0 : ¬ (0 : Int32) ≤ -1 := by decide
      have k40 : R 40 (8 * ha + bu) = -1 := q4
      obtain ⟨M2, y1, y2, y3⟩ := y_press (N := N) (M := gq_up (gq_up (gq_up M 116 (8 * ha + bu) (nI tn)) 117 (8 * ha + bu) (nI tn + nI dl)) 118 (8 * ha + bu) (nI p)) (hN := hN) (a3 := 0) (a4 := 0) (a5 := 0) (a6 := 0) (x := R 37 ha) (inv_up (inv_up (inv_up I (by omega)) (by omega)) (by omega)) hr rfl
      have z3 : M2 115 (8 * ha + 2) = nI p := by
        rw [y3 115 (by omega)]
        simp (disch := omega) only [up_no]
        rw [a3, p3]
      refine ⟨M2, _, ?_, y2, pk_mc ?_ y3⟩
      · rw [nI_add] at y1
        simp (maxSteps := 1000000) (disch := omega) only [f_L_isSale_831, f_L_isSale_832, f_L_isSale_887, f_L_isSale_928, f_L_isSale_936, ↓reduceIte, ite_self, iL8t, iL8f, iL4t, iL4f, iL3t, iL3f, iL100001t, iL100001f, iL10001t, iL10001f, iL501t, iL501f, iL100000001t, iL100000001f, iL10t, iL10f, iL10000001t, iL10000001f, iL101t, iL101f, iL100t, iL100f, iL51t, iL51f, iL9t, iL9f, iL1t, iL1f, iL2t, iL2f, iL7t, iL7f, iL29t, iL29f, iR0t, iR0f, iR100t, iR100f, iR10t, iR10f, iE0t, iE0f, iE1t, iE1f, iE2t, iE2f, iE3t, iE3f, iE4t, iE4f, iE5t, iE5f, iE6t, iE6f, iE7t, iE7f, iE8t, iE8f, iE9t, iE9f, iE10t, iE10f, iE11t, iE11f, iE12t, iE12f, iE13t, iE13f, iBt, iBf, i1_0, i0_0, i0_1, iSt, rm9, rm4, rm100002, rm2, rm5, rm10002, rm200, rm502, rm20, rm30000, rm3, rm4000, rm3000, rm11, rm13, rm40, rm6, rq4_3, rq4_120, rq2_3, rq2_90, rq7_5, rq7_10002, rq7_60, rq5_4, rq9_5, rq45_11, rq45_3, rq9_102, rq4_9, rq36_10, rq36_3, rq11_12, rq132_102, rq11_30, rq396_3, rq40_9, rq40_6, mu2, mu1700, mu1701, mu167, mv10, mv51, mv4, mv8, ad1, ad100, ad60, ad5, ad8, ad12, ad16, ad24, ad32, ad40, ad48, nI_add, nI_1, ap2, ap3, ap4, ap5, ap6, g_inN, nI_clamp, gq_l_e, gq_b_s, g_bb0, g_bb1, gi0_56, gi3_56, gi4_56, gi7_56, gi7_24, cl0, cl3, cl4, cl7, gi1_56, gi2_56, gi5_56, gi6_56, cl1, cl2, cl5, cl6, y1, z3, a1, os, o1, o2, a3, p3, q1, q2, q3, hj2.1, e0, eq_false e0, ht, up_no, d3]
      · refine ⟨hnb, hnl, hnr, htn, hdn, hop, hdr, hkd, hby, hqu, hbt, hha, fun j hj3 => ?_, hbx, hbz, hlt, hlo⟩
        by_cases e : j = 8 * ha + bu
        · subst e
          refine Or.inr ⟨tn, p, htn.2.2, p4, p5, ?_⟩
          simp (disch := omega) only [up_no, up_same, thr_r]
          exact ⟨htr, trivial, by rw [htr, d3], p3, Or.inl ⟨hj2.2, trivial⟩⟩
        · refine PR_cg (hpr j hj3) (fun a h1 h2 => by simp (disch := omega) only [up_no]) (fun a h1 h2 => by simp (disch := omega) only [up_no])
    · have hr := e_press_f (N := N) hb hh op ob c
      obtain ⟨M2, y1, y2, y3⟩ := y_press (N := N) (M := M) (hN := hN) (a3 := 0) (a4 := 0) (a5 := 0) (a6 := 0) (x := -100000000) I hr rfl
      refine ⟨M2, _, ?_, y2, pk_mc (pk_thr H) y3⟩
      by_cases q1 : R 35 ha = 1
      · by_cases q2 : R 34 ha = 1
        · by_cases q3 : R 12 bu = 1
          · have q4 : ¬ R 40 (8 * ha + bu) = -1 := fun z => c ⟨⟨⟨q1, q2⟩, q3⟩, z⟩
            have hj2 : 0 ≤ M 116 (8 * ha + bu) := by
              rcases hj with ⟨g1, g2, g3⟩ | ⟨t, p, g1, g2, g3, g4, g5, -⟩
              · exact absurd g1 q4
              · rw [g5]; exact nI_pos' (by omega)
            simp (maxSteps := 1000000) (disch := omega) only [f_L_isSale_831, f_L_isSale_832, f_L_isSale_887, f_L_isSale_928, f_L_isSale_936, ↓reduceIte, ite_self, iL8t, iL8f, iL4t, iL4f, iL3t, iL3f, iL100001t, iL100001f, iL10001t, iL10001f, iL501t, iL501f, iL100000001t, iL100000001f, iL10t, iL10f, iL10000001t, iL10000001f, iL101t, iL101f, iL100t, iL100f, iL51t, iL51f, iL9t, iL9f, iL1t, iL1f, iL2t, iL2f, iL7t, iL7f, iL29t, iL29f, iR0t, iR0f, iR100t, iR100f, iR10t, iR10f, iE0t, iE0f, iE1t, iE1f, iE2t, iE2f, iE3t, iE3f, iE4t, iE4f, iE5t, iE5f, iE6t, iE6f, iE7t, iE7f, iE8t, iE8f, iE9t, iE9f, iE10t, iE10f, iE11t, iE11f, iE12t, iE12f, iE13t, iE13f, iBt, iBf, i1_0, i0_0, i0_1, iSt, rm9, rm4, rm100002, rm2, rm5, rm10002, rm200, rm502, rm20, rm30000, rm3, rm4000, rm3000, rm11, rm13, rm40, rm6, rq4_3, rq4_120, rq2_3, rq2_90, rq7_5, rq7_10002, rq7_60, rq5_4, rq9_5, rq45_11, rq45_3, rq9_102, rq4_9, rq36_10, rq36_3, rq11_12, rq132_102, rq11_30, rq396_3, rq40_9, rq40_6, mu2, mu1700, mu1701, mu167, mv10, mv51, mv4, mv8, ad1, ad100, ad60, ad5, ad8, ad12, ad16, ad24, ad32, ad40, ad48, nI_add, nI_1, ap2, ap3, ap4, ap5, ap6, g_inN, nI_clamp, gq_l_e, gq_b_s, g_bb0, g_bb1, gi0_56, gi3_56, gi4_56, gi7_56, gi7_24, cl0, cl3, cl4, cl7, gi1_56, gi2_56, gi5_56, gi6_56, cl1, cl2, cl5, cl6, y1, a1, os, o1, q1, q2, q3, hj2, eq_true hj2]
          · simp (maxSteps := 1000000) (disch := omega) only [f_L_isSale_831, f_L_isSale_832, f_L_isSale_887, f_L_isSale_928, f_L_isSale_936, ↓reduceIte, ite_self, iL8t, iL8f, iL4t, iL4f, iL3t, iL3f, iL100001t, iL100001f, iL10001t, iL10001f, iL501t, iL501f, iL100000001t, iL100000001f, iL10t, iL10f, iL10000001t, iL10000001f, iL101t, iL101f, iL100t, iL100f, iL51t, iL51f, iL9t, iL9f, iL1t, iL1f, iL2t, iL2f, iL7t, iL7f, iL29t, iL29f, iR0t, iR0f, iR100t, iR100f, iR10t, iR10f, iE0t, iE0f, iE1t, iE1f, iE2t, iE2f, iE3t, iE3f, iE4t, iE4f, iE5t, iE5f, iE6t, iE6f, iE7t, iE7f, iE8t, iE8f, iE9t, iE9f, iE10t, iE10f, iE11t, iE11f, iE12t, iE12f, iE13t, iE13f, iBt, iBf, i1_0, i0_0, i0_1, iSt, rm9, rm4, rm100002, rm2, rm5, rm10002, rm200, rm502, rm20, rm30000, rm3, rm4000, rm3000, rm11, rm13, rm40, rm6, rq4_3, rq4_120, rq2_3, rq2_90, rq7_5, rq7_10002, rq7_60, rq5_4, rq9_5, rq45_11, rq45_3, rq9_102, rq4_9, rq36_10, rq36_3, rq11_12, rq132_102, rq11_30, rq396_3, rq40_9, rq40_6, mu2, mu1700, mu1701, mu167, mv10, mv51, mv4, mv8, ad1, ad100, ad60, ad5, ad8, ad12, ad16, ad24, ad32, ad40, ad48, nI_add, nI_1, ap2, ap3, ap4, ap5, ap6, g_inN, nI_clamp, gq_l_e, gq_b_s, g_bb0, g_bb1, gi0_56, gi3_56, gi4_56, gi7_56, gi7_24, cl0, cl3, cl4, cl7, gi1_56, gi2_56, gi5_56, gi6_56, cl1, cl2, cl5, cl6, y1, a1, os, o1, q1, q2, q3]
        · simp (maxSteps := 1000000) (disch := omega) only [f_L_isSale_831, f_L_isSale_832, f_L_isSale_887, f_L_isSale_928, f_L_isSale_936, ↓reduceIte, ite_self, iL8t, iL8f, iL4t, iL4f, iL3t, iL3f, iL100001t, iL100001f, iL10001t, iL10001f, iL501t, iL501f, iL100000001t, iL100000001f, iL10t, iL10f, iL10000001t, iL10000001f, iL101t, iL101f, iL100t, iL100f, iL51t, iL51f, iL9t, iL9f, iL1t, iL1f, iL2t, iL2f, iL7t, iL7f, iL29t, iL29f, iR0t, iR0f, iR100t, iR100f, iR10t, iR10f, iE0t, iE0f, iE1t, iE1f, iE2t, iE2f, iE3t, iE3f, iE4t, iE4f, iE5t, iE5f, iE6t, iE6f, iE7t, iE7f, iE8t, iE8f, iE9t, iE9f, iE10t, iE10f, iE11t, iE11f, iE12t, iE12f, iE13t, iE13f, iBt, iBf, i1_0, i0_0, i0_1, iSt, rm9, rm4, rm100002, rm2, rm5, rm10002, rm200, rm502, rm20, rm30000, rm3, rm4000, rm3000, rm11, rm13, rm40, rm6, rq4_3, rq4_120, rq2_3, rq2_90, rq7_5, rq7_10002, rq7_60, rq5_4, rq9_5, rq45_11, rq45_3, rq9_102, rq4_9, rq36_10, rq36_3, rq11_12, rq132_102, rq11_30, rq396_3, rq40_9, rq40_6, mu2, mu1700, mu1701, mu167, mv10, mv51, mv4, mv8, ad1, ad100, ad60, ad5, ad8, ad12, ad16, ad24, ad32, ad40, ad48, nI_add, nI_1, ap2, ap3, ap4, ap5, ap6, g_inN, nI_clamp, gq_l_e, gq_b_s, g_bb0, g_bb1, gi0_56, gi3_56, gi4_56, gi7_56, gi7_24, cl0, cl3, cl4, cl7, gi1_56, gi2_56, gi5_56, gi6_56, cl1, cl2, cl5, cl6, y1, a1, os, q1, q2]
      · simp (maxSteps := 1000000) (disch := omega) only [f_L_isSale_831, f_L_isSale_832, f_L_isSale_887, f_L_isSale_928, f_L_isSale_936, ↓reduceIte, ite_self, iL8t, iL8f, iL4t, iL4f, iL3t, iL3f, iL100001t, iL100001f, iL10001t, iL10001f, iL501t, iL501f, iL100000001t, iL100000001f, iL10t, iL10f, iL10000001t, iL10000001f, iL101t, iL101f, iL100t, iL100f, iL51t, iL51f, iL9t, iL9f, iL1t, iL1f, iL2t, iL2f, iL7t, iL7f, iL29t, iL29f, iR0t, iR0f, iR100t, iR100f, iR10t, iR10f, iE0t, iE0f, iE1t, iE1f, iE2t, iE2f, iE3t, iE3f, iE4t, iE4f, iE5t, iE5f, iE6t, iE6f, iE7t, iE7f, iE8t, iE8f, iE9t, iE9f, iE10t, iE10f, iE11t, iE11f, iE12t, iE12f, iE13t, iE13f, iBt, iBf, i1_0, i0_0, i0_1, iSt, rm9, rm4, rm100002, rm2, rm5, rm10002, rm200, rm502, rm20, rm30000, rm3, rm4000, rm3000, rm11, rm13, rm40, rm6, rq4_3, rq4_120, rq2_3, rq2_90, rq7_5, rq7_10002, rq7_60, rq5_4, rq9_5, rq45_11, rq45_3, rq9_102, rq4_9, rq36_10, rq36_3, rq11_12, rq132_102, rq11_30, rq396_3, rq40_9, rq40_6, mu2, mu1700, mu1701, mu167, mv10, mv51, mv4, mv8, ad1, ad100, ad60, ad5, ad8, ad12, ad16, ad24, ad32, ad40, ad48, nI_add, nI_1, ap2, ap3, ap4, ap5, ap6, g_inN, nI_clamp, gq_l_e, gq_b_s, g_bb0, g_bb1, gi0_56, gi3_56, gi4_56, gi7_56, gi7_24, cl0, cl3, cl4, cl7, gi1_56, gi2_56, gi5_56, gi6_56, cl1, cl2, cl5, cl6, y1, a1, q1]
  · have hr := e_press_n (N := N) (R := R) (by omega) (by omega) c1
    obtain ⟨M2, y1, y2, y3⟩ := y_press (N := N) (M := M) (hN := hN) (a3 := 0) (a4 := 0) (a5 := 0) (a6 := 0) (x := -300000000) I hr rfl
    refine ⟨M2, _, ?_, y2, pk_mc (pk_thr H) y3⟩
    rw [bI_f c1]
    simp (maxSteps := 1000000) (disch := omega) only [f_L_isSale_831, f_L_isSale_832, f_L_isSale_887, f_L_isSale_928, f_L_isSale_936, ↓reduceIte, ite_self, iL8t, iL8f, iL4t, iL4f, iL3t, iL3f, iL100001t, iL100001f, iL10001t, iL10001f, iL501t, iL501f, iL100000001t, iL100000001f, iL10t, iL10f, iL10000001t, iL10000001f, iL101t, iL101f, iL100t, iL100f, iL51t, iL51f, iL9t, iL9f, iL1t, iL1f, iL2t, iL2f, iL7t, iL7f, iL29t, iL29f, iR0t, iR0f, iR100t, iR100f, iR10t, iR10f, iE0t, iE0f, iE1t, iE1f, iE2t, iE2f, iE3t, iE3f, iE4t, iE4f, iE5t, iE5f, iE6t, iE6f, iE7t, iE7f, iE8t, iE8f, iE9t, iE9f, iE10t, iE10f, iE11t, iE11f, iE12t, iE12f, iE13t, iE13f, iBt, iBf, i1_0, i0_0, i0_1, iSt, rm9, rm4, rm100002, rm2, rm5, rm10002, rm200, rm502, rm20, rm30000, rm3, rm4000, rm3000, rm11, rm13, rm40, rm6, rq4_3, rq4_120, rq2_3, rq2_90, rq7_5, rq7_10002, rq7_60, rq5_4, rq9_5, rq45_11, rq45_3, rq9_102, rq4_9, rq36_10, rq36_3, rq11_12, rq132_102, rq11_30, rq396_3, rq40_9, rq40_6, mu2, mu1700, mu1701, mu167, mv10, mv51, mv4, mv8, ad1, ad100, ad60, ad5, ad8, ad12, ad16, ad24, ad32, ad40, ad48, nI_add, nI_1, ap2, ap3, ap4, ap5, ap6, g_inN, nI_clamp, gq_l_e, gq_b_s, g_bb0, g_bb1, gi0_56, gi3_56, gi4_56, gi7_56, gi7_24, cl0, cl3, cl4, cl7, gi1_56, gi2_56, gi5_56, gi6_56, cl1, cl2, cl5, cl6, y1]
end

