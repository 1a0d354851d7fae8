/-! take -/
section
variable {N nb nl nr tn dn : Nat} {M R : gq_M}
theorem e_take_1 {bu ha : Nat} {x : Int32} (hbu : bu < 2 ^ 31) (hha : ha < 2 ^ 31) (c : ¬ (bu < 8 ∧ ha < 3)) : f_X10_take N (nI bu) (nI ha) x R = some (0, thr R 1) := by
  by_cases c1 : bu < 8
  · have k1 : vp_in (nI bu) 8 := vpY c1 (by omega)
    have k2 : ¬ vp_in (nI ha) 3 := vpN (fun z => c ⟨c1, z⟩) (by omega) (by omega)
    simp (maxSteps := 400000) (disch := omega) only [f_X10_take, e8a, e8b, e4a, e4b, e3a, e3b, ↓b_isEight, ↓b_isKind, ↓b_isHall, ↓b_areCents, ↓b_isBox, ↓b_isIn, ↓b_fails, ↓gq_b_s, ↓gq_l_e, ↓g_inN, g_inN, ↓g_bb0, ↓g_bb1, ↓g_bbI, bI_z, Classical.not_not, ↓reduceIte, not_true_eq_false, not_false_eq_true, f01, f02, f03, f00, f10, f01b, ite_not, ite_self, and_self, nI_clamp, thr_r, thr_s, k1, k2]
    simp (maxSteps := 400000) (disch := omega) only [f_X10_take_18, f_X10_take_19, e8a, e8b, e4a, e4b, e3a, e3b, ↓b_isEight, ↓b_isKind, ↓b_isHall, ↓b_areCents, ↓b_isBox, ↓b_isIn, ↓b_fails, ↓gq_b_s, ↓gq_l_e, ↓g_inN, g_inN, ↓g_bb0, ↓g_bb1, ↓g_bbI, bI_z, Classical.not_not, ↓reduceIte, not_true_eq_false, not_false_eq_true, f01, f02, f03, f00, f10, f01b, ite_not, ite_self, and_self, nI_clamp, thr_r, thr_s, k1, k2]
    simp (maxSteps := 400000) (disch := omega) only [f_X10_take_59, f_X10_take_60, e8a, e8b, e4a, e4b, e3a, e3b, ↓b_isEight, ↓b_isKind, ↓b_isHall, ↓b_areCents, ↓b_isBox, ↓b_isIn, ↓b_fails, ↓gq_b_s, ↓gq_l_e, ↓g_inN, g_inN, ↓g_bb0, ↓g_bb1, ↓g_bbI, bI_z, Classical.not_not, ↓reduceIte, not_true_eq_false, not_false_eq_true, f01, f02, f03, f00, f10, f01b, ite_not, ite_self, and_self, nI_clamp, thr_r, thr_s, k1, k2]
    simp (maxSteps := 400000) (disch := omega) only [f_X10_take_114, f_X10_take_115, e8a, e8b, e4a, e4b, e3a, e3b, ↓b_isEight, ↓b_isKind, ↓b_isHall, ↓b_areCents, ↓b_isBox, ↓b_isIn, ↓b_fails, ↓gq_b_s, ↓gq_l_e, ↓g_inN, g_inN, ↓g_bb0, ↓g_bb1, ↓g_bbI, bI_z, Classical.not_not, ↓reduceIte, not_true_eq_false, not_false_eq_true, f01, f02, f03, f00, f10, f01b, ite_not, ite_self, and_self, nI_clamp, thr_r, thr_s, k1, k2]
    simp (maxSteps := 400000) (disch := omega) only [f_X10_take_137, e8a, e8b, e4a, e4b, e3a, e3b, ↓b_isEight, ↓b_isKind, ↓b_isHall, ↓b_areCents, ↓b_isBox, ↓b_isIn, ↓b_fails, ↓gq_b_s, ↓gq_l_e, ↓g_inN, g_inN, ↓g_bb0, ↓g_bb1, ↓g_bbI, bI_z, Classical.not_not, ↓reduceIte, not_true_eq_false, not_false_eq_true, f01, f02, f03, f00, f10, f01b, ite_not, ite_self, and_self, nI_clamp, thr_r, thr_s, k1, k2]
  · have k1 : ¬ vp_in (nI bu) 8 := vpN c1 (by omega) (by omega)
    simp (maxSteps := 400000) (disch := omega) only [f_X10_take, e8a, e8b, e4a, e4b, e3a, e3b, ↓b_isEight, ↓b_isKind, ↓b_isHall, ↓b_areCents, ↓b_isBox, ↓b_isIn, ↓b_fails, ↓gq_b_s, ↓gq_l_e, ↓g_inN, g_inN, ↓g_bb0, ↓g_bb1, ↓g_bbI, bI_z, Classical.not_not, ↓reduceIte, not_true_eq_false, not_false_eq_true, f01, f02, f03, f00, f10, f01b, ite_not, ite_self, and_self, nI_clamp, thr_r, thr_s, k1]
    simp (maxSteps := 400000) (disch := omega) only [f_X10_take_18, f_X10_take_19, e8a, e8b, e4a, e4b, e3a, e3b, ↓b_isEight, ↓b_isKind, ↓b_isHall, ↓b_areCents, ↓b_isBox, ↓b_isIn, ↓b_fails, ↓gq_b_s, ↓gq_l_e, ↓g_inN, g_inN, ↓g_bb0, ↓g_bb1, ↓g_bbI, bI_z, Classical.not_not, ↓reduceIte, not_true_eq_false, not_false_eq_true, f01, f02, f03, f00, f10, f01b, ite_not, ite_self, and_self, nI_clamp, thr_r, thr_s, k1]
    simp (maxSteps := 400000) (disch := omega) only [f_X10_take_59, f_X10_take_60, e8a, e8b, e4a, e4b, e3a, e3b, ↓b_isEight, ↓b_isKind, ↓b_isHall, ↓b_areCents, ↓b_isBox, ↓b_isIn, ↓b_fails, ↓gq_b_s, ↓gq_l_e, ↓g_inN, g_inN, ↓g_bb0, ↓g_bb1, ↓g_bbI, bI_z, Classical.not_not, ↓reduceIte, not_true_eq_false, not_false_eq_true, f01, f02, f03, f00, f10, f01b, ite_not, ite_self, and_self, nI_clamp, thr_r, thr_s, k1]
    simp (maxSteps := 400000) (disch := omega) only [f_X10_take_114, f_X10_take_115, e8a, e8b, e4a, e4b, e3a, e3b, ↓b_isEight, ↓b_isKind, ↓b_isHall, ↓b_areCents, ↓b_isBox, ↓b_isIn, ↓b_fails, ↓gq_b_s, ↓gq_l_e, ↓g_inN, g_inN, ↓g_bb0, ↓g_bb1, ↓g_bbI, bI_z, Classical.not_not, ↓reduceIte, not_true_eq_false, not_false_eq_true, f01, f02, f03, f00, f10, f01b, ite_not, ite_self, and_self, nI_clamp, thr_r, thr_s, k1]
    simp (maxSteps := 400000) (disch := omega) only [f_X10_take_137, e8a, e8b, e4a, e4b, e3a, e3b, ↓b_isEight, ↓b_isKind, ↓b_isHall, ↓b_areCents, ↓b_isBox, ↓b_isIn, ↓b_fails, ↓gq_b_s, ↓gq_l_e, ↓g_inN, g_inN, ↓g_bb0, ↓g_bb1, ↓g_bbI, bI_z, Classical.not_not, ↓reduceIte, not_true_eq_false, not_false_eq_true, f01, f02, f03, f00, f10, f01b, ite_not, ite_self, and_self, nI_clamp, thr_r, thr_s, k1]
def his (R : gq_M) (bu ha : Nat) : Prop := (R 35 ha = 3 ∧ R 34 ha = 1) ∧ R 39 ha = nI bu
theorem e_take_2 {bu ha : Nat} {x : Int32} (hbu : bu < 8) (hha : ha < 3) (hp : bit (R 34 ha)) (c : ¬ his R bu ha) : f_X10_take N (nI bu) (nI ha) x R = some (0, thr R 2) := by
  have k1 : vp_in (nI bu) 8 := vpY hbu (by omega)
  have k2 : vp_in (nI ha) 3 := vpY hha (by omega)
  by_cases q1 : R 35 ha = 3
  · rcases hp with q2 | q2
    · simp (maxSteps := 400000) (disch := omega) only [f_X10_take, e8a, e8b, e4a, e4b, e3a, e3b, ↓b_isEight, ↓b_isKind, ↓b_isHall, ↓b_areCents, ↓b_isBox, ↓b_isIn, ↓b_fails, ↓gq_b_s, ↓gq_l_e, ↓g_inN, g_inN, ↓g_bb0, ↓g_bb1, ↓g_bbI, bI_z, Classical.not_not, ↓reduceIte, not_true_eq_false, not_false_eq_true, f01, f02, f03, f00, f10, f01b, ite_not, ite_self, and_self, nI_clamp, thr_r, thr_s, k1, k2, q1, q2]
      simp (maxSteps := 400000) (disch := omega) only [f_X10_take_18, f_X10_take_19, e8a, e8b, e4a, e4b, e3a, e3b, ↓b_isEight, ↓b_isKind, ↓b_isHall, ↓b_areCents, ↓b_isBox, ↓b_isIn, ↓b_fails, ↓gq_b_s, ↓gq_l_e, ↓g_inN, g_inN, ↓g_bb0, ↓g_bb1, ↓g_bbI, bI_z, Classical.not_not, ↓reduceIte, not_true_eq_false, not_false_eq_true, f01, f02, f03, f00, f10, f01b, ite_not, ite_self, and_self, nI_clamp, thr_r, thr_s, k1, k2, q1, q2]
      simp (maxSteps := 400000) (disch := omega) only [f_X10_take_59, f_X10_take_60, e8a, e8b, e4a, e4b, e3a, e3b, ↓b_isEight, ↓b_isKind, ↓b_isHall, ↓b_areCents, ↓b_isBox, ↓b_isIn, ↓b_fails, ↓gq_b_s, ↓gq_l_e, ↓g_inN, g_inN, ↓g_bb0, ↓g_bb1, ↓g_bbI, bI_z, Classical.not_not, ↓reduceIte, not_true_eq_false, not_false_eq_true, f01, f02, f03, f00, f10, f01b, ite_not, ite_self, and_self, nI_clamp, thr_r, thr_s, k1, k2, q1, q2]
      simp (maxSteps := 400000) (disch := omega) only [f_X10_take_114, f_X10_take_115, e8a, e8b, e4a, e4b, e3a, e3b, ↓b_isEight, ↓b_isKind, ↓b_isHall, ↓b_areCents, ↓b_isBox, ↓b_isIn, ↓b_fails, ↓gq_b_s, ↓gq_l_e, ↓g_inN, g_inN, ↓g_bb0, ↓g_bb1, ↓g_bbI, bI_z, Classical.not_not, ↓reduceIte, not_true_eq_false, not_false_eq_true, f01, f02, f03, f00, f10, f01b, ite_not, ite_self, and_self, nI_clamp, thr_r, thr_s, k1, k2, q1, q2]
      simp (maxSteps := 400000) (disch := omega) only [f_X10_take_137, e8a, e8b, e4a, e4b, e3a, e3b, ↓b_isEight, ↓b_isKind, ↓b_isHall, ↓b_areCents, ↓b_isBox, ↓b_isIn, ↓b_fails, ↓gq_b_s, ↓gq_l_e, ↓g_inN, g_inN, ↓g_bb0, ↓g_bb1, ↓g_bbI, bI_z, Classical.not_not, ↓reduceIte, not_true_eq_false, not_false_eq_true, f01, f02, f03, f00, f10, f01b, ite_not, ite_self, and_self, nI_clamp, thr_r, thr_s, k1, k2, q1, q2]
    · have q3 : (R 39 ha = nI bu) = False := eq_false (fun z => c ⟨⟨q1, q2⟩, z⟩)
      simp (maxSteps := 400000) (disch := omega) only [f_X10_take, e8a, e8b, e4a, e4b, e3a, e3b, ↓b_isEight, ↓b_isKind, ↓b_isHall, ↓b_areCents, ↓b_isBox, ↓b_isIn, ↓b_fails, ↓gq_b_s, ↓gq_l_e, ↓g_inN, g_inN, ↓g_bb0, ↓g_bb1, ↓g_bbI, bI_z, Classical.not_not, ↓reduceIte, not_true_eq_false, not_false_eq_true, f01, f02, f03, f00, f10, f01b, ite_not, ite_self, and_self, nI_clamp, thr_r, thr_s, k1, k2, q1, q2, q3]
      simp (maxSteps := 400000) (disch := omega) only [f_X10_take_18, f_X10_take_19, e8a, e8b, e4a, e4b, e3a, e3b, ↓b_isEight, ↓b_isKind, ↓b_isHall, ↓b_areCents, ↓b_isBox, ↓b_isIn, ↓b_fails, ↓gq_b_s, ↓gq_l_e, ↓g_inN, g_inN, ↓g_bb0, ↓g_bb1, ↓g_bbI, bI_z, Classical.not_not, ↓reduceIte, not_true_eq_false, not_false_eq_true, f01, f02, f03, f00, f10, f01b, ite_not, ite_self, and_self, nI_clamp, thr_r, thr_s, k1, k2, q1, q2, q3]
      simp (maxSteps := 400000) (disch := omega) only [f_X10_take_59, f_X10_take_60, e8a, e8b, e4a, e4b, e3a, e3b, ↓b_isEight, ↓b_isKind, ↓b_isHall, ↓b_areCents, ↓b_isBox, ↓b_isIn, ↓b_fails, ↓gq_b_s, ↓gq_l_e, ↓g_inN, g_inN, ↓g_bb0, ↓g_bb1, ↓g_bbI, bI_z, Classical.not_not, ↓reduceIte, not_true_eq_false, not_false_eq_true, f01, f02, f03, f00, f10, f01b, ite_not, ite_self, and_self, nI_clamp, thr_r, thr_s, k1, k2, q1, q2, q3]
      simp (maxSteps := 400000) (disch := omega) only [f_X10_take_114, f_X10_take_115, e8a, e8b, e4a, e4b, e3a, e3b, ↓b_isEight, ↓b_isKind, ↓b_isHall, ↓b_areCents, ↓b_isBox, ↓b_isIn, ↓b_fails, ↓gq_b_s, ↓gq_l_e, ↓g_inN, g_inN, ↓g_bb0, ↓g_bb1, ↓g_bbI, bI_z, Classical.not_not, ↓reduceIte, not_true_eq_false, not_false_eq_true, f01, f02, f03, f00, f10, f01b, ite_not, ite_self, and_self, nI_clamp, thr_r, thr_s, k1, k2, q1, q2, q3]
      simp (maxSteps := 400000) (disch := omega) only [f_X10_take_137, e8a, e8b, e4a, e4b, e3a, e3b, ↓b_isEight, ↓b_isKind, ↓b_isHall, ↓b_areCents, ↓b_isBox, ↓b_isIn, ↓b_fails, ↓gq_b_s, ↓gq_l_e, ↓g_inN, g_inN, ↓g_bb0, ↓g_bb1, ↓g_bbI, bI_z, Classical.not_not, ↓reduceIte, not_true_eq_false, not_false_eq_true, f01, f02, f03, f00, f10, f01b, ite_not, ite_self, and_self, nI_clamp, thr_r, thr_s, k1, k2, q1, q2, q3]
  · simp (maxSteps := 400000) (disch := omega) only [f_X10_take, e8a, e8b, e4a, e4b, e3a, e3b, ↓b_isEight, ↓b_isKind, ↓b_isHall, ↓b_areCents, ↓b_isBox, ↓b_isIn, ↓b_fails, ↓gq_b_s, ↓gq_l_e, ↓g_inN, g_inN, ↓g_bb0, ↓g_bb1, ↓g_bbI, bI_z, Classical.not_not, ↓reduceIte, not_true_eq_false, not_false_eq_true, f01, f02, f03, f00, f10, f01b, ite_not, ite_self, and_self, nI_clamp, thr_r, thr_s, k1, k2, q1]
    simp (maxSteps := 400000) (disch := omega) only [f_X10_take_18, f_X10_take_19, e8a, e8b, e4a, e4b, e3a, e3b, ↓b_isEight, ↓b_isKind, ↓b_isHall, ↓b_areCents, ↓b_isBox, ↓b_isIn, ↓b_fails, ↓gq_b_s, ↓gq_l_e, ↓g_inN, g_inN, ↓g_bb0, ↓g_bb1, ↓g_bbI, bI_z, Classical.not_not, ↓reduceIte, not_true_eq_false, not_false_eq_true, f01, f02, f03, f00, f10, f01b, ite_not, ite_self, and_self, nI_clamp, thr_r, thr_s, k1, k2, q1]
    simp (maxSteps := 400000) (disch := omega) only [f_X10_take_59, f_X10_take_60, e8a, e8b, e4a, e4b, e3a, e3b, ↓b_isEight, ↓b_isKind, ↓b_isHall, ↓b_areCents, ↓b_isBox, ↓b_isIn, ↓b_fails, ↓gq_b_s, ↓gq_l_e, ↓g_inN, g_inN, ↓g_bb0, ↓g_bb1, ↓g_bbI, bI_z, Classical.not_not, ↓reduceIte, not_true_eq_false, not_false_eq_true, f01, f02, f03, f00, f10, f01b, ite_not, ite_self, and_self, nI_clamp, thr_r, thr_s, k1, k2, q1]
    simp (maxSteps := 400000) (disch := omega) only [f_X10_take_114, f_X10_take_115, e8a, e8b, e4a, e4b, e3a, e3b, ↓b_isEight, ↓b_isKind, ↓b_isHall, ↓b_areCents, ↓b_isBox, ↓b_isIn, ↓b_fails, ↓gq_b_s, ↓gq_l_e, ↓g_inN, g_inN, ↓g_bb0, ↓g_bb1, ↓g_bbI, bI_z, Classical.not_not, ↓reduceIte, not_true_eq_false, not_false_eq_true, f01, f02, f03, f00, f10, f01b, ite_not, ite_self, and_self, nI_clamp, thr_r, thr_s, k1, k2, q1]
    simp (maxSteps := 400000) (disch := omega) only [f_X10_take_137, e8a, e8b, e4a, e4b, e3a, e3b, ↓b_isEight, ↓b_isKind, ↓b_isHall, ↓b_areCents, ↓b_isBox, ↓b_isIn, ↓b_fails, ↓gq_b_s, ↓gq_l_e, ↓g_inN, g_inN, ↓g_bb0, ↓g_bb1, ↓g_bbI, bI_z, Classical.not_not, ↓reduceIte, not_true_eq_false, not_false_eq_true, f01, f02, f03, f00, f10, f01b, ite_not, ite_self, and_self, nI_clamp, thr_r, thr_s, k1, k2, q1]
theorem e_take_3 {bu ha a m len : Nat} (hN : 600 ≤ N) (hbu : bu < 8) (hha : ha < 3) (c : his R bu ha) (hn : R 0 16 = nI nb) (hb : nb ≤ 40) (ha2 : R 36 ha = nI a) (hl : (offl nb (R 26) (R 19) a).length = len) (hm : m < 2 ^ 31) (hlen : len < 2 ^ 31) (h : ¬ (1 ≤ m ∧ m ≤ len)) : f_X10_take N (nI bu) (nI ha) (nI m) R = some (0, thr R 2) := by
  have k1 : vp_in (nI bu) 8 := vpY hbu (by omega)
  have k2 : vp_in (nI ha) 3 := vpY hha (by omega)
  obtain ⟨⟨q1, q2⟩, q3⟩ := c
  have q3t := eq_true q3
  have hlo := r_leftOf (N := N) (M := R) (nb := nb) (l := a) hn (by omega) hN
  rw [hl] at hlo
  have q4 : ¬ ((1 : Int32) ≤ nI m ∧ nI m ≤ nI len) := ibf (a := 1) h hm (by omega) hlen
  simp (maxSteps := 400000) (disch := omega) only [f_X10_take, e8a, e8b, e4a, e4b, e3a, e3b, ↓b_isEight, ↓b_isKind, ↓b_isHall, ↓b_areCents, ↓b_isBox, ↓b_isIn, ↓b_fails, ↓gq_b_s, ↓gq_l_e, ↓g_inN, g_inN, ↓g_bb0, ↓g_bb1, ↓g_bbI, bI_z, Classical.not_not, ↓reduceIte, not_true_eq_false, not_false_eq_true, f01, f02, f03, f00, f10, f01b, ite_not, ite_self, and_self, nI_clamp, thr_r, thr_s, k1, k2, q1, q2, q3t, ha2, hlo, q4]
  simp (maxSteps := 400000) (disch := omega) only [f_X10_take_18, f_X10_take_19, e8a, e8b, e4a, e4b, e3a, e3b, ↓b_isEight, ↓b_isKind, ↓b_isHall, ↓b_areCents, ↓b_isBox, ↓b_isIn, ↓b_fails, ↓gq_b_s, ↓gq_l_e, ↓g_inN, g_inN, ↓g_bb0, ↓g_bb1, ↓g_bbI, bI_z, Classical.not_not, ↓reduceIte, not_true_eq_false, not_false_eq_true, f01, f02, f03, f00, f10, f01b, ite_not, ite_self, and_self, nI_clamp, thr_r, thr_s, k1, k2, q1, q2, q3t, ha2, hlo, q4]
  simp (maxSteps := 400000) (disch := omega) only [f_X10_take_59, f_X10_take_60, e8a, e8b, e4a, e4b, e3a, e3b, ↓b_isEight, ↓b_isKind, ↓b_isHall, ↓b_areCents, ↓b_isBox, ↓b_isIn, ↓b_fails, ↓gq_b_s, ↓gq_l_e, ↓g_inN, g_inN, ↓g_bb0, ↓g_bb1, ↓g_bbI, bI_z, Classical.not_not, ↓reduceIte, not_true_eq_false, not_false_eq_true, f01, f02, f03, f00, f10, f01b, ite_not, ite_self, and_self, nI_clamp, thr_r, thr_s, k1, k2, q1, q2, q3t, ha2, hlo, q4]
  simp (maxSteps := 400000) (disch := omega) only [f_X10_take_114, f_X10_take_115, e8a, e8b, e4a, e4b, e3a, e3b, ↓b_isEight, ↓b_isKind, ↓b_isHall, ↓b_areCents, ↓b_isBox, ↓b_isIn, ↓b_fails, ↓gq_b_s, ↓gq_l_e, ↓g_inN, g_inN, ↓g_bb0, ↓g_bb1, ↓g_bbI, bI_z, Classical.not_not, ↓reduceIte, not_true_eq_false, not_false_eq_true, f01, f02, f03, f00, f10, f01b, ite_not, ite_self, and_self, nI_clamp, thr_r, thr_s, k1, k2, q1, q2, q3t, ha2, hlo, q4]
  simp (maxSteps := 400000) (disch := omega) only [f_X10_take_137, e8a, e8b, e4a, e4b, e3a, e3b, ↓b_isEight, ↓b_isKind, ↓b_isHall, ↓b_areCents, ↓b_isBox, ↓b_isIn, ↓b_fails, ↓gq_b_s, ↓gq_l_e, ↓g_inN, g_inN, ↓g_bb0, ↓g_bb1, ↓g_bbI, bI_z, Classical.not_not, ↓reduceIte, not_true_eq_false, not_false_eq_true, f01, f02, f03, f00, f10, f01b, ite_not, ite_self, and_self, nI_clamp, thr_r, thr_s, k1, k2, q1, q2, q3t, ha2, hlo, q4]
theorem e_take_4 {bu ha a m len p : Nat} (hN : 600 ≤ N) (hbu : bu < 8) (hha : ha < 3) (c : his R bu ha) (hn : R 0 16 = nI nb) (hb : nb ≤ 40) (ha2 : R 36 ha = nI a) (hp : R 37 ha = nI p) (hl : (offl nb (R 26) (R 19) a).length = len) (hm : m ≤ 150) (hlen : len < 2 ^ 31) (h : 1 ≤ m ∧ m ≤ len) (hc : ¬ lsum ((offl nb (R 26) (R 19) a).take m) (R 17) * nI p ≤ R 9 bu - R 11 bu) : f_X10_take N (nI bu) (nI ha) (nI m) R = some (0, thr R 2) := by
  have k1 : vp_in (nI bu) 8 := vpY hbu (by omega)
  have k2 : vp_in (nI ha) 3 := vpY hha (by omega)
  obtain ⟨⟨q1, q2⟩, q3⟩ := c
  have q3t := eq_true q3
  have hlo := r_leftOf (N := N) (M := R) (nb := nb) (l := a) hn (by omega) hN
  rw [hl] at hlo
  have q4 : (1 : Int32) ≤ nI m ∧ nI m ≤ nI len := ibt (a := 1) h hlen
  have hcR0 : f_X10_costOf N (nI a) (nI m) (nI p) R = some (lsum ((offl nb (R 26) (R 19) a).take m) (R 17) * nI p, R) := r_cost (N := N) (m := m) (M := R) hn (by omega) (by omega) hN
  generalize lsum ((offl nb (R 26) (R 19) a).take m) (R 17) * nI p = cost at hcR0 hc
  simp (maxSteps := 400000) (disch := omega) only [f_X10_take, e8a, e8b, e4a, e4b, e3a, e3b, ↓b_isEight, ↓b_isKind, ↓b_isHall, ↓b_areCents, ↓b_isBox, ↓b_isIn, ↓b_fails, ↓gq_b_s, ↓gq_l_e, ↓g_inN, g_inN, ↓g_bb0, ↓g_bb1, ↓g_bbI, bI_z, Classical.not_not, ↓reduceIte, not_true_eq_false, not_false_eq_true, f01, f02, f03, f00, f10, f01b, ite_not, ite_self, and_self, nI_clamp, thr_r, thr_s, k1, k2, q1, q2, q3t, ha2, hp, hlo, q4, hcR0, b_canPay, hc]
  simp (maxSteps := 400000) (disch := omega) only [f_X10_take_18, f_X10_take_19, e8a, e8b, e4a, e4b, e3a, e3b, ↓b_isEight, ↓b_isKind, ↓b_isHall, ↓b_areCents, ↓b_isBox, ↓b_isIn, ↓b_fails, ↓gq_b_s, ↓gq_l_e, ↓g_inN, g_inN, ↓g_bb0, ↓g_bb1, ↓g_bbI, bI_z, Classical.not_not, ↓reduceIte, not_true_eq_false, not_false_eq_true, f01, f02, f03, f00, f10, f01b, ite_not, ite_self, and_self, nI_clamp, thr_r, thr_s, k1, k2, q1, q2, q3t, ha2, hp, hlo, q4, hcR0, b_canPay, hc]
  simp (maxSteps := 400000) (disch := omega) only [f_X10_take_59, f_X10_take_60, e8a, e8b, e4a, e4b, e3a, e3b, ↓b_isEight, ↓b_isKind, ↓b_isHall, ↓b_areCents, ↓b_isBox, ↓b_isIn, ↓b_fails, ↓gq_b_s, ↓gq_l_e, ↓g_inN, g_inN, ↓g_bb0, ↓g_bb1, ↓g_bbI, bI_z, Classical.not_not, ↓reduceIte, not_true_eq_false, not_false_eq_true, f01, f02, f03, f00, f10, f01b, ite_not, ite_self, and_self, nI_clamp, thr_r, thr_s, k1, k2, q1, q2, q3t, ha2, hp, hlo, q4, hcR0, b_canPay, hc]
  simp (maxSteps := 400000) (disch := omega) only [f_X10_take_114, f_X10_take_115, e8a, e8b, e4a, e4b, e3a, e3b, ↓b_isEight, ↓b_isKind, ↓b_isHall, ↓b_areCents, ↓b_isBox, ↓b_isIn, ↓b_fails, ↓gq_b_s, ↓gq_l_e, ↓g_inN, g_inN, ↓g_bb0, ↓g_bb1, ↓g_bbI, bI_z, Classical.not_not, ↓reduceIte, not_true_eq_false, not_false_eq_true, f01, f02, f03, f00, f10, f01b, ite_not, ite_self, and_self, nI_clamp, thr_r, thr_s, k1, k2, q1, q2, q3t, ha2, hp, hlo, q4, hcR0, b_canPay, hc]
  simp (maxSteps := 400000) (disch := omega) only [f_X10_take_137, e8a, e8b, e4a, e4b, e3a, e3b, ↓b_isEight, ↓b_isKind, ↓b_isHall, ↓b_areCents, ↓b_isBox, ↓b_isIn, ↓b_fails, ↓gq_b_s, ↓gq_l_e, ↓g_inN, g_inN, ↓g_bb0, ↓g_bb1, ↓g_bbI, bI_z, Classical.not_not, ↓reduceIte, not_true_eq_false, not_false_eq_true, f01, f02, f03, f00, f10, f01b, ite_not, ite_self, and_self, nI_clamp, thr_r, thr_s, k1, k2, q1, q2, q3t, ha2, hp, hlo, q4, hcR0, b_canPay, hc]
theorem e_take_5 {bu ha a m len p : Nat} {R2 : gq_M} (hN : 600 ≤ N) (hbu : bu < 8) (hha : ha < 3) (c : his R bu ha) (hn : R 0 16 = nI nb) (hb : nb ≤ 40) (ha2 : R 36 ha = nI a) (hp : R 37 ha = nI p) (hl : (offl nb (R 26) (R 19) a).length = len) (hm : m ≤ 150) (hlen : len < 2 ^ 31) (h : 1 ≤ m ∧ m ≤ len) (hc : lsum ((offl nb (R 26) (R 19) a).take m) (R 17) * nI p ≤ R 9 bu - R 11 bu) (hg : f_X10_gets N (nI ha) (nI m) (thr R 0) = some (0, R2)) : f_X10_take N (nI bu) (nI ha) (nI m) R = some (lsum ((offl nb (R 26) (R 19) a).take m) (R 17) * nI p, R2) := by
  have k1 : vp_in (nI bu) 8 := vpY hbu (by omega)
  have k2 : vp_in (nI ha) 3 := vpY hha (by omega)
  obtain ⟨⟨q1, q2⟩, q3⟩ := c
  have q3t := eq_true q3
  have hlo := r_leftOf (N := N) (M := R) (nb := nb) (l := a) hn (by omega) hN
  rw [hl] at hlo
  have q4 : (1 : Int32) ≤ nI m ∧ nI m ≤ nI len := ibt (a := 1) h hlen
  have hcR0 : f_X10_costOf N (nI a) (nI m) (nI p) R = some (lsum ((offl nb (R 26) (R 19) a).take m) (R 17) * nI p, R) := r_cost (N := N) (m := m) (M := R) hn (by omega) (by omega) hN
  have hcR : ∀ v, f_X10_costOf N (nI a) (nI m) (nI p) (thr R v) = some (lsum ((offl nb (R 26) (R 19) a).take m) (R 17) * nI p, thr R v) := fun v => r_cost (N := N) (m := m) (M := thr R v) hn (by omega) (by omega) hN
  generalize lsum ((offl nb (R 26) (R 19) a).take m) (R 17) * nI p = cost at hcR0 hc hcR
  simp (maxSteps := 400000) (disch := omega) only [f_X10_take, e8a, e8b, e4a, e4b, e3a, e3b, ↓b_isEight, ↓b_isKind, ↓b_isHall, ↓b_areCents, ↓b_isBox, ↓b_isIn, ↓b_fails, ↓gq_b_s, ↓gq_l_e, ↓g_inN, g_inN, ↓g_bb0, ↓g_bb1, ↓g_bbI, bI_z, Classical.not_not, ↓reduceIte, not_true_eq_false, not_false_eq_true, f01, f02, f03, f00, f10, f01b, ite_not, ite_self, and_self, nI_clamp, thr_r, thr_s, k1, k2, q1, q2, q3t, ha2, hp, hlo, q4, hcR0, hcR, b_canPay, hc, hg]
  simp (maxSteps := 400000) (disch := omega) only [f_X10_take_18, f_X10_take_19, e8a, e8b, e4a, e4b, e3a, e3b, ↓b_isEight, ↓b_isKind, ↓b_isHall, ↓b_areCents, ↓b_isBox, ↓b_isIn, ↓b_fails, ↓gq_b_s, ↓gq_l_e, ↓g_inN, g_inN, ↓g_bb0, ↓g_bb1, ↓g_bbI, bI_z, Classical.not_not, ↓reduceIte, not_true_eq_false, not_false_eq_true, f01, f02, f03, f00, f10, f01b, ite_not, ite_self, and_self, nI_clamp, thr_r, thr_s, k1, k2, q1, q2, q3t, ha2, hp, hlo, q4, hcR0, hcR, b_canPay, hc, hg]
  simp (maxSteps := 400000) (disch := omega) only [f_X10_take_59, f_X10_take_60, e8a, e8b, e4a, e4b, e3a, e3b, ↓b_isEight, ↓b_isKind, ↓b_isHall, ↓b_areCents, ↓b_isBox, ↓b_isIn, ↓b_fails, ↓gq_b_s, ↓gq_l_e, ↓g_inN, g_inN, ↓g_bb0, ↓g_bb1, ↓g_bbI, bI_z, Classical.not_not, ↓reduceIte, not_true_eq_false, not_false_eq_true, f01, f02, f03, f00, f10, f01b, ite_not, ite_self, and_self, nI_clamp, thr_r, thr_s, k1, k2, q1, q2, q3t, ha2, hp, hlo, q4, hcR0, hcR, b_canPay, hc, hg]
  simp (maxSteps := 400000) (disch := omega) only [f_X10_take_114, f_X10_take_115, e8a, e8b, e4a, e4b, e3a, e3b, ↓b_isEight, ↓b_isKind, ↓b_isHall, ↓b_areCents, ↓b_isBox, ↓b_isIn, ↓b_fails, ↓gq_b_s, ↓gq_l_e, ↓g_inN, g_inN, ↓g_bb0, ↓g_bb1, ↓g_bbI, bI_z, Classical.not_not, ↓reduceIte, not_true_eq_false, not_false_eq_true, f01, f02, f03, f00, f10, f01b, ite_not, ite_self, and_self, nI_clamp, thr_r, thr_s, k1, k2, q1, q2, q3t, ha2, hp, hlo, q4, hcR0, hcR, b_canPay, hc, hg]
  simp (maxSteps := 400000) (disch := omega) only [f_X10_take_137, e8a, e8b, e4a, e4b, e3a, e3b, ↓b_isEight, ↓b_isKind, ↓b_isHall, ↓b_areCents, ↓b_isBox, ↓b_isIn, ↓b_fails, ↓gq_b_s, ↓gq_l_e, ↓g_inN, g_inN, ↓g_bb0, ↓g_bb1, ↓g_bbI, bI_z, Classical.not_not, ↓reduceIte, not_true_eq_false, not_false_eq_true, f01, f02, f03, f00, f10, f01b, ite_not, ite_self, and_self, nI_clamp, thr_r, thr_s, k1, k2, q1, q2, q3t, ha2, hp, hlo, q4, hcR0, hcR, b_canPay, hc, hg]
theorem gnz5 {β : Type} {a : Option β} : gq_g (gq_nz (3 + 2)) a = a := gq_g_t (show gq_nz (3 + 2) = true from by decide)
theorem l_1067n {x17 x18 x19 x20 : Int32} : f_L_isSale_1067 N x17 x18 x19 x20 0 3 M = f_L_isSale_1201 N x18 x19 x20 ((x17 / 13) - (x17 / 13) / (3 + 2) * (3 + 2)) 0 0 M := by
  unfold f_L_isSale_1067
  rw [gnz5, gq_l_e, if_pos rfl]
  unfold f_L_isSale_1111 f_L_isSale_1156 f_L_isSale_1157
  rw [if_pos rfl, if_pos rfl]
theorem l_1111 {x19 x20 x24 x25 s0 : Int32} {bu : Nat} (hb : bu < 8) (h1 : M 119 (24 + bu) = R 9 bu) (h2 : M 119 (40 + bu) = R 11 bu) : f_L_isSale_1111 N (nI bu) x19 x20 1 x24 x25 s0 M = f_L_isSale_1157 N (nI bu) x19 x20 x25 s0 (if (¬ x25 ≤ 0 ∧ ¬ x24 < x25) ∧ s0 ≤ R 9 bu - R 11 bu then 1 else 0) M := by
  unfold f_L_isSale_1111 f_L_isSale_1156
  rw [if_neg (show ¬ (1 : Int32) = 0 by decide)]
  by_cases c1 : x25 ≤ 0
  · rw [if_pos c1, if_neg (fun z => z.1.1 c1)]
  · by_cases c2 : x24 < x25
    · rw [if_neg c1, if_pos c2, if_neg (fun z => z.1.2 c2)]
    · rw [if_neg c1, if_neg c2]
      simp (disch := omega) only [iL8t, iL8f, iL3t, iL3f, i1_0, i0_0, gq_b_s, gq_l_e, iSt, ↓reduceIte, g_bb1, g_inN, nI_clamp, nI_1, nI_add, ap2, ap6, ad24, ad40, h1, h2]
      by_cases c3 : s0 ≤ R 9 bu - R 11 bu
      · rw [if_neg (Int32.not_lt.mpr c3), if_pos ⟨⟨c1, c2⟩, c3⟩]
      · rw [if_pos (Int32.not_le.mp c3), if_neg (fun z => c3 z.2)]
set_option maxHeartbeats 2000000 in
theorem t_take {x21 x22 : Int32} {bu ha two : Nat} (hN : 600 ≤ N) (H : PK T0 nb nl nr tn dn M R) (I : INV M R) (hbu : bu < 9) (hha2 : ha < 4) (ht2 : two < 2 ^ 31) (h0 : ha < 3 → x21 = nI (8 * ha) ∧ x22 = R 39 ha) : ∃ M2 R2, f_L_isSale_982 N (nI two) (nI ha) x21 x22 (nI bu) M = some (1, M2) ∧ INV M2 R2 ∧ PK T0 nb nl nr tn dn M2 R2 := by
  by_cases c1 : bu < 8 ∧ ha < 3
  · obtain ⟨hb, hh⟩ := c1
    obtain ⟨e1, e2⟩ := h0 hh
    subst e1 e2
    have J := ir_of I H
    have H9 := pk_thr (w := 0) H
    have H8 := H
    obtain ⟨hnb, hnl, hnr, htn, hdn, hop, hdr, hkd, hby, hqu, hbt, hha, hpr, hbx, hbz, hlt, hlo⟩ := H8
    have o1 := (hby bu hb).1
    have o2 := (hby bu hb).2.2.1
    obtain ⟨s1, s2⟩ := hha ha hh
    have os := s1.2.2.1
    have op := s1.2.2.2.2
    obtain ⟨a1, a2, a3, -⟩ := s2 trivial
    by_cases c : his R bu ha
    · have c9 := c
      obtain ⟨⟨q1, q2⟩, q3⟩ := c9
      obtain ⟨C, J1, J2, J3, J4⟩ := J
      obtain ⟨a, p, w, w1, w2, w3, w4, w5, w6, w7, w8, w9, w10⟩ := hall_s3 (J4 ha hh) q1
      have hwb : w = bu := (nI_j (by omega) (by omega)).mp (w10.symm.trans q3)
      subst hwb
      have hlen0 : (offl nb (R 26) (R 19) a).length ≤ nb := cnt_rg 0 nb _
      have hleft := l_left (N := N) (M := M) (R := R) (nb := nb) (l := a) hnb.1 hnb.2.2 hbx hN
      obtain ⟨len, hlen⟩ : ∃ z, z = (offl nb (R 26) (R 19) a).length := ⟨_, rfl⟩
      rw [← hlen] at hlen0 hleft
      obtain ⟨m, hm⟩ : ∃ z, z = two / 13 % (len + 2) := ⟨_, rfl⟩
      have hmlt : m < len + 2 := by rw [hm]; exact Nat.mod_lt _ (by omega)
      have em : (nI two / 13) - (nI two / 13) / nI (len + 2) * nI (len + 2) = nI m := by rw [hm]; exact rd (a := 13) (b := len + 2) (by omega) (by omega) ht2
      have hcost := l_cost (N := N) (l := a) (m := m) H hN (by omega) hh trivial w2
      rw [w5] at hcost
      obtain ⟨cost, hco⟩ : ∃ z, z = lsum ((offl nb (R 26) (R 19) a).take m) (R 17) * nI p := ⟨_, rfl⟩
      rw [← hco] at hcost
      have hL : f_L_isSale_982 N (nI two) (nI ha) (nI (8 * ha)) (R 39 ha) (nI w) M = f_L_isSale_1157 N (nI w) (nI ha) 1 (nI m) cost (if (¬ nI m ≤ 0 ∧ ¬ nI len < nI m) ∧ cost ≤ R 9 w - R 11 w then 1 else 0) M := by
        rw [q3]
        simp (disch := omega) only [f_L_isSale_982, f_L_isSale_1002, f_L_isSale_1042, iL8t, iL8f, iL3t, iL3f, i1_0, i0_0, gq_b_s, gq_l_e, iSt, ↓reduceIte, g_bb1, g_inN, nI_clamp, nI_1, nI_add, ap2, ap6, ad24, ad40, a1, q1, os, q2, a2, w2]
        rw [hleft]
        simp (disch := omega) only [f_L_isSale_1067, iL8t, iL8f, iL3t, iL3f, i1_0, i0_0, gq_b_s, gq_l_e, iSt, ↓reduceIte, g_bb1, g_inN, nI_clamp, nI_1, nI_add, ap2, ap6, ad24, ad40, gnz]
        rw [em, hcost]
        simp only [gq_b_s]
        exact l_1111 hb o1 o2
      by_cases c4 : 1 ≤ m ∧ m ≤ len
      · have z1 : ¬ nI m ≤ 0 := fun z => by have := (nI_leI (b := 0) (by omega) (by omega)).mp z; omega
        have z2 : ¬ nI len < nI m := fun z => by have := (nI_ltI (by omega) (by omega)).mp z; omega
        by_cases c5 : cost ≤ R 9 w - R 11 w
        · have hc5 := c5
          rw [hco] at hc5
          obtain ⟨acc, M1, M3, R2, g1, g2, g3, P3, g4⟩ := s2_gets (N := N) (h := ha) (a := a) (p := p) (w := w) (m := m) H9 hh hN trivial w1 w2 ((w4 a w1 w3).mpr (Nat.le_refl _)) w3 w5 w6 w7 hb q3 (by show m ≤ (offl nb (R 26) (R 19) a).length; omega)
          have hr := e_take_5 (N := N) (R := R) (R2 := R2) (nb := nb) (bu := w) (ha := ha) (a := a) (m := m) (len := len) (p := p) hN hb hh c hnb.2.1 hnb.2.2 w2 w5 hlen.symm (by omega) (by omega) c4 hc5 g3
          rw [← hco] at hr
          have F1 : E9 M1 M := e9_fb (fq_costs e9_r) g1
          have F3 : E9 M3 M := e9_fb (fq_goesOn F1) g2
          have hr54 : R2 0 54 = 0 := by rw [g4]; exact thr_v R 0
          obtain ⟨M2, y1, y2, y3⟩ := y_take (N := N) (M := M3) (hN := hN) (a4 := 0) (a5 := 0) (a6 := 0) (x := cost) (inv_cg I F3) hr (by rw [hr54]; rfl)
          refine ⟨M2, _, hL.trans ?_, y2, pk_mc P3 y3⟩
          rw [if_pos ⟨⟨z1, z2⟩, c5⟩]
          simp (disch := omega) only [f_L_isSale_1157, f_L_isSale_1201, f_L_isSale_1238, f_L_isSale_1246, iL8t, iL8f, iL3t, iL3f, i1_0, i0_0, gq_b_s, gq_l_e, iSt, ↓reduceIte, g_bb1, g_inN, nI_clamp, nI_1, nI_add, ap2, ap6, ad24, ad40, g1, g2, y1]
        · have hc5 := c5
          rw [hco] at hc5
          have hr := e_take_4 (N := N) (R := R) (nb := nb) (bu := w) (ha := ha) (a := a) (m := m) (len := len) (p := p) hN hb hh c hnb.2.1 hnb.2.2 w2 w5 hlen.symm (by omega) (by omega) c4 hc5
          obtain ⟨M2, y1, y2, y3⟩ := y_take (N := N) (M := M) (hN := hN) (a4 := 0) (a5 := 0) (a6 := 0) (x := -100000000) I hr rfl
          refine ⟨M2, _, hL.trans ?_, y2, pk_mc (pk_thr H) y3⟩
          rw [if_neg (fun z => c5 z.2)]
          simp (disch := omega) only [f_L_isSale_1157, f_L_isSale_1201, f_L_isSale_1238, f_L_isSale_1246, iL8t, iL8f, iL3t, iL3f, i1_0, i0_0, gq_b_s, gq_l_e, iSt, ↓reduceIte, g_bb1, g_inN, nI_clamp, nI_1, nI_add, ap2, ap6, ad24, ad40, y1]
      · have hr := e_take_3 (N := N) (R := R) (nb := nb) (bu := w) (ha := ha) (a := a) (m := m) (len := len) hN hb hh c hnb.2.1 hnb.2.2 w2 hlen.symm (by omega) (by omega) c4
        obtain ⟨M2, y1, y2, y3⟩ := y_take (N := N) (M := M) (hN := hN) (a4 := 0) (a5 := 0) (a6 := 0) (x := -100000000) I hr rfl
        refine ⟨M2, _, hL.trans ?_, y2, pk_mc (pk_thr H) y3⟩
        rw [if_neg (fun z => c4 ⟨Nat.pos_of_ne_zero fun h => z.1.1 (by rw [h]; decide), Nat.le_of_not_lt fun h => z.1.2 ((nI_ltI (by omega) (by omega)).mpr h)⟩)]
        simp (disch := omega) only [f_L_isSale_1157, f_L_isSale_1201, f_L_isSale_1238, f_L_isSale_1246, iL8t, iL8f, iL3t, iL3f, i1_0, i0_0, gq_b_s, gq_l_e, iSt, ↓reduceIte, g_bb1, g_inN, nI_clamp, nI_1, nI_add, ap2, ap6, ad24, ad40, y1]
    · have hr := e_take_2 (N := N) (R := R) (x := (nI two / 13) - (nI two / 13) / (3 + 2) * (3 + 2)) hb hh op c
      obtain ⟨M2, y1, y2, y3⟩ := y_take (N := N) (M := M) (hN := hN) (a4 := 0) (a5 := 0) (a6 := 0) (x := -100000000) I hr rfl
      refine ⟨M2, _, ?_, y2, pk_mc (pk_thr H) y3⟩
      have hL : f_L_isSale_982 N (nI two) (nI ha) (nI (8 * ha)) (R 39 ha) (nI bu) M = f_L_isSale_1067 N (nI two) (nI bu) (nI ha) 1 0 3 M := by
        by_cases q1 : R 35 ha = 3
        · by_cases q2 : R 34 ha = 1
          · have q3 : (R 39 ha = nI bu) = False := eq_false (fun z => c ⟨⟨q1, q2⟩, z⟩)
            simp (disch := omega) only [f_L_isSale_982, f_L_isSale_1002, f_L_isSale_1001, f_L_isSale_1041, f_L_isSale_1042, iL8t, iL8f, iL3t, iL3f, i1_0, i0_0, gq_b_s, gq_l_e, iSt, ↓reduceIte, g_bb1, g_inN, nI_clamp, nI_1, nI_add, ap2, ap6, ad24, ad40, a1, q1, os, q2, q3]
          · simp (disch := omega) only [f_L_isSale_982, f_L_isSale_1002, f_L_isSale_1001, f_L_isSale_1041, f_L_isSale_1042, iL8t, iL8f, iL3t, iL3f, i1_0, i0_0, gq_b_s, gq_l_e, iSt, ↓reduceIte, g_bb1, g_inN, nI_clamp, nI_1, nI_add, ap2, ap6, ad24, ad40, a1, q1, os, q2]
        · simp (disch := omega) only [f_L_isSale_982, f_L_isSale_1002, f_L_isSale_1001, f_L_isSale_1041, f_L_isSale_1042, iL8t, iL8f, iL3t, iL3f, i1_0, i0_0, gq_b_s, gq_l_e, iSt, ↓reduceIte, g_bb1, g_inN, nI_clamp, nI_1, nI_add, ap2, ap6, ad24, ad40, a1, q1]
      rw [hL, l_1067n]
      simp (disch := omega) only [f_L_isSale_1157, f_L_isSale_1201, f_L_isSale_1238, f_L_isSale_1246, iL8t, iL8f, iL3t, iL3f, i1_0, i0_0, gq_b_s, gq_l_e, iSt, ↓reduceIte, g_bb1, g_inN, nI_clamp, nI_1, nI_add, ap2, ap6, ad24, ad40, y1]
  · have hr := e_take_1 (N := N) (R := R) (x := (nI two / 13) - (nI two / 13) / (3 + 2) * (3 + 2)) (by omega) (by omega) c1
    obtain ⟨M2, y1, y2, y3⟩ := y_take (N := N) (M := M) (hN := hN) (a4 := 0) (a5 := 0) (a6 := 0) (x := -300000000) I hr rfl
    refine ⟨M2, _, ?_, y2, pk_mc (pk_thr H) y3⟩
    have hL : f_L_isSale_982 N (nI two) (nI ha) x21 x22 (nI bu) M = f_L_isSale_1067 N (nI two) (nI bu) (nI ha) 0 0 3 M := by
      by_cases d : bu < 8
      · simp (disch := omega) only [f_L_isSale_982, f_L_isSale_1002, f_L_isSale_1001, f_L_isSale_1041, f_L_isSale_1042, iL8t, iL8f, iL3t, iL3f, i1_0, i0_0, gq_b_s, gq_l_e, iSt, ↓reduceIte, g_bb1, g_inN, nI_clamp, nI_1, nI_add, ap2, ap6, ad24, ad40]
      · simp (disch := omega) only [f_L_isSale_982, f_L_isSale_1002, f_L_isSale_1001, f_L_isSale_1041, f_L_isSale_1042, iL8t, iL8f, iL3t, iL3f, i1_0, i0_0, gq_b_s, gq_l_e, iSt, ↓reduceIte, g_bb1, g_inN, nI_clamp, nI_1, nI_add, ap2, ap6, ad24, ad40]
    rw [hL, l_1067n]
    simp (disch := omega) only [f_L_isSale_1157, f_L_isSale_1201, f_L_isSale_1238, f_L_isSale_1246, iL8t, iL8f, iL3t, iL3f, i1_0, i0_0, gq_b_s, gq_l_e, iSt, ↓reduceIte, g_bb1, g_inN, nI_clamp, nI_1, nI_add, ap2, ap6, ad24, ad40, y1]
end

