/-! pure: take -/
set_option maxHeartbeats 1000000 in
theorem c_take {N : Nat} {a1 a2 a3 : Int32} {C R : gq_M} (hN : 600 ≤ N) (H : INV C R) : OUT kE (f_X9_take N a1 a2 a3 C) (f_X10_take N a1 a2 a3 R) := by
  obtain ⟨nb, nl, nr, tn, I0⟩ := inv_invd H
  obtain ⟨Hc, hwt, hsg, hhl⟩ := I0
  have I0 : INVd nb nl nr tn C R := ⟨Hc, hwt, hsg, hhl⟩
  have H0 := Hc
  obtain ⟨hnb, hnl, hnr, htn, hda, hop, hdr, hqu, hai, hid, hac, hlk, hla, hks, hkm, hkh, hbg, hbd, hbo, hbl, hbb, hst, hpw, hxb, hxk, hxr, hxs, hxf, hxl, hxc, hxi, hxp, hsu, hmo, hsb, hlo, hlb, hlf, hlh, hld, hlr, hcl⟩ := H0
  have hb150 := hnb.2.2
  have hl150 := hnl.2.2
  have hr20 := hnr.2.2
  have ht5 := htn.2.2
  by_cases h1 : vp_in a1 8
  · skip
    by_cases h2 : vp_in a2 3
    · skip
      obtain ⟨b, hb, rfl⟩ := vp_in_of h1 (by omega)
      obtain ⟨g, hg, rfl⟩ := vp_in_of h2 (by omega)
      obtain ⟨k1, k2, k3, k4, k5, k6, -⟩ := hhl g hg
      by_cases c1 : R 35 g = 3
      · rcases hpw.2 g hg with c2 | c2
        · skip
          simp (disch := omega) only [f_X9_take_133, f_X9_take_104, f_X9_take_103, f_X9_take_69, f_X9_take_46, f_X9_take_45, f_X9_take, f_X10_take_137, f_X10_take_115, f_X10_take_114, f_X10_take_60, f_X10_take_59, f_X10_take_19, f_X10_take_18, f_X10_take, f_X6_left, f_X2_leftOf, ↓m_exist, ↓m_beIn, ↓m_hold, e8a, e8b, e4a, e4b, e3a, e3b, ↓b_isEight, ↓b_isKind, ↓b_isHall, ↓b_areCents, ↓b_isBox, ↓b_isIn, ↓b_fails, ↓gq_b_s, ↓gq_l_e, ↓b_atN, ↓b_putN, ↓b_addN, ↓b_swapN, ↓g_inN, b_atN, b_putN, b_addN, b_swapN, g_inN, ↓g_bb0, ↓g_bb1, ↓g_bbI, bI_z, Classical.not_not, ↓reduceIte, not_true_eq_false, not_false_eq_true, f01, f02, f03, f00, ite_not, ite_self, and_self, nI_clamp, pl4, pl4b, pl8, pl8b, thr_r, thr_s, h1, h2, k1, k4, hpw.1 g hg, f10, f01b, c1, c2]
          exact out_t H rfl
        · by_cases c3 : R 39 g = nI b
          · obtain ⟨a, p, w, q1, q2, q3, q4, q5, q6, q7, w1, hw, w3⟩ := hall_s3 (hhl g hg) c1
            have hlen := offl_len nb a (R 26) (R 19)
            obtain ⟨f, g1, g2, g3, g4⟩ := hsg a q1
            have hlotC : C 80 g = nI a := k2.trans q2
            have hsub : nI (f + (offl nb (R 26) (R 19) a).length) - nI f = nI (offl nb (R 26) (R 19) a).length := by rw [nI_sub (Nat.le_add_right _ _), Nat.add_sub_cancel_left]
            have hlo := r_leftOf (N := N) (M := R) (nb := nb) (l := a) hnb.2.1 hb150 hN
            have c3t := eq_true c3
            by_cases c4 : 1 ≤ a3 ∧ a3 ≤ nI (offl nb (R 26) (R 19) a).length
            · obtain ⟨m, hm1, hm2, rfl⟩ := rng_of (a := 1) (by omega) c4 (by omega)
              have c4a : ¬ nI m < 1 := Int32.not_lt.mpr c4.1
              have c4b : ¬ nI (offl nb (R 26) (R 19) a).length < nI m := Int32.not_lt.mpr c4.2
              have hcC : f_X9_costOfFirst N (nI g) (nI m) C = some (lsum ((offl nb (R 26) (R 19) a).take m) (R 17) * nI p, C) := by
                have := m_cost (N := N) (m := m) Hc hN hg q1 hlotC (hsg a q1) hm2
                rw [k3.trans q5] at this
                exact this
              have hcR : ∀ v, f_X10_costOf N (nI a) (nI m) (nI p) (thr R v) = some (lsum ((offl nb (R 26) (R 19) a).take m) (R 17) * nI p, thr R v) := fun v => r_cost (N := N) (m := m) (M := thr R v) hnb.2.1 hb150 (by omega) hN
              have hcR0 : f_X10_costOf N (nI a) (nI m) (nI p) R = some (lsum ((offl nb (R 26) (R 19) a).take m) (R 17) * nI p, R) := r_cost (N := N) (m := m) (M := R) hnb.2.1 hb150 (by omega) hN
              obtain ⟨C1, C2, R2, e1, e2, e3, I2, e4⟩ := s_sale (N := N) (m := m) (invd_thr (v := 0) I0) hN hg c1 q2 q1 hm2
              generalize lsum ((offl nb (R 26) (R 19) a).take m) (R 17) * nI p = cost at hcC hcR hcR0
              by_cases cP : cost ≤ R 9 b - R 11 b
              · have cP2 : ¬ R 9 b - R 11 b < cost := Int32.not_lt.mpr cP
                simp (disch := omega) only [f_X9_take_133, f_X9_take_104, f_X9_take_103, f_X9_take_69, f_X9_take_46, f_X9_take_45, f_X9_take, f_X10_take_137, f_X10_take_115, f_X10_take_114, f_X10_take_60, f_X10_take_59, f_X10_take_19, f_X10_take_18, f_X10_take, f_X6_left, f_X2_leftOf, ↓m_exist, ↓m_beIn, ↓m_hold, e8a, e8b, e4a, e4b, e3a, e3b, ↓b_isEight, ↓b_isKind, ↓b_isHall, ↓b_areCents, ↓b_isBox, ↓b_isIn, ↓b_fails, ↓gq_b_s, ↓gq_l_e, ↓b_atN, ↓b_putN, ↓b_addN, ↓b_swapN, ↓g_inN, b_atN, b_putN, b_addN, b_swapN, g_inN, ↓g_bb0, ↓g_bb1, ↓g_bbI, bI_z, Classical.not_not, ↓reduceIte, not_true_eq_false, not_false_eq_true, f01, f02, f03, f00, ite_not, ite_self, and_self, nI_clamp, pl4, pl4b, pl8, pl8b, thr_r, thr_s, h1, h2, k1, k4, hpw.1 g hg, f10, f01b, c1, c2, c3, c3t, hlotC, g1, g2, hsub, hlo, c4, c4a, c4b, hcC, hcR, hcR0, hbg b hb, hbo b hb, cP, cP2, e1, e2, e3, q2, q5, b_canPay]
                refine out_v ?_ rfl (invd_inv I2)
                rw [e4]
                rfl
              · have cP2 : R 9 b - R 11 b < cost := Int32.not_le.mp cP
                simp (disch := omega) only [f_X9_take_133, f_X9_take_104, f_X9_take_103, f_X9_take_69, f_X9_take_46, f_X9_take_45, f_X9_take, f_X10_take_137, f_X10_take_115, f_X10_take_114, f_X10_take_60, f_X10_take_59, f_X10_take_19, f_X10_take_18, f_X10_take, f_X6_left, f_X2_leftOf, ↓m_exist, ↓m_beIn, ↓m_hold, e8a, e8b, e4a, e4b, e3a, e3b, ↓b_isEight, ↓b_isKind, ↓b_isHall, ↓b_areCents, ↓b_isBox, ↓b_isIn, ↓b_fails, ↓gq_b_s, ↓gq_l_e, ↓b_atN, ↓b_putN, ↓b_addN, ↓b_swapN, ↓g_inN, b_atN, b_putN, b_addN, b_swapN, g_inN, ↓g_bb0, ↓g_bb1, ↓g_bbI, bI_z, Classical.not_not, ↓reduceIte, not_true_eq_false, not_false_eq_true, f01, f02, f03, f00, ite_not, ite_self, and_self, nI_clamp, pl4, pl4b, pl8, pl8b, thr_r, thr_s, h1, h2, k1, k4, hpw.1 g hg, f10, f01b, c1, c2, c3, c3t, hlotC, g1, g2, hsub, hlo, c4, c4a, c4b, hcC, hcR, hcR0, hbg b hb, hbo b hb, cP, cP2, q2, q5, b_canPay]
                exact out_t H rfl
            · by_cases c4a : a3 < 1
              · skip
                simp (disch := omega) only [f_X9_take_133, f_X9_take_104, f_X9_take_103, f_X9_take_69, f_X9_take_46, f_X9_take_45, f_X9_take, f_X10_take_137, f_X10_take_115, f_X10_take_114, f_X10_take_60, f_X10_take_59, f_X10_take_19, f_X10_take_18, f_X10_take, f_X6_left, f_X2_leftOf, ↓m_exist, ↓m_beIn, ↓m_hold, e8a, e8b, e4a, e4b, e3a, e3b, ↓b_isEight, ↓b_isKind, ↓b_isHall, ↓b_areCents, ↓b_isBox, ↓b_isIn, ↓b_fails, ↓gq_b_s, ↓gq_l_e, ↓b_atN, ↓b_putN, ↓b_addN, ↓b_swapN, ↓g_inN, b_atN, b_putN, b_addN, b_swapN, g_inN, ↓g_bb0, ↓g_bb1, ↓g_bbI, bI_z, Classical.not_not, ↓reduceIte, not_true_eq_false, not_false_eq_true, f01, f02, f03, f00, ite_not, ite_self, and_self, nI_clamp, pl4, pl4b, pl8, pl8b, thr_r, thr_s, h1, h2, k1, k4, hpw.1 g hg, f10, f01b, c1, c2, c3, c3t, hlotC, g1, g2, hsub, hlo, c4, c4a, q2, q5]
                exact out_t H rfl
              · have c4b : nI (offl nb (R 26) (R 19) a).length < a3 := Int32.not_le.mp fun h9 => c4 ⟨Int32.not_lt.mp c4a, h9⟩
                simp (disch := omega) only [f_X9_take_133, f_X9_take_104, f_X9_take_103, f_X9_take_69, f_X9_take_46, f_X9_take_45, f_X9_take, f_X10_take_137, f_X10_take_115, f_X10_take_114, f_X10_take_60, f_X10_take_59, f_X10_take_19, f_X10_take_18, f_X10_take, f_X6_left, f_X2_leftOf, ↓m_exist, ↓m_beIn, ↓m_hold, e8a, e8b, e4a, e4b, e3a, e3b, ↓b_isEight, ↓b_isKind, ↓b_isHall, ↓b_areCents, ↓b_isBox, ↓b_isIn, ↓b_fails, ↓gq_b_s, ↓gq_l_e, ↓b_atN, ↓b_putN, ↓b_addN, ↓b_swapN, ↓g_inN, b_atN, b_putN, b_addN, b_swapN, g_inN, ↓g_bb0, ↓g_bb1, ↓g_bbI, bI_z, Classical.not_not, ↓reduceIte, not_true_eq_false, not_false_eq_true, f01, f02, f03, f00, ite_not, ite_self, and_self, nI_clamp, pl4, pl4b, pl8, pl8b, thr_r, thr_s, h1, h2, k1, k4, hpw.1 g hg, f10, f01b, c1, c2, c3, c3t, hlotC, g1, g2, hsub, hlo, c4, c4a, c4b, q2, q5]
                exact out_t H rfl
          · have c3t := eq_false c3
            simp (disch := omega) only [f_X9_take_133, f_X9_take_104, f_X9_take_103, f_X9_take_69, f_X9_take_46, f_X9_take_45, f_X9_take, f_X10_take_137, f_X10_take_115, f_X10_take_114, f_X10_take_60, f_X10_take_59, f_X10_take_19, f_X10_take_18, f_X10_take, f_X6_left, f_X2_leftOf, ↓m_exist, ↓m_beIn, ↓m_hold, e8a, e8b, e4a, e4b, e3a, e3b, ↓b_isEight, ↓b_isKind, ↓b_isHall, ↓b_areCents, ↓b_isBox, ↓b_isIn, ↓b_fails, ↓gq_b_s, ↓gq_l_e, ↓b_atN, ↓b_putN, ↓b_addN, ↓b_swapN, ↓g_inN, b_atN, b_putN, b_addN, b_swapN, g_inN, ↓g_bb0, ↓g_bb1, ↓g_bbI, bI_z, Classical.not_not, ↓reduceIte, not_true_eq_false, not_false_eq_true, f01, f02, f03, f00, ite_not, ite_self, and_self, nI_clamp, pl4, pl4b, pl8, pl8b, thr_r, thr_s, h1, h2, k1, k4, hpw.1 g hg, f10, f01b, c1, c2, c3t]
            exact out_t H rfl
      · skip
        simp (disch := omega) only [f_X9_take_133, f_X9_take_104, f_X9_take_103, f_X9_take_69, f_X9_take_46, f_X9_take_45, f_X9_take, f_X10_take_137, f_X10_take_115, f_X10_take_114, f_X10_take_60, f_X10_take_59, f_X10_take_19, f_X10_take_18, f_X10_take, f_X6_left, f_X2_leftOf, ↓m_exist, ↓m_beIn, ↓m_hold, e8a, e8b, e4a, e4b, e3a, e3b, ↓b_isEight, ↓b_isKind, ↓b_isHall, ↓b_areCents, ↓b_isBox, ↓b_isIn, ↓b_fails, ↓gq_b_s, ↓gq_l_e, ↓b_atN, ↓b_putN, ↓b_addN, ↓b_swapN, ↓g_inN, b_atN, b_putN, b_addN, b_swapN, g_inN, ↓g_bb0, ↓g_bb1, ↓g_bbI, bI_z, Classical.not_not, ↓reduceIte, not_true_eq_false, not_false_eq_true, f01, f02, f03, f00, ite_not, ite_self, and_self, nI_clamp, pl4, pl4b, pl8, pl8b, thr_r, thr_s, h1, h2, k1, k4, hpw.1 g hg, f10, f01b, c1]
        exact out_t H rfl
    · simp (disch := omega) only [f_X9_take_133, f_X9_take_104, f_X9_take_103, f_X9_take_69, f_X9_take_46, f_X9_take_45, f_X9_take, f_X10_take_137, f_X10_take_115, f_X10_take_114, f_X10_take_60, f_X10_take_59, f_X10_take_19, f_X10_take_18, f_X10_take, ↓m_exist, ↓m_beIn, ↓m_hold, e8a, e8b, e4a, e4b, e3a, e3b, ↓b_isEight, ↓b_isKind, ↓b_isHall, ↓b_areCents, ↓b_isBox, ↓b_isIn, ↓b_fails, ↓gq_b_s, ↓gq_l_e, ↓b_atN, ↓b_putN, ↓b_addN, ↓b_swapN, ↓g_inN, b_atN, b_putN, b_addN, b_swapN, g_inN, ↓g_bb0, ↓g_bb1, ↓g_bbI, bI_z, Classical.not_not, ↓reduceIte, not_true_eq_false, not_false_eq_true, f01, f02, f03, f00, ite_not, ite_self, and_self, nI_clamp, pl4, pl4b, pl8, pl8b, thr_r, thr_s, h1, h2]
      exact out_t H rfl
  · simp (disch := omega) only [f_X9_take_133, f_X9_take_104, f_X9_take_103, f_X9_take_69, f_X9_take_46, f_X9_take_45, f_X9_take, f_X10_take_137, f_X10_take_115, f_X10_take_114, f_X10_take_60, f_X10_take_59, f_X10_take_19, f_X10_take_18, f_X10_take, ↓m_exist, ↓m_beIn, ↓m_hold, e8a, e8b, e4a, e4b, e3a, e3b, ↓b_isEight, ↓b_isKind, ↓b_isHall, ↓b_areCents, ↓b_isBox, ↓b_isIn, ↓b_fails, ↓gq_b_s, ↓gq_l_e, ↓b_atN, ↓b_putN, ↓b_addN, ↓b_swapN, ↓g_inN, b_atN, b_putN, b_addN, b_swapN, g_inN, ↓g_bb0, ↓g_bb1, ↓g_bbI, bI_z, Classical.not_not, ↓reduceIte, not_true_eq_false, not_false_eq_true, f01, f02, f03, f00, ite_not, ite_self, and_self, nI_clamp, pl4, pl4b, pl8, pl8b, thr_r, thr_s, h1]
    exact out_t H rfl
