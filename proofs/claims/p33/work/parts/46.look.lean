/-! pure: calls that look -/
theorem d02 : ((0 : Int32) = 2) = False := by decide
theorem d03 : ((0 : Int32) = 3) = False := by decide
theorem d04 : ((0 : Int32) = 4) = False := by decide
theorem d05 : ((0 : Int32) = 5) = False := by decide
theorem d12 : ((1 : Int32) = 2) = False := by decide
theorem d13 : ((1 : Int32) = 3) = False := by decide
theorem d14 : ((1 : Int32) = 4) = False := by decide
theorem d15 : ((1 : Int32) = 5) = False := by decide
theorem d20 : ((2 : Int32) = 0) = False := by decide
theorem d21 : ((2 : Int32) = 1) = False := by decide
theorem d23 : ((2 : Int32) = 3) = False := by decide
theorem d24 : ((2 : Int32) = 4) = False := by decide
theorem d25 : ((2 : Int32) = 5) = False := by decide
theorem d30 : ((3 : Int32) = 0) = False := by decide
theorem d31 : ((3 : Int32) = 1) = False := by decide
theorem d32 : ((3 : Int32) = 2) = False := by decide
theorem d34 : ((3 : Int32) = 4) = False := by decide
theorem d35 : ((3 : Int32) = 5) = False := by decide
theorem d40 : ((4 : Int32) = 0) = False := by decide
theorem d41 : ((4 : Int32) = 1) = False := by decide
theorem d42 : ((4 : Int32) = 2) = False := by decide
theorem d43 : ((4 : Int32) = 3) = False := by decide
theorem d45 : ((4 : Int32) = 5) = False := by decide
theorem d50 : ((5 : Int32) = 0) = False := by decide
theorem d51 : ((5 : Int32) = 1) = False := by decide
theorem d52 : ((5 : Int32) = 2) = False := by decide
theorem d53 : ((5 : Int32) = 3) = False := by decide
theorem d54 : ((5 : Int32) = 4) = False := by decide
theorem in_lit {a : Int32} {n : Nat} (hn : n < 2 ^ 31) (h : 0 ≤ a ∧ a ≤ nI n) : ∃ j, j ≤ n ∧ a = nI j := by
  obtain ⟨j, _, h2, h3⟩ := rng_of (a := 0) hn h (by omega)
  exact ⟨j, h2, h3⟩
theorem in2 {a : Int32} (h : 0 ≤ a ∧ a ≤ 2) : a = 0 ∨ a = 1 ∨ a = 2 := by
  obtain ⟨j, hj, rfl⟩ := in_lit (n := 2) (by omega) h
  rcases (by omega : j = 0 ∨ j = 1 ∨ j = 2) with rfl | rfl | rfl <;> decide
theorem in4 {a : Int32} (h : 0 ≤ a ∧ a ≤ 4) : a = 0 ∨ a = 1 ∨ a = 2 ∨ a = 3 ∨ a = 4 := by
  obtain ⟨j, hj, rfl⟩ := in_lit (n := 4) (by omega) h
  rcases (by omega : j = 0 ∨ j = 1 ∨ j = 2 ∨ j = 3 ∨ j = 4) with rfl | rfl | rfl | rfl | rfl <;> decide
theorem in5 {a : Int32} (h : 0 ≤ a ∧ a ≤ 5) : a = 0 ∨ a = 1 ∨ a = 2 ∨ a = 3 ∨ a = 4 ∨ a = 5 := by
  obtain ⟨j, hj, rfl⟩ := in_lit (n := 5) (by omega) h
  rcases (by omega : j = 0 ∨ j = 1 ∨ j = 2 ∨ j = 3 ∨ j = 4 ∨ j = 5) with rfl | rfl | rfl | rfl | rfl | rfl <;> decide
theorem rk_all : ∀ x, x < 4 → ∀ y, y < 3 → ∀ z, z < 10 → 1 ≤ z → nI ((x * 3 + y) * 9 + (9 - z)) / 27 = nI x ∧ nI ((x * 3 + y) * 9 + (9 - z)) / 9 - nI ((x * 3 + y) * 9 + (9 - z)) / 9 / 3 * 3 = nI y ∧ 9 - (nI ((x * 3 + y) * 9 + (9 - z)) - nI ((x * 3 + y) * 9 + (9 - z)) / 9 * 9) = nI z := by decide +kernel
theorem rk_k {n : Nat} {c k s f : Nat → Int32} (h : K_rk n c k s f) {b : Nat} (hb : b < n) : c b / 27 = k b ∧ c b / 9 - c b / 9 / 3 * 3 = s b ∧ 9 - (c b - c b / 9 * 9) = f b := by
  obtain ⟨x, y, z, h1, h2, h3, h4, e1, e2, e3, e4⟩ := h b hb
  rw [e1, e2, e3, e4]
  exact rk_all x h1 y h2 z (by omega) h3
theorem eqR_push {n : Nat} {f g : Nat → Int32} {v : Int32} (h : eqR n f g) : eqR (n + 1) (upd f n v) (upd g n v) := by
  intro k hk
  by_cases hh : k = n
  · subst hh; rw [upd_s, upd_s]
  · rw [upd_n hh, upd_n hh]; exact h k (by omega)
theorem eqR_push' {n : Nat} {f g : Nat → Int32} {v : Int32} (h : eqR n f g) (hv : f n = v) : eqR (n + 1) f (upd g n v) := by
  intro k hk
  by_cases hh : k = n
  · subst hh; rw [upd_s]; exact hv
  · rw [upd_n hh]; exact h k (by omega)
theorem lsum_nat {f : Nat → Int32} {m : Nat} : ∀ {L : List Nat}, (∀ b, b ∈ L → ∃ g, g ≤ m ∧ f b = nI g) → ∃ s, s ≤ m * L.length ∧ lsum L f = nI s := by
  intro L
  induction L with
  | nil => intro _; exact ⟨0, Nat.zero_le _, rfl⟩
  | cons a t ih =>
    intro h
    obtain ⟨s, h1, h2⟩ := ih fun b hb => h b (List.mem_cons_of_mem _ hb)
    obtain ⟨g, h3, h4⟩ := h a List.mem_cons_self
    refine ⟨g + s, ?_, ?_⟩
    · rw [List.length_cons, Nat.mul_succ]; omega
    · show f a + lsum t f = _
      rw [h2, h4, nI_add]
theorem nw_lt {t : Nat} (ht : t ≤ 100000) : nI t + 1 = nI (t + 1) := nI_1 t

set_option maxHeartbeats 1000000 in
theorem c_told {N : Nat} {a1 a2 : Int32} {C R : gq_M} (hN : 600 ≤ N) (H : INV C R) : OUT kB (f_X9_told N a1 a2 C) (f_X10_told N a1 a2 R) := by
  have H0 := H
  obtain ⟨nb, nl, nr, tn, hnb, hnl, hnr, htn, hda, hop, hdr, hqu, hai, hid, hac, hlk, hla, hwt, hks, hkm, hkh, hbg, hbd, hbo, hbl, hbb, hst, hpw, hxb, hxk, hxr, hxs, hxf, hxl, hxc, hxi, hxp, hsu, hmo, hsb, hlo, hlb, hlf, hlh, hld, hsg, hlr, hcl, hhl⟩ := H0
  have hb150 := hnb.2.2
  have hl150 := hnl.2.2
  have hr20 := hnr.2.2
  have ht5 := htn.2.2
  by_cases h1 : vp_in a1 nb
  · skip
    by_cases h2 : 0 ≤ a2 ∧ a2 ≤ 4
    · skip
      obtain ⟨j, hj, rfl⟩ := vp_in_of h1 (by omega)
      rcases in4 h2 with rfl | rfl | rfl | rfl | rfl
      · simp (disch := omega) only [f_X9_told, f_X10_told_96, f_X10_told_27, f_X10_told, f_X1_freshOf, m_exist, m_beIn, m_hold, e8a, e8b, e4a, e4b, e3a, e3b, r_isEight, r_isKind, r_isHall, r_areCents, r_isBox, r_isIn, r_fails, gq_b_s, gq_l_e, bI_z, Classical.not_not, reduceIte, not_true_eq_false, not_false_eq_true, f01, f02, f03, f00, ite_not, ite_self, and_self, m_atN, m_putN, m_addN, m_swapN, g_inN, g_bb0, g_bb1, g_bbI, nI_clamp, pl4, pl4b, pl8, pl8b, thr_r, thr_s, h1, h2, d20, d21, d23, d24, d25, d30, d31, d32, d34, d35, d40, d41, d42, d43, d45, d50, d51, d52, d53, d54, d02, d03, d04, d05, d12, d13, d14, d15, f10, f01b, hnb.1, hnb.2.1, ena, enb]
        exact out_v rfl (hxs.1 j hj) (inv_thr H)
      · simp (disch := omega) only [f_X9_told, f_X10_told_96, f_X10_told_27, f_X10_told, f_X1_freshOf, m_exist, m_beIn, m_hold, e8a, e8b, e4a, e4b, e3a, e3b, r_isEight, r_isKind, r_isHall, r_areCents, r_isBox, r_isIn, r_fails, gq_b_s, gq_l_e, bI_z, Classical.not_not, reduceIte, not_true_eq_false, not_false_eq_true, f01, f02, f03, f00, ite_not, ite_self, and_self, m_atN, m_putN, m_addN, m_swapN, g_inN, g_bb0, g_bb1, g_bbI, nI_clamp, pl4, pl4b, pl8, pl8b, thr_r, thr_s, h1, h2, d20, d21, d23, d24, d25, d30, d31, d32, d34, d35, d40, d41, d42, d43, d45, d50, d51, d52, d53, d54, d02, d03, d04, d05, d12, d13, d14, d15, f10, f01b, hnb.1, hnb.2.1, ena, enb]
        exact out_v rfl (rk_k hxf hj).2.2 (inv_thr H)
      · simp (disch := omega) only [f_X9_told, f_X10_told_96, f_X10_told_27, f_X10_told, f_X1_freshOf, m_exist, m_beIn, m_hold, e8a, e8b, e4a, e4b, e3a, e3b, r_isEight, r_isKind, r_isHall, r_areCents, r_isBox, r_isIn, r_fails, gq_b_s, gq_l_e, bI_z, Classical.not_not, reduceIte, not_true_eq_false, not_false_eq_true, f01, f02, f03, f00, ite_not, ite_self, and_self, m_atN, m_putN, m_addN, m_swapN, g_inN, g_bb0, g_bb1, g_bbI, nI_clamp, pl4, pl4b, pl8, pl8b, thr_r, thr_s, h1, h2, d20, d21, d23, d24, d25, d30, d31, d32, d34, d35, d40, d41, d42, d43, d45, d50, d51, d52, d53, d54, d02, d03, d04, d05, d12, d13, d14, d15, f10, f01b, hnb.1, hnb.2.1, ena, enb]
        exact out_v rfl (hxp.1 j hj).1 (inv_thr H)
      · simp (disch := omega) only [f_X9_told, f_X10_told_96, f_X10_told_27, f_X10_told, f_X1_freshOf, m_exist, m_beIn, m_hold, e8a, e8b, e4a, e4b, e3a, e3b, r_isEight, r_isKind, r_isHall, r_areCents, r_isBox, r_isIn, r_fails, gq_b_s, gq_l_e, bI_z, Classical.not_not, reduceIte, not_true_eq_false, not_false_eq_true, f01, f02, f03, f00, ite_not, ite_self, and_self, m_atN, m_putN, m_addN, m_swapN, g_inN, g_bb0, g_bb1, g_bbI, nI_clamp, pl4, pl4b, pl8, pl8b, thr_r, thr_s, h1, h2, d20, d21, d23, d24, d25, d30, d31, d32, d34, d35, d40, d41, d42, d43, d45, d50, d51, d52, d53, d54, d02, d03, d04, d05, d12, d13, d14, d15, f10, f01b, hnb.1, hnb.2.1, ena, enb]
        exact out_v rfl (hxp.1 j hj).2.1 (inv_thr H)
      · simp (disch := omega) only [f_X9_told, f_X10_told_96, f_X10_told_27, f_X10_told, f_X1_freshOf, m_exist, m_beIn, m_hold, e8a, e8b, e4a, e4b, e3a, e3b, r_isEight, r_isKind, r_isHall, r_areCents, r_isBox, r_isIn, r_fails, gq_b_s, gq_l_e, bI_z, Classical.not_not, reduceIte, not_true_eq_false, not_false_eq_true, f01, f02, f03, f00, ite_not, ite_self, and_self, m_atN, m_putN, m_addN, m_swapN, g_inN, g_bb0, g_bb1, g_bbI, nI_clamp, pl4, pl4b, pl8, pl8b, thr_r, thr_s, h1, h2, d20, d21, d23, d24, d25, d30, d31, d32, d34, d35, d40, d41, d42, d43, d45, d50, d51, d52, d53, d54, d02, d03, d04, d05, d12, d13, d14, d15, f10, f01b, hnb.1, hnb.2.1, ena, enb]
        exact out_v rfl (hxl.1 j hj) (inv_thr H)
    · simp (disch := omega) only [f_X9_told, f_X10_told_96, f_X10_told_27, f_X10_told, m_exist, m_beIn, m_hold, e8a, e8b, e4a, e4b, e3a, e3b, r_isEight, r_isKind, r_isHall, r_areCents, r_isBox, r_isIn, r_fails, gq_b_s, gq_l_e, bI_z, Classical.not_not, reduceIte, not_true_eq_false, not_false_eq_true, f01, f02, f03, f00, ite_not, ite_self, and_self, h1, h2, hnb.1, hnb.2.1, ena, enb]
      exact out_t H rfl
  · simp (disch := omega) only [f_X9_told, f_X10_told_96, f_X10_told_27, f_X10_told, m_exist, m_beIn, m_hold, e8a, e8b, e4a, e4b, e3a, e3b, r_isEight, r_isKind, r_isHall, r_areCents, r_isBox, r_isIn, r_fails, gq_b_s, gq_l_e, bI_z, Classical.not_not, reduceIte, not_true_eq_false, not_false_eq_true, f01, f02, f03, f00, ite_not, ite_self, and_self, h1, hnb.1, hnb.2.1, ena, enb]
    exact out_t H rfl
set_option maxHeartbeats 1000000 in
theorem c_lot {N : Nat} {a1 a2 : Int32} {C R : gq_M} (hN : 600 ≤ N) (H : INV C R) : OUT kB (f_X9_lot N a1 a2 C) (f_X10_lot N a1 a2 R) := by
  have H0 := H
  obtain ⟨nb, nl, nr, tn, hnb, hnl, hnr, htn, hda, hop, hdr, hqu, hai, hid, hac, hlk, hla, hwt, hks, hkm, hkh, hbg, hbd, hbo, hbl, hbb, hst, hpw, hxb, hxk, hxr, hxs, hxf, hxl, hxc, hxi, hxp, hsu, hmo, hsb, hlo, hlb, hlf, hlh, hld, hsg, hlr, hcl, hhl⟩ := H0
  have hb150 := hnb.2.2
  have hl150 := hnl.2.2
  have hr20 := hnr.2.2
  have ht5 := htn.2.2
  by_cases h1 : vp_in a1 nl
  · skip
    by_cases h2 : 0 ≤ a2 ∧ a2 ≤ 5
    · skip
      obtain ⟨j, hj, rfl⟩ := vp_in_of h1 (by omega)
      obtain ⟨f, g1, g2, g3, g4⟩ := hsg j hj
      rcases in5 h2 with rfl | rfl | rfl | rfl | rfl | rfl
      · simp (disch := omega) only [f_X9_lot, f_X10_lot_33, f_X10_lot, f_X1_freshOf, f_X1_kindOf, f_X1_sizeOf, f_X6_left, m_exist, m_beIn, m_hold, e8a, e8b, e4a, e4b, e3a, e3b, r_isEight, r_isKind, r_isHall, r_areCents, r_isBox, r_isIn, r_fails, gq_b_s, gq_l_e, bI_z, Classical.not_not, reduceIte, not_true_eq_false, not_false_eq_true, f01, f02, f03, f00, ite_not, ite_self, and_self, m_atN, m_putN, m_addN, m_swapN, g_inN, g_bb0, g_bb1, g_bbI, nI_clamp, pl4, pl4b, pl8, pl8b, thr_r, thr_s, h1, h2, d20, d21, d23, d24, d25, d30, d31, d32, d34, d35, d40, d41, d42, d43, d45, d50, d51, d52, d53, d54, d02, d03, d04, d05, d12, d13, d14, d15, f10, f01b, hnl.1, hnl.2.1, ena, enb]
        exact out_v rfl (hlb j hj) (inv_thr H)
      · simp (disch := omega) only [f_X9_lot, f_X10_lot_33, f_X10_lot, f_X1_freshOf, f_X1_kindOf, f_X1_sizeOf, f_X6_left, m_exist, m_beIn, m_hold, e8a, e8b, e4a, e4b, e3a, e3b, r_isEight, r_isKind, r_isHall, r_areCents, r_isBox, r_isIn, r_fails, gq_b_s, gq_l_e, bI_z, Classical.not_not, reduceIte, not_true_eq_false, not_false_eq_true, f01, f02, f03, f00, ite_not, ite_self, and_self, m_atN, m_putN, m_addN, m_swapN, g_inN, g_bb0, g_bb1, g_bbI, nI_clamp, pl4, pl4b, pl8, pl8b, thr_r, thr_s, h1, h2, d20, d21, d23, d24, d25, d30, d31, d32, d34, d35, d40, d41, d42, d43, d45, d50, d51, d52, d53, d54, d02, d03, d04, d05, d12, d13, d14, d15, f10, f01b, hnl.1, hnl.2.1, ena, enb]
        exact out_v rfl (rk_k hlf hj).1 (inv_thr H)
      · simp (disch := omega) only [f_X9_lot, f_X10_lot_33, f_X10_lot, f_X1_freshOf, f_X1_kindOf, f_X1_sizeOf, f_X6_left, m_exist, m_beIn, m_hold, e8a, e8b, e4a, e4b, e3a, e3b, r_isEight, r_isKind, r_isHall, r_areCents, r_isBox, r_isIn, r_fails, gq_b_s, gq_l_e, bI_z, Classical.not_not, reduceIte, not_true_eq_false, not_false_eq_true, f01, f02, f03, f00, ite_not, ite_self, and_self, m_atN, m_putN, m_addN, m_swapN, g_inN, g_bb0, g_bb1, g_bbI, nI_clamp, pl4, pl4b, pl8, pl8b, thr_r, thr_s, h1, h2, d20, d21, d23, d24, d25, d30, d31, d32, d34, d35, d40, d41, d42, d43, d45, d50, d51, d52, d53, d54, d02, d03, d04, d05, d12, d13, d14, d15, f10, f01b, hnl.1, hnl.2.1, ena, enb]
        exact out_v rfl (rk_k hlf hj).2.1 (inv_thr H)
      · simp (disch := omega) only [f_X9_lot, f_X10_lot_33, f_X10_lot, f_X1_freshOf, f_X1_kindOf, f_X1_sizeOf, f_X6_left, m_exist, m_beIn, m_hold, e8a, e8b, e4a, e4b, e3a, e3b, r_isEight, r_isKind, r_isHall, r_areCents, r_isBox, r_isIn, r_fails, gq_b_s, gq_l_e, bI_z, Classical.not_not, reduceIte, not_true_eq_false, not_false_eq_true, f01, f02, f03, f00, ite_not, ite_self, and_self, m_atN, m_putN, m_addN, m_swapN, g_inN, g_bb0, g_bb1, g_bbI, nI_clamp, pl4, pl4b, pl8, pl8b, thr_r, thr_s, h1, h2, d20, d21, d23, d24, d25, d30, d31, d32, d34, d35, d40, d41, d42, d43, d45, d50, d51, d52, d53, d54, d02, d03, d04, d05, d12, d13, d14, d15, f10, f01b, hnl.1, hnl.2.1, ena, enb]
        exact out_v rfl (rk_k hlf hj).2.2 (inv_thr H)
      · simp (disch := omega) only [f_X9_lot, f_X10_lot_33, f_X10_lot, f_X1_freshOf, f_X1_kindOf, f_X1_sizeOf, f_X6_left, m_exist, m_beIn, m_hold, e8a, e8b, e4a, e4b, e3a, e3b, r_isEight, r_isKind, r_isHall, r_areCents, r_isBox, r_isIn, r_fails, gq_b_s, gq_l_e, bI_z, Classical.not_not, reduceIte, not_true_eq_false, not_false_eq_true, f01, f02, f03, f00, ite_not, ite_self, and_self, m_atN, m_putN, m_addN, m_swapN, g_inN, g_bb0, g_bb1, g_bbI, nI_clamp, pl4, pl4b, pl8, pl8b, thr_r, thr_s, h1, h2, d20, d21, d23, d24, d25, d30, d31, d32, d34, d35, d40, d41, d42, d43, d45, d50, d51, d52, d53, d54, d02, d03, d04, d05, d12, d13, d14, d15, f10, f01b, hnl.1, hnl.2.1, ena, enb]
        exact out_v rfl (hlh.1 j hj) (inv_thr H)
      · simp (disch := omega) only [f_X9_lot, f_X10_lot_33, f_X10_lot, f_X1_freshOf, f_X1_kindOf, f_X1_sizeOf, f_X6_left, m_exist, m_beIn, m_hold, e8a, e8b, e4a, e4b, e3a, e3b, r_isEight, r_isKind, r_isHall, r_areCents, r_isBox, r_isIn, r_fails, gq_b_s, gq_l_e, bI_z, Classical.not_not, reduceIte, not_true_eq_false, not_false_eq_true, f01, f02, f03, f00, ite_not, ite_self, and_self, m_atN, m_putN, m_addN, m_swapN, g_inN, g_bb0, g_bb1, g_bbI, nI_clamp, pl4, pl4b, pl8, pl8b, thr_r, thr_s, h1, h2, d20, d21, d23, d24, d25, d30, d31, d32, d34, d35, d40, d41, d42, d43, d45, d50, d51, d52, d53, d54, d02, d03, d04, d05, d12, d13, d14, d15, f10, f01b, hnl.1, hnl.2.1, ena, enb]
        rw [g1, g2, nI_sub (Nat.le_add_right _ _), Nat.add_sub_cancel_left, r_leftOf (M := thr R 0) (nb := nb) hnb.2.1 hb150 hN]
        exact out_v rfl rfl (inv_thr H)
    · simp (disch := omega) only [f_X9_lot, f_X10_lot_33, f_X10_lot, m_exist, m_beIn, m_hold, e8a, e8b, e4a, e4b, e3a, e3b, r_isEight, r_isKind, r_isHall, r_areCents, r_isBox, r_isIn, r_fails, gq_b_s, gq_l_e, bI_z, Classical.not_not, reduceIte, not_true_eq_false, not_false_eq_true, f01, f02, f03, f00, ite_not, ite_self, and_self, h1, h2, hnl.1, hnl.2.1, ena, enb]
      exact out_t H rfl
  · simp (disch := omega) only [f_X9_lot, f_X10_lot_33, f_X10_lot, m_exist, m_beIn, m_hold, e8a, e8b, e4a, e4b, e3a, e3b, r_isEight, r_isKind, r_isHall, r_areCents, r_isBox, r_isIn, r_fails, gq_b_s, gq_l_e, bI_z, Classical.not_not, reduceIte, not_true_eq_false, not_false_eq_true, f01, f02, f03, f00, ite_not, ite_self, and_self, h1, hnl.1, hnl.2.1, ena, enb]
    exact out_t H rfl
set_option maxHeartbeats 1000000 in
theorem c_loaded {N : Nat} {a1 : Int32} {C R : gq_M} (hN : 600 ≤ N) (H : INV C R) : OUT kA (f_X9_loaded N a1 C) (f_X10_loaded N a1 R) := by
  have H0 := H
  obtain ⟨nb, nl, nr, tn, hnb, hnl, hnr, htn, hda, hop, hdr, hqu, hai, hid, hac, hlk, hla, hwt, hks, hkm, hkh, hbg, hbd, hbo, hbl, hbb, hst, hpw, hxb, hxk, hxr, hxs, hxf, hxl, hxc, hxi, hxp, hsu, hmo, hsb, hlo, hlb, hlf, hlh, hld, hsg, hlr, hcl, hhl⟩ := H0
  have hb150 := hnb.2.2
  have hl150 := hnl.2.2
  have hr20 := hnr.2.2
  have ht5 := htn.2.2
  by_cases h1 : vp_in a1 nr
  · skip
    obtain ⟨j, hj, rfl⟩ := vp_in_of h1 (by omega)
    simp (disch := omega) only [f_X9_loaded, f_X10_loaded_36, f_X10_loaded_20, f_X10_loaded, m_exist, m_beIn, m_hold, e8a, e8b, e4a, e4b, e3a, e3b, r_isEight, r_isKind, r_isHall, r_areCents, r_isBox, r_isIn, r_fails, gq_b_s, gq_l_e, bI_z, Classical.not_not, reduceIte, not_true_eq_false, not_false_eq_true, f01, f02, f03, f00, ite_not, ite_self, and_self, m_atN, m_putN, m_addN, m_swapN, g_inN, g_bb0, g_bb1, g_bbI, nI_clamp, pl4, pl4b, pl8, pl8b, thr_r, thr_s, h1, hnr.1, hnr.2.1, ena, enb]
    exact out_v rfl (hlo.2.2.2.1 j hj) (inv_thr H)
  · simp (disch := omega) only [f_X9_loaded, f_X10_loaded_36, f_X10_loaded_20, f_X10_loaded, m_exist, m_beIn, m_hold, e8a, e8b, e4a, e4b, e3a, e3b, r_isEight, r_isKind, r_isHall, r_areCents, r_isBox, r_isIn, r_fails, gq_b_s, gq_l_e, bI_z, Classical.not_not, reduceIte, not_true_eq_false, not_false_eq_true, f01, f02, f03, f00, ite_not, ite_self, and_self, h1, hnr.1, hnr.2.1, ena, enb]
    exact out_t H rfl
set_option maxHeartbeats 1000000 in
theorem c_hall {N : Nat} {a1 a2 : Int32} {C R : gq_M} (hN : 600 ≤ N) (H : INV C R) : OUT kB (f_X9_hall N a1 a2 C) (f_X10_hall N a1 a2 R) := by
  have H0 := H
  obtain ⟨nb, nl, nr, tn, hnb, hnl, hnr, htn, hda, hop, hdr, hqu, hai, hid, hac, hlk, hla, hwt, hks, hkm, hkh, hbg, hbd, hbo, hbl, hbb, hst, hpw, hxb, hxk, hxr, hxs, hxf, hxl, hxc, hxi, hxp, hsu, hmo, hsb, hlo, hlb, hlf, hlh, hld, hsg, hlr, hcl, hhl⟩ := H0
  have hb150 := hnb.2.2
  have hl150 := hnl.2.2
  have hr20 := hnr.2.2
  have ht5 := htn.2.2
  by_cases h1 : vp_in a1 3
  · skip
    by_cases h2 : 0 ≤ a2 ∧ a2 ≤ 4
    · skip
      obtain ⟨i, hi, rfl⟩ := vp_in_of h1 (by omega)
      obtain ⟨k1, k2, k3, k4, k5, -⟩ := hhl i hi
      rcases in4 h2 with rfl | rfl | rfl | rfl | rfl
      · simp (disch := omega) only [f_X9_hall, f_X10_hall_94, f_X10_hall_26, f_X10_hall, m_exist, m_beIn, m_hold, e8a, e8b, e4a, e4b, e3a, e3b, r_isEight, r_isKind, r_isHall, r_areCents, r_isBox, r_isIn, r_fails, gq_b_s, gq_l_e, bI_z, Classical.not_not, reduceIte, not_true_eq_false, not_false_eq_true, f01, f02, f03, f00, ite_not, ite_self, and_self, m_atN, m_putN, m_addN, m_swapN, g_inN, g_bb0, g_bb1, g_bbI, nI_clamp, pl4, pl4b, pl8, pl8b, thr_r, thr_s, h1, h2, d20, d21, d23, d24, d25, d30, d31, d32, d34, d35, d40, d41, d42, d43, d45, d50, d51, d52, d53, d54, d02, d03, d04, d05, d12, d13, d14, d15, f10, f01b]
        exact out_v rfl k1 (inv_thr H)
      · simp (disch := omega) only [f_X9_hall, f_X10_hall_94, f_X10_hall_26, f_X10_hall, m_exist, m_beIn, m_hold, e8a, e8b, e4a, e4b, e3a, e3b, r_isEight, r_isKind, r_isHall, r_areCents, r_isBox, r_isIn, r_fails, gq_b_s, gq_l_e, bI_z, Classical.not_not, reduceIte, not_true_eq_false, not_false_eq_true, f01, f02, f03, f00, ite_not, ite_self, and_self, m_atN, m_putN, m_addN, m_swapN, g_inN, g_bb0, g_bb1, g_bbI, nI_clamp, pl4, pl4b, pl8, pl8b, thr_r, thr_s, h1, h2, d20, d21, d23, d24, d25, d30, d31, d32, d34, d35, d40, d41, d42, d43, d45, d50, d51, d52, d53, d54, d02, d03, d04, d05, d12, d13, d14, d15, f10, f01b]
        exact out_v rfl k2 (inv_thr H)
      · simp (disch := omega) only [f_X9_hall, f_X10_hall_94, f_X10_hall_26, f_X10_hall, m_exist, m_beIn, m_hold, e8a, e8b, e4a, e4b, e3a, e3b, r_isEight, r_isKind, r_isHall, r_areCents, r_isBox, r_isIn, r_fails, gq_b_s, gq_l_e, bI_z, Classical.not_not, reduceIte, not_true_eq_false, not_false_eq_true, f01, f02, f03, f00, ite_not, ite_self, and_self, m_atN, m_putN, m_addN, m_swapN, g_inN, g_bb0, g_bb1, g_bbI, nI_clamp, pl4, pl4b, pl8, pl8b, thr_r, thr_s, h1, h2, d20, d21, d23, d24, d25, d30, d31, d32, d34, d35, d40, d41, d42, d43, d45, d50, d51, d52, d53, d54, d02, d03, d04, d05, d12, d13, d14, d15, f10, f01b]
        exact out_v rfl k3 (inv_thr H)
      · simp (disch := omega) only [f_X9_hall, f_X10_hall_94, f_X10_hall_26, f_X10_hall, m_exist, m_beIn, m_hold, e8a, e8b, e4a, e4b, e3a, e3b, r_isEight, r_isKind, r_isHall, r_areCents, r_isBox, r_isIn, r_fails, gq_b_s, gq_l_e, bI_z, Classical.not_not, reduceIte, not_true_eq_false, not_false_eq_true, f01, f02, f03, f00, ite_not, ite_self, and_self, m_atN, m_putN, m_addN, m_swapN, g_inN, g_bb0, g_bb1, g_bbI, nI_clamp, pl4, pl4b, pl8, pl8b, thr_r, thr_s, h1, h2, d20, d21, d23, d24, d25, d30, d31, d32, d34, d35, d40, d41, d42, d43, d45, d50, d51, d52, d53, d54, d02, d03, d04, d05, d12, d13, d14, d15, f10, f01b]
        exact out_v rfl k4 (inv_thr H)
      · simp (disch := omega) only [f_X9_hall, f_X10_hall_94, f_X10_hall_26, f_X10_hall, m_exist, m_beIn, m_hold, e8a, e8b, e4a, e4b, e3a, e3b, r_isEight, r_isKind, r_isHall, r_areCents, r_isBox, r_isIn, r_fails, gq_b_s, gq_l_e, bI_z, Classical.not_not, reduceIte, not_true_eq_false, not_false_eq_true, f01, f02, f03, f00, ite_not, ite_self, and_self, m_atN, m_putN, m_addN, m_swapN, g_inN, g_bb0, g_bb1, g_bbI, nI_clamp, pl4, pl4b, pl8, pl8b, thr_r, thr_s, h1, h2, d20, d21, d23, d24, d25, d30, d31, d32, d34, d35, d40, d41, d42, d43, d45, d50, d51, d52, d53, d54, d02, d03, d04, d05, d12, d13, d14, d15, f10, f01b]
        rw [r_lotsOf (M := thr R 0) (nl := nl) hnl.2.1 (by omega) hN]
        exact out_v rfl k5 (inv_thr H)
    · simp (disch := omega) only [f_X9_hall, f_X10_hall_94, f_X10_hall_26, f_X10_hall, m_exist, m_beIn, m_hold, e8a, e8b, e4a, e4b, e3a, e3b, r_isEight, r_isKind, r_isHall, r_areCents, r_isBox, r_isIn, r_fails, gq_b_s, gq_l_e, bI_z, Classical.not_not, reduceIte, not_true_eq_false, not_false_eq_true, f01, f02, f03, f00, ite_not, ite_self, and_self, h1, h2]
      exact out_t H rfl
  · simp (disch := omega) only [f_X9_hall, f_X10_hall_94, f_X10_hall_26, f_X10_hall, m_exist, m_beIn, m_hold, e8a, e8b, e4a, e4b, e3a, e3b, r_isEight, r_isKind, r_isHall, r_areCents, r_isBox, r_isIn, r_fails, gq_b_s, gq_l_e, bI_z, Classical.not_not, reduceIte, not_true_eq_false, not_false_eq_true, f01, f02, f03, f00, ite_not, ite_self, and_self, h1]
    exact out_t H rfl
set_option maxHeartbeats 1000000 in
theorem c_account {N : Nat} {a1 a2 : Int32} {C R : gq_M} (hN : 600 ≤ N) (H : INV C R) : OUT kB (f_X9_account N a1 a2 C) (f_X10_account N a1 a2 R) := by
  have H0 := H
  obtain ⟨nb, nl, nr, tn, hnb, hnl, hnr, htn, hda, hop, hdr, hqu, hai, hid, hac, hlk, hla, hwt, hks, hkm, hkh, hbg, hbd, hbo, hbl, hbb, hst, hpw, hxb, hxk, hxr, hxs, hxf, hxl, hxc, hxi, hxp, hsu, hmo, hsb, hlo, hlb, hlf, hlh, hld, hsg, hlr, hcl, hhl⟩ := H0
  have hb150 := hnb.2.2
  have hl150 := hnl.2.2
  have hr20 := hnr.2.2
  have ht5 := htn.2.2
  by_cases h1 : vp_in a1 8
  · skip
    by_cases h2 : 0 ≤ a2 ∧ a2 ≤ 2
    · skip
      obtain ⟨i, hi, rfl⟩ := vp_in_of h1 (by omega)
      have hR : ∀ w : Int32, f_X10_account_39 N N (nI i) w 0 0 (thr R 0) = _ := fun w => r_account_l (w := w) (nb := nb) (M := thr R 0) hnb.2.1 hb150 hi nb 0 N 0 (by omega) (by omega)
      rcases in2 h2 with rfl | rfl | rfl
      · simp (disch := omega) only [f_X9_account, f_X10_account_101, f_X10_account_65, f_X10_account_26, f_X10_account, m_exist, m_beIn, m_hold, e8a, e8b, e4a, e4b, e3a, e3b, r_isEight, r_isKind, r_isHall, r_areCents, r_isBox, r_isIn, r_fails, gq_b_s, gq_l_e, bI_z, Classical.not_not, reduceIte, not_true_eq_false, not_false_eq_true, f01, f02, f03, f00, ite_not, ite_self, and_self, m_atN, m_putN, m_addN, m_swapN, g_inN, g_bb0, g_bb1, g_bbI, nI_clamp, pl4, pl4b, pl8, pl8b, thr_r, thr_s, h1, h2, hR, d20, d21, d23, d24, d25, d30, d31, d32, d34, d35, d40, d41, d42, d43, d45, d50, d51, d52, d53, d54, d02, d03, d04, d05, d12, d13, d14, d15, f10, f01b]
        exact out_v rfl (hbg i hi) (inv_thr H)
      · simp (disch := omega) only [f_X9_account, f_X10_account_101, f_X10_account_65, f_X10_account_26, f_X10_account, m_exist, m_beIn, m_hold, e8a, e8b, e4a, e4b, e3a, e3b, r_isEight, r_isKind, r_isHall, r_areCents, r_isBox, r_isIn, r_fails, gq_b_s, gq_l_e, bI_z, Classical.not_not, reduceIte, not_true_eq_false, not_false_eq_true, f01, f02, f03, f00, ite_not, ite_self, and_self, m_atN, m_putN, m_addN, m_swapN, g_inN, g_bb0, g_bb1, g_bbI, nI_clamp, pl4, pl4b, pl8, pl8b, thr_r, thr_s, h1, h2, hR, d20, d21, d23, d24, d25, d30, d31, d32, d34, d35, d40, d41, d42, d43, d45, d50, d51, d52, d53, d54, d02, d03, d04, d05, d12, d13, d14, d15, f10, f01b]
        exact out_v rfl (hbo i hi) (inv_thr H)
      · simp (disch := omega) only [f_X9_account, f_X10_account_101, f_X10_account_65, f_X10_account_26, f_X10_account, m_exist, m_beIn, m_hold, e8a, e8b, e4a, e4b, e3a, e3b, r_isEight, r_isKind, r_isHall, r_areCents, r_isBox, r_isIn, r_fails, gq_b_s, gq_l_e, bI_z, Classical.not_not, reduceIte, not_true_eq_false, not_false_eq_true, f01, f02, f03, f00, ite_not, ite_self, and_self, m_atN, m_putN, m_addN, m_swapN, g_inN, g_bb0, g_bb1, g_bbI, nI_clamp, pl4, pl4b, pl8, pl8b, thr_r, thr_s, h1, h2, hR, d20, d21, d23, d24, d25, d30, d31, d32, d34, d35, d40, d41, d42, d43, d45, d50, d51, d52, d53, d54, d02, d03, d04, d05, d12, d13, d14, d15, f10, f01b]
        exact out_v rfl ((hbb i hi).trans (Int32.zero_add _).symm) (inv_thr H)
    · simp (disch := omega) only [f_X9_account, f_X10_account_101, f_X10_account_65, f_X10_account_26, f_X10_account, m_exist, m_beIn, m_hold, e8a, e8b, e4a, e4b, e3a, e3b, r_isEight, r_isKind, r_isHall, r_areCents, r_isBox, r_isIn, r_fails, gq_b_s, gq_l_e, bI_z, Classical.not_not, reduceIte, not_true_eq_false, not_false_eq_true, f01, f02, f03, f00, ite_not, ite_self, and_self, h1, h2]
      exact out_t H rfl
  · simp (disch := omega) only [f_X9_account, f_X10_account_101, f_X10_account_65, f_X10_account_26, f_X10_account, m_exist, m_beIn, m_hold, e8a, e8b, e4a, e4b, e3a, e3b, r_isEight, r_isKind, r_isHall, r_areCents, r_isBox, r_isIn, r_fails, gq_b_s, gq_l_e, bI_z, Classical.not_not, reduceIte, not_true_eq_false, not_false_eq_true, f01, f02, f03, f00, ite_not, ite_self, and_self, h1]
    exact out_t H rfl
set_option maxHeartbeats 1000000 in
theorem c_ship {N : Nat} {a1 a2 : Int32} {C R : gq_M} (hN : 600 ≤ N) (H : INV C R) : OUT kB (f_X9_ship N a1 a2 C) (f_X10_ship N a1 a2 R) := by
  have H0 := H
  obtain ⟨nb, nl, nr, tn, hnb, hnl, hnr, htn, hda, hop, hdr, hqu, hai, hid, hac, hlk, hla, hwt, hks, hkm, hkh, hbg, hbd, hbo, hbl, hbb, hst, hpw, hxb, hxk, hxr, hxs, hxf, hxl, hxc, hxi, hxp, hsu, hmo, hsb, hlo, hlb, hlf, hlh, hld, hsg, hlr, hcl, hhl⟩ := H0
  have hb150 := hnb.2.2
  have hl150 := hnl.2.2
  have hr20 := hnr.2.2
  have ht5 := htn.2.2
  by_cases h1 : vp_in a1 8
  · skip
    by_cases h2 : 0 ≤ a2 ∧ a2 ≤ 2
    · skip
      obtain ⟨i, hi, rfl⟩ := vp_in_of h1 (by omega)
      have hR : ∀ w : Int32, f_X10_ship_41 N N (nI i) w 0 (nI (4 * i)) (thr R 0) = _ := fun w => r_ship_l (w := w) (M := thr R 0) hi 4 (4 * i) N 0 (by omega) (by omega)
      rcases in2 h2 with rfl | rfl | rfl
      · simp (disch := omega) only [f_X9_ship, f_X10_ship_95, f_X10_ship_26, f_X10_ship, m_exist, m_beIn, m_hold, e8a, e8b, e4a, e4b, e3a, e3b, r_isEight, r_isKind, r_isHall, r_areCents, r_isBox, r_isIn, r_fails, gq_b_s, gq_l_e, bI_z, Classical.not_not, reduceIte, not_true_eq_false, not_false_eq_true, f01, f02, f03, f00, ite_not, ite_self, and_self, m_atN, m_putN, m_addN, m_swapN, g_inN, g_bb0, g_bb1, g_bbI, nI_clamp, pl4, pl4b, pl8, pl8b, thr_r, thr_s, h1, h2, pl4z, hR, d20, d21, d23, d24, d25, d30, d31, d32, d34, d35, d40, d41, d42, d43, d45, d50, d51, d52, d53, d54, d02, d03, d04, d05, d12, d13, d14, d15, f10, f01b]
        exact out_v rfl (hac i hi) (inv_thr H)
      · simp (disch := omega) only [f_X9_ship, f_X10_ship_95, f_X10_ship_26, f_X10_ship, m_exist, m_beIn, m_hold, e8a, e8b, e4a, e4b, e3a, e3b, r_isEight, r_isKind, r_isHall, r_areCents, r_isBox, r_isIn, r_fails, gq_b_s, gq_l_e, bI_z, Classical.not_not, reduceIte, not_true_eq_false, not_false_eq_true, f01, f02, f03, f00, ite_not, ite_self, and_self, m_atN, m_putN, m_addN, m_swapN, g_inN, g_bb0, g_bb1, g_bbI, nI_clamp, pl4, pl4b, pl8, pl8b, thr_r, thr_s, h1, h2, pl4z, hR, d20, d21, d23, d24, d25, d30, d31, d32, d34, d35, d40, d41, d42, d43, d45, d50, d51, d52, d53, d54, d02, d03, d04, d05, d12, d13, d14, d15, f10, f01b]
        exact out_v rfl (hai i hi) (inv_thr H)
      · simp (disch := omega) only [f_X9_ship, f_X10_ship_95, f_X10_ship_26, f_X10_ship, m_exist, m_beIn, m_hold, e8a, e8b, e4a, e4b, e3a, e3b, r_isEight, r_isKind, r_isHall, r_areCents, r_isBox, r_isIn, r_fails, gq_b_s, gq_l_e, bI_z, Classical.not_not, reduceIte, not_true_eq_false, not_false_eq_true, f01, f02, f03, f00, ite_not, ite_self, and_self, m_atN, m_putN, m_addN, m_swapN, g_inN, g_bb0, g_bb1, g_bbI, nI_clamp, pl4, pl4b, pl8, pl8b, thr_r, thr_s, h1, h2, pl4z, hR, d20, d21, d23, d24, d25, d30, d31, d32, d34, d35, d40, d41, d42, d43, d45, d50, d51, d52, d53, d54, d02, d03, d04, d05, d12, d13, d14, d15, f10, f01b]
        exact out_v rfl ((hla i hi).trans (Int32.zero_add _).symm) (inv_thr H)
    · simp (disch := omega) only [f_X9_ship, f_X10_ship_95, f_X10_ship_26, f_X10_ship, m_exist, m_beIn, m_hold, e8a, e8b, e4a, e4b, e3a, e3b, r_isEight, r_isKind, r_isHall, r_areCents, r_isBox, r_isIn, r_fails, gq_b_s, gq_l_e, bI_z, Classical.not_not, reduceIte, not_true_eq_false, not_false_eq_true, f01, f02, f03, f00, ite_not, ite_self, and_self, h1, h2]
      exact out_t H rfl
  · simp (disch := omega) only [f_X9_ship, f_X10_ship_95, f_X10_ship_26, f_X10_ship, m_exist, m_beIn, m_hold, e8a, e8b, e4a, e4b, e3a, e3b, r_isEight, r_isKind, r_isHall, r_areCents, r_isBox, r_isIn, r_fails, gq_b_s, gq_l_e, bI_z, Classical.not_not, reduceIte, not_true_eq_false, not_false_eq_true, f01, f02, f03, f00, ite_not, ite_self, and_self, h1]
    exact out_t H rfl
set_option maxHeartbeats 1000000 in
theorem c_kilos {N : Nat} {a1 : Int32} {C R : gq_M} (hN : 600 ≤ N) (H : INV C R) : OUT kG (f_X9_kilos N a1 C) (f_X10_kilos N a1 R) := by
  have H0 := H
  obtain ⟨nb, nl, nr, tn, hnb, hnl, hnr, htn, hda, hop, hdr, hqu, hai, hid, hac, hlk, hla, hwt, hks, hkm, hkh, hbg, hbd, hbo, hbl, hbb, hst, hpw, hxb, hxk, hxr, hxs, hxf, hxl, hxc, hxi, hxp, hsu, hmo, hsb, hlo, hlb, hlf, hlh, hld, hsg, hlr, hcl, hhl⟩ := H0
  have hb150 := hnb.2.2
  have hl150 := hnl.2.2
  have hr20 := hnr.2.2
  have ht5 := htn.2.2
  by_cases h1 : 0 ≤ a1 ∧ a1 ≤ 5
  · skip
    obtain ⟨w, hw, rfl⟩ := in_lit (n := 5) (by omega) h1
    have hR : f_X10_kilos_27 N N (nI w) 0 0 (thr R 0) = _ := r_kilos_l (w := w) (nb := nb) (M := thr R 0) hnb.2.1 hb150 hxs.2 (by omega) nb 0 N 0 (by omega) (by omega)
    have hv : vp_in (nI w) 6 := vp_in_nI (by omega) (by omega)
    simp (disch := omega) only [f_X9_kilos, f_X10_kilos_59, f_X10_kilos_15, f_X10_kilos, f_X10_kilos_59, f_X10_kilos_15, f_X10_kilos, m_exist, m_beIn, m_hold, e8a, e8b, e4a, e4b, e3a, e3b, r_isEight, r_isKind, r_isHall, r_areCents, r_isBox, r_isIn, r_fails, gq_b_s, gq_l_e, bI_z, Classical.not_not, reduceIte, not_true_eq_false, not_false_eq_true, f01, f02, f03, f00, ite_not, ite_self, and_self, m_atN, m_putN, m_addN, m_swapN, g_inN, g_bb0, g_bb1, g_bbI, nI_clamp, pl4, pl4b, pl8, pl8b, thr_r, thr_s, h1, hR]
    exact out_v rfl ((hsu w (by omega)).trans (Int32.zero_add _).symm) (inv_thr H)
  · simp (disch := omega) only [f_X9_kilos, f_X10_kilos_59, f_X10_kilos_15, f_X10_kilos, f_X10_kilos_59, f_X10_kilos_15, f_X10_kilos, m_exist, m_beIn, m_hold, e8a, e8b, e4a, e4b, e3a, e3b, r_isEight, r_isKind, r_isHall, r_areCents, r_isBox, r_isIn, r_fails, gq_b_s, gq_l_e, bI_z, Classical.not_not, reduceIte, not_true_eq_false, not_false_eq_true, f01, f02, f03, f00, ite_not, ite_self, and_self, h1]
    exact out_t H rfl
set_option maxHeartbeats 1000000 in
theorem c_kilosAnew {N : Nat} {a1 : Int32} {C R : gq_M} (hN : 600 ≤ N) (H : INV C R) : OUT kG (f_X9_kilosAnew N a1 C) (f_X10_kilosAnew N a1 R) := by
  have H0 := H
  obtain ⟨nb, nl, nr, tn, hnb, hnl, hnr, htn, hda, hop, hdr, hqu, hai, hid, hac, hlk, hla, hwt, hks, hkm, hkh, hbg, hbd, hbo, hbl, hbb, hst, hpw, hxb, hxk, hxr, hxs, hxf, hxl, hxc, hxi, hxp, hsu, hmo, hsb, hlo, hlb, hlf, hlh, hld, hsg, hlr, hcl, hhl⟩ := H0
  have hb150 := hnb.2.2
  have hl150 := hnl.2.2
  have hr20 := hnr.2.2
  have ht5 := htn.2.2
  by_cases h1 : 0 ≤ a1 ∧ a1 ≤ 5
  · skip
    obtain ⟨w, hw, rfl⟩ := in_lit (n := 5) (by omega) h1
    have hR : f_X10_kilos_27 N N (nI w) 0 0 (thr R 0) = _ := r_kilos_l (w := w) (nb := nb) (M := thr R 0) hnb.2.1 hb150 hxs.2 (by omega) nb 0 N 0 (by omega) (by omega)
    have hS : rngs nb 0 7 (C 44) := fun b hb => (hxs.1 b hb).symm ▸ hxs.2 b hb
    have hC : f_X9_kilosAnew_10 N N (nI w) 0 0 C = _ := m_kilosAnew_l (w := w) (nb := nb) (M := C) hnb.1 hb150 hS (by omega) nb 0 N 0 (by omega) (by omega)
    simp (disch := omega) only [f_X9_kilosAnew_57, f_X9_kilosAnew_43, f_X9_kilosAnew, f_X10_kilosAnew, f_X10_kilos_59, f_X10_kilos_15, f_X10_kilos, m_exist, m_beIn, m_hold, e8a, e8b, e4a, e4b, e3a, e3b, r_isEight, r_isKind, r_isHall, r_areCents, r_isBox, r_isIn, r_fails, gq_b_s, gq_l_e, bI_z, Classical.not_not, reduceIte, not_true_eq_false, not_false_eq_true, f01, f02, f03, f00, ite_not, ite_self, and_self, m_atN, m_putN, m_addN, m_swapN, g_inN, g_bb0, g_bb1, g_bbI, nI_clamp, pl4, pl4b, pl8, pl8b, thr_r, thr_s, h1, hR, hC]
    refine out_v rfl (congrArg (fun x => (0 : Int32) + x) (lsum_congr fun b hb => ?_)) (inv_thr H)
    have hb2 := (rg_m.mp hb).2
    rw [hxs.1 b (by omega), hxk.1 b (by omega)]
  · simp (disch := omega) only [f_X9_kilosAnew_57, f_X9_kilosAnew_43, f_X9_kilosAnew, f_X10_kilosAnew, f_X10_kilos_59, f_X10_kilos_15, f_X10_kilos, m_exist, m_beIn, m_hold, e8a, e8b, e4a, e4b, e3a, e3b, r_isEight, r_isKind, r_isHall, r_areCents, r_isBox, r_isIn, r_fails, gq_b_s, gq_l_e, bI_z, Classical.not_not, reduceIte, not_true_eq_false, not_false_eq_true, f01, f02, f03, f00, ite_not, ite_self, and_self, h1]
    exact out_t H rfl
set_option maxHeartbeats 1000000 in
theorem c_average {N : Nat} {a1 a2 : Int32} {C R : gq_M} (hN : 600 ≤ N) (H : INV C R) : OUT kB (f_X9_average N a1 a2 C) (f_X10_average N a1 a2 R) := by
  have H0 := H
  obtain ⟨nb, nl, nr, tn, hnb, hnl, hnr, htn, hda, hop, hdr, hqu, hai, hid, hac, hlk, hla, hwt, hks, hkm, hkh, hbg, hbd, hbo, hbl, hbb, hst, hpw, hxb, hxk, hxr, hxs, hxf, hxl, hxc, hxi, hxp, hsu, hmo, hsb, hlo, hlb, hlf, hlh, hld, hsg, hlr, hcl, hhl⟩ := H0
  have hb150 := hnb.2.2
  have hl150 := hnl.2.2
  have hr20 := hnr.2.2
  have ht5 := htn.2.2
  by_cases h1 : vp_in a1 4
  · skip
    by_cases h2 : 0 ≤ a2 ∧ a2 ≤ R 0 1
    · skip
      have hC : f_X9_average_22 N N a1 a2 0 0 0 C = _ := m_average_l (x1 := a1) (x2 := a2) (nb := nb) (M := C) hnb.1 hb150 nb 0 N 0 0 (by omega) (by omega)
      have hR : f_X10_average_45 N N a1 a2 0 0 0 (thr R 0) = _ := r_average_l (x1 := a1) (x2 := a2) (nb := nb) (M := thr R 0) hnb.2.1 hb150 nb 0 N 0 0 (by omega) (by omega)
      have hq : ∀ b, b ∈ rg 0 nb → (C 54 b = a2 ∧ C 38 b / 27 = a1 ↔ R 14 b = a1 ∧ ¬ R 21 b = -1 ∧ R 24 b = a2) := by
        intro b hb
        have hb2 := (rg_m.mp hb).2
        rw [(rk_k hxf (b := b) (by omega)).1]
        obtain ⟨-, -, ⟨q1, q2⟩ | ⟨q1, -, -, -, q2⟩⟩ := hxp.1 b (by omega)
        · rw [q1, q2]
          refine ⟨fun q => ?_, fun q => absurd rfl q.2.1⟩
          exact absurd (q.1 ▸ h2.1) (by decide)
        · rw [q2]
          obtain ⟨z, _, hz, q1⟩ := q1
          rw [q1]
          exact ⟨fun q => ⟨q.2, nI_m1 (by omega), q.1⟩, fun q => ⟨q.2.2, q.1⟩⟩
      have e1 : lsum (rg 0 nb) (fun b => if C 54 b = a2 ∧ C 38 b / 27 = a1 then C 40 b * C 50 b else 0) = lsum (rg 0 nb) (fun b => if R 14 b = a1 ∧ ¬ R 21 b = -1 ∧ R 24 b = a2 then R 17 b * R 22 b else 0) := lsum_congr fun b hb => by
        have hb2 := (rg_m.mp hb).2
        simp only [hq b hb, hxk.1 b (by omega), (hxp.1 b (by omega)).2.1]
      have e2 : lsum (rg 0 nb) (fun b => if C 54 b = a2 ∧ C 38 b / 27 = a1 then C 40 b else 0) = lsum (rg 0 nb) (fun b => if R 14 b = a1 ∧ ¬ R 21 b = -1 ∧ R 24 b = a2 then R 17 b else 0) := lsum_congr fun b hb => by
        have hb2 := (rg_m.mp hb).2
        simp only [hq b hb, hxk.1 b (by omega)]
      obtain ⟨s, hs, e3⟩ := lsum_nat (L := rg 0 nb) (f := fun b => if R 14 b = a1 ∧ ¬ R 21 b = -1 ∧ R 24 b = a2 then R 17 b else 0) (m := 100) (fun b hb => by
        have hb2 := (rg_m.mp hb).2
        obtain ⟨g, _, hg, e⟩ := hxk.2 b (by omega)
        by_cases hc : R 14 b = a1 ∧ ¬ R 21 b = -1 ∧ R 24 b = a2
        · exact ⟨g, hg, (if_pos hc).trans e⟩
        · exact ⟨0, by omega, if_neg hc⟩)
      rw [List.length_range'] at hs
      simp (disch := omega) only [f_X9_average_133, f_X9_average_114, f_X9_average, f_X10_average_161, f_X10_average_139, f_X10_average_119, f_X10_average_92, f_X10_average_91, f_X10_average_29, f_X10_average, m_exist, m_beIn, m_hold, e8a, e8b, e4a, e4b, e3a, e3b, r_isEight, r_isKind, r_isHall, r_areCents, r_isBox, r_isIn, r_fails, gq_b_s, gq_l_e, bI_z, Classical.not_not, reduceIte, not_true_eq_false, not_false_eq_true, f01, f02, f03, f00, ite_not, ite_self, and_self, m_atN, m_putN, m_addN, m_swapN, g_inN, g_bb0, g_bb1, g_bbI, nI_clamp, pl4, pl4b, pl8, pl8b, thr_r, thr_s, h1, h2, hda]
      rw [hC, hR, e1, e2]
      simp only [thr_r (M := R) (w := 0) (a := 14) (by omega), thr_r (M := R) (w := 0) (a := 21) (by omega), thr_r (M := R) (w := 0) (a := 24) (by omega), thr_r (M := R) (w := 0) (a := 17) (by omega), thr_r (M := R) (w := 0) (a := 22) (by omega), e3, Int32.zero_add]
      unfold avC avR
      by_cases hs0 : s = 0
      · subst hs0
        exact out_v rfl rfl (inv_thr H)
      · have g1 : ¬ nI s = 0 := nI_ne0 (by omega) (by omega)
        rw [if_neg (nI_nle (by omega) (by omega)), if_neg g1, gq_g_t (b := gq_nz (nI s)) (decide_eq_true g1), gq_g_t (b := gq_nz (nI s)) (decide_eq_true g1)]
        exact out_v rfl rfl (inv_thr H)
    · simp (disch := omega) only [f_X9_average_133, f_X9_average_114, f_X9_average, f_X10_average_161, f_X10_average_139, f_X10_average_119, f_X10_average_92, f_X10_average_91, f_X10_average_29, f_X10_average, m_exist, m_beIn, m_hold, e8a, e8b, e4a, e4b, e3a, e3b, r_isEight, r_isKind, r_isHall, r_areCents, r_isBox, r_isIn, r_fails, gq_b_s, gq_l_e, bI_z, Classical.not_not, reduceIte, not_true_eq_false, not_false_eq_true, f01, f02, f03, f00, ite_not, ite_self, and_self, h1, h2, hda]
      exact out_t H rfl
  · simp (disch := omega) only [f_X9_average_133, f_X9_average_114, f_X9_average, f_X10_average_161, f_X10_average_139, f_X10_average_119, f_X10_average_92, f_X10_average_91, f_X10_average_29, f_X10_average, m_exist, m_beIn, m_hold, e8a, e8b, e4a, e4b, e3a, e3b, r_isEight, r_isKind, r_isHall, r_areCents, r_isBox, r_isIn, r_fails, gq_b_s, gq_l_e, bI_z, Classical.not_not, reduceIte, not_true_eq_false, not_false_eq_true, f01, f02, f03, f00, ite_not, ite_self, and_self, h1, hda]
    exact out_t H rfl
