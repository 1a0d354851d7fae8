/-! pure: the calls that tell, and those that only look at one number -/
theorem f01 : ((0 : Int32) < 1) = True := by decide
theorem f02 : ((0 : Int32) < 2) = True := by decide
theorem f03 : ((0 : Int32) < 3) = True := by decide
theorem f00 : ((0 : Int32) < 0) = False := by decide
theorem pl4 (i k : Nat) : nI i * 4 + nI k = nI (4 * i + k) := by rw [show (4 : Int32) = nI 4 from rfl, nI_mul, nI_add, Nat.mul_comm]
theorem pl4b (i k : Nat) : 4 * nI i + nI k = nI (4 * i + k) := by rw [show (4 : Int32) = nI 4 from rfl, nI_mul, nI_add]
theorem pl8 (i k : Nat) : nI i * 8 + nI k = nI (8 * i + k) := by rw [show (8 : Int32) = nI 8 from rfl, nI_mul, nI_add, Nat.mul_comm]
theorem pl8b (i k : Nat) : 8 * nI i + nI k = nI (8 * i + k) := by rw [show (8 : Int32) = nI 8 from rfl, nI_mul, nI_add]
theorem thr_r {M : gq_M} {w : Int32} {a : Nat} (h : a ≠ 0) : thr M w a = M a := up_ne h
theorem thr_s {M : gq_M} {w : Int32} {a : Nat} (h : a ≠ 54) : thr M w 0 a = M 0 a := (congrFun (up_row _ _ _ _) a).trans (upd_n h)
theorem out_t {kk : Nat → Option Int32} {e : Nat} {v v2 w : Int32} {C R : gq_M} (H : INV C R) (hk : kk (e + 1) = some w) : OUT kk (some (e + 1, v, C)) (some (v2, thr R w)) := ⟨e + 1, v, v2, C, thr R w, rfl, rfl, hk.trans (congrArg some (thr_v R w).symm), fun h => absurd h (Nat.succ_ne_zero e), inv_thr H⟩
theorem out_v {kk : Nat → Option Int32} {v v2 : Int32} {C2 R2 : gq_M} (h0 : kk 0 = some (R2 0 54)) (hv : v = v2) (H : INV C2 R2) : OUT kk (some (0, v, C2)) (some (v2, R2)) := ⟨0, v, v2, C2, R2, rfl, rfl, h0, fun _ => hv, H⟩
theorem eqR_up {n j : Nat} {f g : Nat → Int32} {v : Int32} (h : eqR n f g) : eqR n (upd f j v) (upd g j v) := by
  intro k hk
  by_cases hh : k = j
  · subst hh; rw [upd_s, upd_s]
  · rw [upd_n hh, upd_n hh]; exact h k hk
theorem rngs_up {n a b j : Nat} {f : Nat → Int32} {v : Int32} (h : rngs n a b f) (hv : rng a b v) : rngs n a b (upd f j v) := by
  intro k hk
  by_cases hh : k = j
  · subst hh; rw [upd_s]; exact hv
  · rw [upd_n hh]; exact h k hk
theorem bits_up {n j : Nat} {f : Nat → Int32} {v : Int32} (h : bits n f) (hv : bit v) : bits n (upd f j v) := by
  intro k hk
  by_cases hh : k = j
  · subst hh; rw [upd_s]; exact hv
  · rw [upd_n hh]; exact h k hk
theorem rng_of {a b : Nat} {v : Int32} (hb : b < 2 ^ 31) (h : nI a ≤ v ∧ v ≤ nI b) (ha : a < 2 ^ 31) : rng a b v := by
  have h1 := Int32.le_iff_toInt_le.mp h.1
  have h2 := Int32.le_iff_toInt_le.mp h.2
  rw [nI_toInt ha] at h1
  rw [nI_toInt hb] at h2
  obtain ⟨j, hj, rfl⟩ := nI_of (x := v) (fun hh => by
    have := Int32.lt_iff_toInt_lt.mp hh
    have h3 : (0 : Int32).toInt = 0 := rfl
    omega)
  rw [nI_toInt hj] at h1 h2
  exact ⟨j, by omega, by omega, rfl⟩

theorem f01b : ((0 : Int32) = 1) = False := by decide
theorem f10 : ((1 : Int32) = 0) = False := by decide
set_option maxHeartbeats 1000000 in
theorem c_quota {N : Nat} {a1 a2 a3 : Int32} {C R : gq_M} (H : INV C R) : OUT kB (f_X9_quota N a1 a2 a3 C) (f_X10_quota N a1 a2 a3 R) := by
  by_cases h1 : vp_in a1 8
  · skip
    by_cases h2 : vp_in a2 4
    · skip
      by_cases h3 : 0 ≤ a3 ∧ a3 ≤ 100000
      · skip
        obtain ⟨i, hi, rfl⟩ := vp_in_of h1 (by omega)
        obtain ⟨k, hk, rfl⟩ := vp_in_of h2 (by omega)
        obtain ⟨nb, nl, nr, tn, hnb, hnl, hnr, htn, hda, hop, hdr, hqu, hai, hid, hac, hlk, hla, hwt, hks, hkm, hkh, hbg, hbd, hbo, hbl, hbb, hst, hpw, hxb, hxk, hxr, hxs, hxf, hxl, hxc, hxi, hxp, hsu, hmo, hsb, hlo, hlb, hlf, hlh, hld, hsg, hlr, hcl, hhl⟩ := H
        simp (disch := omega) only [f_X9_quota, f_X10_quota_46, f_X10_quota_19, f_X10_quota_18, f_X10_quota, f_X0_placeOf, m_exist, m_beIn, m_hold, e8a, e8b, e4a, e4b, e3a, e3b, r_isEight, r_isKind, r_isHall, r_areCents, r_isBox, r_isIn, r_fails, gq_b_s, gq_l_e, bI_z, Classical.not_not, reduceIte, not_true_eq_false, not_false_eq_true, f01, f02, f03, f00, ite_not, ite_self, and_self, m_atN, m_putN, m_addN, m_swapN, g_inN, g_bb0, g_bb1, g_bbI, nI_clamp, pl4, pl4b, pl8, pl8b, thr_r, thr_s, h1, h2, h3]
        exact out_v rfl (hqu _ (by omega)) ⟨nb, nl, nr, tn, hnb, hnl, hnr, htn, hda, hop, hdr, (eqR_up hqu), hai, hid, hac, hlk, hla, hwt, hks, hkm, hkh, hbg, hbd, hbo, hbl, hbb, hst, hpw, hxb, hxk, hxr, hxs, hxf, hxl, hxc, hxi, hxp, hsu, hmo, hsb, hlo, hlb, hlf, hlh, hld, hsg, hlr, hcl, hhl⟩
      · simp (disch := omega) only [f_X9_quota, f_X10_quota_46, f_X10_quota_19, f_X10_quota_18, f_X10_quota, m_exist, m_beIn, m_hold, e8a, e8b, e4a, e4b, e3a, e3b, r_isEight, r_isKind, r_isHall, r_areCents, r_isBox, r_isIn, r_fails, gq_b_s, gq_l_e, bI_z, Classical.not_not, reduceIte, not_true_eq_false, not_false_eq_true, f01, f02, f03, f00, ite_not, ite_self, and_self, h1, h2, h3]
        exact out_t H rfl
    · simp (disch := omega) only [f_X9_quota, f_X10_quota_46, f_X10_quota_19, f_X10_quota_18, f_X10_quota, m_exist, m_beIn, m_hold, e8a, e8b, e4a, e4b, e3a, e3b, r_isEight, r_isKind, r_isHall, r_areCents, r_isBox, r_isIn, r_fails, gq_b_s, gq_l_e, bI_z, Classical.not_not, reduceIte, not_true_eq_false, not_false_eq_true, f01, f02, f03, f00, ite_not, ite_self, and_self, h1, h2]
      exact out_t H rfl
  · simp (disch := omega) only [f_X9_quota, f_X10_quota_46, f_X10_quota_19, f_X10_quota_18, f_X10_quota, m_exist, m_beIn, m_hold, e8a, e8b, e4a, e4b, e3a, e3b, r_isEight, r_isKind, r_isHall, r_areCents, r_isBox, r_isIn, r_fails, gq_b_s, gq_l_e, bI_z, Classical.not_not, reduceIte, not_true_eq_false, not_false_eq_true, f01, f02, f03, f00, ite_not, ite_self, and_self, h1]
    exact out_t H rfl
set_option maxHeartbeats 1000000 in
theorem c_aid {N : Nat} {a1 a2 a3 : Int32} {C R : gq_M} (H : INV C R) (hq : bit a3) : OUT kB (f_X9_aid N a1 a2 a3 C) (f_X10_aid N a1 a2 a3 R) := by
  by_cases h1 : vp_in a1 8
  · skip
    by_cases h3 : 0 ≤ a2 ∧ a2 ≤ 100000
    · skip
      obtain ⟨i, hi, rfl⟩ := vp_in_of h1 (by omega)
      obtain ⟨nb, nl, nr, tn, hnb, hnl, hnr, htn, hda, hop, hdr, hqu, hai, hid, hac, hlk, hla, hwt, hks, hkm, hkh, hbg, hbd, hbo, hbl, hbb, hst, hpw, hxb, hxk, hxr, hxs, hxf, hxl, hxc, hxi, hxp, hsu, hmo, hsb, hlo, hlb, hlf, hlh, hld, hsg, hlr, hcl, hhl⟩ := H
      rcases hq with rfl | rfl
      · simp (disch := omega) only [f_X9_aid_30, f_X9_aid, f_X10_aid_27, f_X10_aid, m_exist, m_beIn, m_hold, e8a, e8b, e4a, e4b, e3a, e3b, r_isEight, r_isKind, r_isHall, r_areCents, r_isBox, r_isIn, r_fails, gq_b_s, gq_l_e, bI_z, Classical.not_not, reduceIte, not_true_eq_false, not_false_eq_true, f01, f02, f03, f00, ite_not, ite_self, and_self, m_atN, m_putN, m_addN, m_swapN, g_inN, g_bb0, g_bb1, g_bbI, nI_clamp, pl4, pl4b, pl8, pl8b, thr_r, thr_s, h1, h3, f10, up_ne, ne_eq, Nat.reduceEqDiff]
        exact out_v rfl (hai _ (by omega)) ⟨nb, nl, nr, tn, hnb, hnl, hnr, htn, hda, hop, hdr, hqu, (eqR_up hai), ⟨eqR_up hid.1, bits_up hid.2 (Or.inl rfl)⟩, hac, hlk, hla, hwt, hks, hkm, hkh, hbg, hbd, hbo, hbl, hbb, hst, hpw, hxb, hxk, hxr, hxs, hxf, hxl, hxc, hxi, hxp, hsu, hmo, hsb, hlo, hlb, hlf, hlh, hld, hsg, hlr, hcl, hhl⟩
      · simp (disch := omega) only [f_X9_aid_30, f_X9_aid, f_X10_aid_27, f_X10_aid, m_exist, m_beIn, m_hold, e8a, e8b, e4a, e4b, e3a, e3b, r_isEight, r_isKind, r_isHall, r_areCents, r_isBox, r_isIn, r_fails, gq_b_s, gq_l_e, bI_z, Classical.not_not, reduceIte, not_true_eq_false, not_false_eq_true, f01, f02, f03, f00, ite_not, ite_self, and_self, m_atN, m_putN, m_addN, m_swapN, g_inN, g_bb0, g_bb1, g_bbI, nI_clamp, pl4, pl4b, pl8, pl8b, thr_r, thr_s, h1, h3, f10, up_ne, ne_eq, Nat.reduceEqDiff]
        exact out_v rfl (hai _ (by omega)) ⟨nb, nl, nr, tn, hnb, hnl, hnr, htn, hda, hop, hdr, hqu, (eqR_up hai), ⟨eqR_up hid.1, bits_up hid.2 (Or.inr rfl)⟩, hac, hlk, hla, hwt, hks, hkm, hkh, hbg, hbd, hbo, hbl, hbb, hst, hpw, hxb, hxk, hxr, hxs, hxf, hxl, hxc, hxi, hxp, hsu, hmo, hsb, hlo, hlb, hlf, hlh, hld, hsg, hlr, hcl, hhl⟩
    · simp (disch := omega) only [f_X9_aid_30, f_X9_aid, f_X10_aid_27, f_X10_aid, m_exist, m_beIn, m_hold, e8a, e8b, e4a, e4b, e3a, e3b, r_isEight, r_isKind, r_isHall, r_areCents, r_isBox, r_isIn, r_fails, gq_b_s, gq_l_e, bI_z, Classical.not_not, reduceIte, not_true_eq_false, not_false_eq_true, f01, f02, f03, f00, ite_not, ite_self, and_self, h1, h3]
      exact out_t H rfl
  · simp (disch := omega) only [f_X9_aid_30, f_X9_aid, f_X10_aid_27, f_X10_aid, m_exist, m_beIn, m_hold, e8a, e8b, e4a, e4b, e3a, e3b, r_isEight, r_isKind, r_isHall, r_areCents, r_isBox, r_isIn, r_fails, gq_b_s, gq_l_e, bI_z, Classical.not_not, reduceIte, not_true_eq_false, not_false_eq_true, f01, f02, f03, f00, ite_not, ite_self, and_self, h1]
    exact out_t H rfl
set_option maxHeartbeats 1000000 in
theorem c_kind {N : Nat} {a1 a2 a3 a4 : Int32} {C R : gq_M} (H : INV C R) : OUT kB (f_X9_kind N a1 a2 a3 a4 C) (f_X10_kind N a1 a2 a3 a4 R) := by
  by_cases h1 : vp_in a1 4
  · skip
    by_cases h2 : vp_in a4 3
    · skip
      by_cases h3 : 1 ≤ a2 ∧ a2 ≤ 10000
      · skip
        by_cases h4 : 1 ≤ a3 ∧ a3 ≤ 10000
        · skip
          obtain ⟨i, hi, rfl⟩ := vp_in_of h1 (by omega)
          have g4 : rng 0 2 a4 := rng_of (a := 0) (b := 2) (by omega) ((e3b a4).symm ▸ h2) (by omega)
          obtain ⟨nb, nl, nr, tn, hnb, hnl, hnr, htn, hda, hop, hdr, hqu, hai, hid, hac, hlk, hla, hwt, hks, hkm, hkh, hbg, hbd, hbo, hbl, hbb, hst, hpw, hxb, hxk, hxr, hxs, hxf, hxl, hxc, hxi, hxp, hsu, hmo, hsb, hlo, hlb, hlf, hlh, hld, hsg, hlr, hcl, hhl⟩ := H
          simp (disch := omega) only [f_X9_kind, f_X10_kind_71, f_X10_kind_49, f_X10_kind_48, f_X10_kind_20, f_X10_kind_19, f_X10_kind, m_exist, m_beIn, m_hold, e8a, e8b, e4a, e4b, e3a, e3b, r_isEight, r_isKind, r_isHall, r_areCents, r_isBox, r_isIn, r_fails, gq_b_s, gq_l_e, bI_z, Classical.not_not, reduceIte, not_true_eq_false, not_false_eq_true, f01, f02, f03, f00, ite_not, ite_self, and_self, m_atN, m_putN, m_addN, m_swapN, g_inN, g_bb0, g_bb1, g_bbI, nI_clamp, pl4, pl4b, pl8, pl8b, thr_r, thr_s, h1, h2, h3, h4]
          exact out_v rfl rfl ⟨nb, nl, nr, tn, hnb, hnl, hnr, htn, hda, hop, hdr, hqu, hai, hid, hac, hlk, hla, hwt, ⟨eqR_up hks.1, rngs_up hks.2 (rng_of (a := 1) (b := 10000) (by omega) h3 (by omega))⟩, ⟨eqR_up hkm.1, rngs_up hkm.2 (rng_of (a := 1) (b := 10000) (by omega) h4 (by omega))⟩, ⟨eqR_up hkh.1, rngs_up hkh.2 g4⟩, hbg, hbd, hbo, hbl, hbb, hst, hpw, hxb, hxk, hxr, hxs, hxf, hxl, hxc, hxi, hxp, hsu, hmo, hsb, hlo, hlb, hlf, hlh, hld, hsg, hlr, hcl, hhl⟩
        · simp (disch := omega) only [f_X9_kind, f_X10_kind_71, f_X10_kind_49, f_X10_kind_48, f_X10_kind_20, f_X10_kind_19, f_X10_kind, m_exist, m_beIn, m_hold, e8a, e8b, e4a, e4b, e3a, e3b, r_isEight, r_isKind, r_isHall, r_areCents, r_isBox, r_isIn, r_fails, gq_b_s, gq_l_e, bI_z, Classical.not_not, reduceIte, not_true_eq_false, not_false_eq_true, f01, f02, f03, f00, ite_not, ite_self, and_self, h1, h2, h3, h4]
          exact out_t H rfl
      · simp (disch := omega) only [f_X9_kind, f_X10_kind_71, f_X10_kind_49, f_X10_kind_48, f_X10_kind_20, f_X10_kind_19, f_X10_kind, m_exist, m_beIn, m_hold, e8a, e8b, e4a, e4b, e3a, e3b, r_isEight, r_isKind, r_isHall, r_areCents, r_isBox, r_isIn, r_fails, gq_b_s, gq_l_e, bI_z, Classical.not_not, reduceIte, not_true_eq_false, not_false_eq_true, f01, f02, f03, f00, ite_not, ite_self, and_self, h1, h2, h3]
        exact out_t H rfl
    · simp (disch := omega) only [f_X9_kind, f_X10_kind_71, f_X10_kind_49, f_X10_kind_48, f_X10_kind_20, f_X10_kind_19, f_X10_kind, m_exist, m_beIn, m_hold, e8a, e8b, e4a, e4b, e3a, e3b, r_isEight, r_isKind, r_isHall, r_areCents, r_isBox, r_isIn, r_fails, gq_b_s, gq_l_e, bI_z, Classical.not_not, reduceIte, not_true_eq_false, not_false_eq_true, f01, f02, f03, f00, ite_not, ite_self, and_self, h1, h2]
      exact out_t H rfl
  · simp (disch := omega) only [f_X9_kind, f_X10_kind_71, f_X10_kind_49, f_X10_kind_48, f_X10_kind_20, f_X10_kind_19, f_X10_kind, m_exist, m_beIn, m_hold, e8a, e8b, e4a, e4b, e3a, e3b, r_isEight, r_isKind, r_isHall, r_areCents, r_isBox, r_isIn, r_fails, gq_b_s, gq_l_e, bI_z, Classical.not_not, reduceIte, not_true_eq_false, not_false_eq_true, f01, f02, f03, f00, ite_not, ite_self, and_self, h1]
    exact out_t H rfl
set_option maxHeartbeats 1000000 in
theorem c_step {N : Nat} {a1 a2 : Int32} {C R : gq_M} (H : INV C R) : OUT kB (f_X9_step N a1 a2 C) (f_X10_step N a1 a2 R) := by
  by_cases h1 : vp_in a1 3
  · skip
    by_cases h2 : 1 ≤ a2 ∧ a2 ≤ 500
    · skip
      obtain ⟨i, hi, rfl⟩ := vp_in_of h1 (by omega)
      obtain ⟨nb, nl, nr, tn, hnb, hnl, hnr, htn, hda, hop, hdr, hqu, hai, hid, hac, hlk, hla, hwt, hks, hkm, hkh, hbg, hbd, hbo, hbl, hbb, hst, hpw, hxb, hxk, hxr, hxs, hxf, hxl, hxc, hxi, hxp, hsu, hmo, hsb, hlo, hlb, hlf, hlh, hld, hsg, hlr, hcl, hhl⟩ := H
      simp (disch := omega) only [f_X9_step, f_X10_step_28, f_X10_step, m_exist, m_beIn, m_hold, e8a, e8b, e4a, e4b, e3a, e3b, r_isEight, r_isKind, r_isHall, r_areCents, r_isBox, r_isIn, r_fails, gq_b_s, gq_l_e, bI_z, Classical.not_not, reduceIte, not_true_eq_false, not_false_eq_true, f01, f02, f03, f00, ite_not, ite_self, and_self, m_atN, m_putN, m_addN, m_swapN, g_inN, g_bb0, g_bb1, g_bbI, nI_clamp, pl4, pl4b, pl8, pl8b, thr_r, thr_s, h1, h2]
      exact out_v rfl (hst.1 _ hi) ⟨nb, nl, nr, tn, hnb, hnl, hnr, htn, hda, hop, hdr, hqu, hai, hid, hac, hlk, hla, hwt, hks, hkm, hkh, hbg, hbd, hbo, hbl, hbb, ⟨eqR_up hst.1, rngs_up hst.2 (rng_of (a := 1) (b := 500) (by omega) h2 (by omega))⟩, hpw, hxb, hxk, hxr, hxs, hxf, hxl, hxc, hxi, hxp, hsu, hmo, hsb, hlo, hlb, hlf, hlh, hld, hsg, hlr, hcl, hhl⟩
    · simp (disch := omega) only [f_X9_step, f_X10_step_28, f_X10_step, m_exist, m_beIn, m_hold, e8a, e8b, e4a, e4b, e3a, e3b, r_isEight, r_isKind, r_isHall, r_areCents, r_isBox, r_isIn, r_fails, gq_b_s, gq_l_e, bI_z, Classical.not_not, reduceIte, not_true_eq_false, not_false_eq_true, f01, f02, f03, f00, ite_not, ite_self, and_self, h1, h2]
      exact out_t H rfl
  · simp (disch := omega) only [f_X9_step, f_X10_step_28, f_X10_step, m_exist, m_beIn, m_hold, e8a, e8b, e4a, e4b, e3a, e3b, r_isEight, r_isKind, r_isHall, r_areCents, r_isBox, r_isIn, r_fails, gq_b_s, gq_l_e, bI_z, Classical.not_not, reduceIte, not_true_eq_false, not_false_eq_true, f01, f02, f03, f00, ite_not, ite_self, and_self, h1]
    exact out_t H rfl
set_option maxHeartbeats 1000000 in
theorem c_buyer {N : Nat} {a1 a2 a3 : Int32} {C R : gq_M} (H : INV C R) : OUT kB (f_X9_buyer N a1 a2 a3 C) (f_X10_buyer N a1 a2 a3 R) := by
  by_cases h1 : vp_in a1 8
  · skip
    by_cases h2 : 0 ≤ a2 ∧ a2 ≤ 100000000
    · skip
      by_cases h3 : 1 ≤ a3 ∧ a3 ≤ 9
      · skip
        obtain ⟨i, hi, rfl⟩ := vp_in_of h1 (by omega)
        obtain ⟨nb, nl, nr, tn, hnb, hnl, hnr, htn, hda, hop, hdr, hqu, hai, hid, hac, hlk, hla, hwt, hks, hkm, hkh, hbg, hbd, hbo, hbl, hbb, hst, hpw, hxb, hxk, hxr, hxs, hxf, hxl, hxc, hxi, hxp, hsu, hmo, hsb, hlo, hlb, hlf, hlh, hld, hsg, hlr, hcl, hhl⟩ := H
        simp (disch := omega) only [f_X9_buyer, f_X10_buyer_49, f_X10_buyer_25, f_X10_buyer_24, f_X10_buyer, m_exist, m_beIn, m_hold, e8a, e8b, e4a, e4b, e3a, e3b, r_isEight, r_isKind, r_isHall, r_areCents, r_isBox, r_isIn, r_fails, gq_b_s, gq_l_e, bI_z, Classical.not_not, reduceIte, not_true_eq_false, not_false_eq_true, f01, f02, f03, f00, ite_not, ite_self, and_self, m_atN, m_putN, m_addN, m_swapN, g_inN, g_bb0, g_bb1, g_bbI, nI_clamp, pl4, pl4b, pl8, pl8b, thr_r, thr_s, h1, h2, h3, up_ne, ne_eq, Nat.reduceEqDiff]
        exact out_v rfl (hbg _ hi) ⟨nb, nl, nr, tn, hnb, hnl, hnr, htn, hda, hop, hdr, hqu, hai, hid, hac, hlk, hla, hwt, hks, hkm, hkh, (eqR_up hbg), ⟨eqR_up hbd.1, rngs_up hbd.2 (rng_of (a := 1) (b := 9) (by omega) h3 (by omega))⟩, hbo, hbl, hbb, hst, hpw, hxb, hxk, hxr, hxs, hxf, hxl, hxc, hxi, hxp, hsu, hmo, hsb, hlo, hlb, hlf, hlh, hld, hsg, hlr, hcl, hhl⟩
      · simp (disch := omega) only [f_X9_buyer, f_X10_buyer_49, f_X10_buyer_25, f_X10_buyer_24, f_X10_buyer, m_exist, m_beIn, m_hold, e8a, e8b, e4a, e4b, e3a, e3b, r_isEight, r_isKind, r_isHall, r_areCents, r_isBox, r_isIn, r_fails, gq_b_s, gq_l_e, bI_z, Classical.not_not, reduceIte, not_true_eq_false, not_false_eq_true, f01, f02, f03, f00, ite_not, ite_self, and_self, h1, h2, h3]
        exact out_t H rfl
    · simp (disch := omega) only [f_X9_buyer, f_X10_buyer_49, f_X10_buyer_25, f_X10_buyer_24, f_X10_buyer, m_exist, m_beIn, m_hold, e8a, e8b, e4a, e4b, e3a, e3b, r_isEight, r_isKind, r_isHall, r_areCents, r_isBox, r_isIn, r_fails, gq_b_s, gq_l_e, bI_z, Classical.not_not, reduceIte, not_true_eq_false, not_false_eq_true, f01, f02, f03, f00, ite_not, ite_self, and_self, h1, h2]
      exact out_t H rfl
  · simp (disch := omega) only [f_X9_buyer, f_X10_buyer_49, f_X10_buyer_25, f_X10_buyer_24, f_X10_buyer, m_exist, m_beIn, m_hold, e8a, e8b, e4a, e4b, e3a, e3b, r_isEight, r_isKind, r_isHall, r_areCents, r_isBox, r_isIn, r_fails, gq_b_s, gq_l_e, bI_z, Classical.not_not, reduceIte, not_true_eq_false, not_false_eq_true, f01, f02, f03, f00, ite_not, ite_self, and_self, h1]
    exact out_t H rfl
set_option maxHeartbeats 1000000 in
theorem c_power {N : Nat} {a1 a2 : Int32} {C R : gq_M} (H : INV C R) (hq : bit a2) : OUT kA (f_X9_power N a1 a2 C) (f_X10_power N a1 a2 R) := by
  by_cases h1 : vp_in a1 3
  · skip
    obtain ⟨i, hi, rfl⟩ := vp_in_of h1 (by omega)
    obtain ⟨nb, nl, nr, tn, hnb, hnl, hnr, htn, hda, hop, hdr, hqu, hai, hid, hac, hlk, hla, hwt, hks, hkm, hkh, hbg, hbd, hbo, hbl, hbb, hst, hpw, hxb, hxk, hxr, hxs, hxf, hxl, hxc, hxi, hxp, hsu, hmo, hsb, hlo, hlb, hlf, hlh, hld, hsg, hlr, hcl, hhl⟩ := H
    have hb := hpw.2 i hi
    have he := hpw.1 i hi
    rcases hq with rfl | rfl
    · rcases hb with hb | hb
      · simp (disch := omega) only [f_X9_power_34, f_X9_power_22, f_X9_power, f_X10_power_13, f_X10_power, m_exist, m_beIn, m_hold, e8a, e8b, e4a, e4b, e3a, e3b, r_isEight, r_isKind, r_isHall, r_areCents, r_isBox, r_isIn, r_fails, gq_b_s, gq_l_e, bI_z, Classical.not_not, reduceIte, not_true_eq_false, not_false_eq_true, f01, f02, f03, f00, ite_not, ite_self, and_self, m_atN, m_putN, m_addN, m_swapN, g_inN, g_bb0, g_bb1, g_bbI, nI_clamp, pl4, pl4b, pl8, pl8b, thr_r, thr_s, h1, he, hb, f10, f01b]
        exact out_v rfl rfl ⟨nb, nl, nr, tn, hnb, hnl, hnr, htn, hda, hop, hdr, hqu, hai, hid, hac, hlk, hla, hwt, hks, hkm, hkh, hbg, hbd, hbo, hbl, hbb, hst, ⟨eqR_up hpw.1, bits_up hpw.2 (Or.inl rfl)⟩, hxb, hxk, hxr, hxs, hxf, hxl, hxc, hxi, hxp, hsu, hmo, hsb, hlo, hlb, hlf, hlh, hld, hsg, hlr, hcl, hhl⟩
      · simp (disch := omega) only [f_X9_power_34, f_X9_power_22, f_X9_power, f_X10_power_13, f_X10_power, m_exist, m_beIn, m_hold, e8a, e8b, e4a, e4b, e3a, e3b, r_isEight, r_isKind, r_isHall, r_areCents, r_isBox, r_isIn, r_fails, gq_b_s, gq_l_e, bI_z, Classical.not_not, reduceIte, not_true_eq_false, not_false_eq_true, f01, f02, f03, f00, ite_not, ite_self, and_self, m_atN, m_putN, m_addN, m_swapN, g_inN, g_bb0, g_bb1, g_bbI, nI_clamp, pl4, pl4b, pl8, pl8b, thr_r, thr_s, h1, he, hb, f10, f01b]
        exact out_v rfl rfl ⟨nb, nl, nr, tn, hnb, hnl, hnr, htn, hda, hop, hdr, hqu, hai, hid, hac, hlk, hla, hwt, hks, hkm, hkh, hbg, hbd, hbo, hbl, hbb, hst, ⟨eqR_up hpw.1, bits_up hpw.2 (Or.inl rfl)⟩, hxb, hxk, hxr, hxs, hxf, hxl, hxc, hxi, hxp, hsu, hmo, hsb, hlo, hlb, hlf, hlh, hld, hsg, hlr, hcl, hhl⟩
    · rcases hb with hb | hb
      · simp (disch := omega) only [f_X9_power_34, f_X9_power_22, f_X9_power, f_X10_power_13, f_X10_power, m_exist, m_beIn, m_hold, e8a, e8b, e4a, e4b, e3a, e3b, r_isEight, r_isKind, r_isHall, r_areCents, r_isBox, r_isIn, r_fails, gq_b_s, gq_l_e, bI_z, Classical.not_not, reduceIte, not_true_eq_false, not_false_eq_true, f01, f02, f03, f00, ite_not, ite_self, and_self, m_atN, m_putN, m_addN, m_swapN, g_inN, g_bb0, g_bb1, g_bbI, nI_clamp, pl4, pl4b, pl8, pl8b, thr_r, thr_s, h1, he, hb, f10, f01b]
        exact out_v rfl rfl ⟨nb, nl, nr, tn, hnb, hnl, hnr, htn, hda, hop, hdr, hqu, hai, hid, hac, hlk, hla, hwt, hks, hkm, hkh, hbg, hbd, hbo, hbl, hbb, hst, ⟨eqR_up hpw.1, bits_up hpw.2 (Or.inr rfl)⟩, hxb, hxk, hxr, hxs, hxf, hxl, hxc, hxi, hxp, hsu, hmo, hsb, hlo, hlb, hlf, hlh, hld, hsg, hlr, hcl, hhl⟩
      · simp (disch := omega) only [f_X9_power_34, f_X9_power_22, f_X9_power, f_X10_power_13, f_X10_power, m_exist, m_beIn, m_hold, e8a, e8b, e4a, e4b, e3a, e3b, r_isEight, r_isKind, r_isHall, r_areCents, r_isBox, r_isIn, r_fails, gq_b_s, gq_l_e, bI_z, Classical.not_not, reduceIte, not_true_eq_false, not_false_eq_true, f01, f02, f03, f00, ite_not, ite_self, and_self, m_atN, m_putN, m_addN, m_swapN, g_inN, g_bb0, g_bb1, g_bbI, nI_clamp, pl4, pl4b, pl8, pl8b, thr_r, thr_s, h1, he, hb, f10, f01b]
        exact out_v rfl rfl ⟨nb, nl, nr, tn, hnb, hnl, hnr, htn, hda, hop, hdr, hqu, hai, hid, hac, hlk, hla, hwt, hks, hkm, hkh, hbg, hbd, hbo, hbl, hbb, hst, ⟨eqR_up hpw.1, bits_up hpw.2 (Or.inr rfl)⟩, hxb, hxk, hxr, hxs, hxf, hxl, hxc, hxi, hxp, hsu, hmo, hsb, hlo, hlb, hlf, hlh, hld, hsg, hlr, hcl, hhl⟩
  · simp (disch := omega) only [f_X9_power_34, f_X9_power_22, f_X9_power, f_X10_power_13, f_X10_power, m_exist, m_beIn, m_hold, e8a, e8b, e4a, e4b, e3a, e3b, r_isEight, r_isKind, r_isHall, r_areCents, r_isBox, r_isIn, r_fails, gq_b_s, gq_l_e, bI_z, Classical.not_not, reduceIte, not_true_eq_false, not_false_eq_true, f01, f02, f03, f00, ite_not, ite_self, and_self, h1]
    exact out_t H rfl
theorem cb_power {N : Nat} {a1 a2 v : Int32} {C C2 : gq_M} {e : Nat} (h : f_X9_power N a1 a2 C = some (e, v, C2)) : bit v := by
  revert h
  simp only [f_X9_power_34, f_X9_power_22, f_X9_power, m_exist, gq_b]
  repeat' split
  all_goals intro h; simp_all [bit, gq_g, gq_bb]
  all_goals grind
set_option maxHeartbeats 1000000 in
theorem c_line {N : Nat} {a1 a2 : Int32} {C R : gq_M} (H : INV C R) (hq : bit a2) : OUT kA (f_X9_line N a1 a2 C) (f_X10_line N a1 a2 R) := by
  by_cases h1 : vp_in a1 8
  · skip
    obtain ⟨i, hi, rfl⟩ := vp_in_of h1 (by omega)
    obtain ⟨nb, nl, nr, tn, hnb, hnl, hnr, htn, hda, hop, hdr, hqu, hai, hid, hac, hlk, hla, hwt, hks, hkm, hkh, hbg, hbd, hbo, hbl, hbb, hst, hpw, hxb, hxk, hxr, hxs, hxf, hxl, hxc, hxi, hxp, hsu, hmo, hsb, hlo, hlb, hlf, hlh, hld, hsg, hlr, hcl, hhl⟩ := H
    have hb := hbl.2 i hi
    have he := hbl.1 i hi
    rcases hq with rfl | rfl
    · rcases hb with hb | hb
      · simp (disch := omega) only [f_X9_line_35, f_X9_line_23, f_X9_line, f_X10_line_13, f_X10_line, m_exist, m_beIn, m_hold, e8a, e8b, e4a, e4b, e3a, e3b, r_isEight, r_isKind, r_isHall, r_areCents, r_isBox, r_isIn, r_fails, gq_b_s, gq_l_e, bI_z, Classical.not_not, reduceIte, not_true_eq_false, not_false_eq_true, f01, f02, f03, f00, ite_not, ite_self, and_self, m_atN, m_putN, m_addN, m_swapN, g_inN, g_bb0, g_bb1, g_bbI, nI_clamp, pl4, pl4b, pl8, pl8b, thr_r, thr_s, h1, he, hb, f10, f01b]
        exact out_v rfl rfl ⟨nb, nl, nr, tn, hnb, hnl, hnr, htn, hda, hop, hdr, hqu, hai, hid, hac, hlk, hla, hwt, hks, hkm, hkh, hbg, hbd, hbo, ⟨eqR_up hbl.1, bits_up hbl.2 (Or.inl rfl)⟩, hbb, hst, hpw, hxb, hxk, hxr, hxs, hxf, hxl, hxc, hxi, hxp, hsu, hmo, hsb, hlo, hlb, hlf, hlh, hld, hsg, hlr, hcl, hhl⟩
      · simp (disch := omega) only [f_X9_line_35, f_X9_line_23, f_X9_line, f_X10_line_13, f_X10_line, m_exist, m_beIn, m_hold, e8a, e8b, e4a, e4b, e3a, e3b, r_isEight, r_isKind, r_isHall, r_areCents, r_isBox, r_isIn, r_fails, gq_b_s, gq_l_e, bI_z, Classical.not_not, reduceIte, not_true_eq_false, not_false_eq_true, f01, f02, f03, f00, ite_not, ite_self, and_self, m_atN, m_putN, m_addN, m_swapN, g_inN, g_bb0, g_bb1, g_bbI, nI_clamp, pl4, pl4b, pl8, pl8b, thr_r, thr_s, h1, he, hb, f10, f01b]
        exact out_v rfl rfl ⟨nb, nl, nr, tn, hnb, hnl, hnr, htn, hda, hop, hdr, hqu, hai, hid, hac, hlk, hla, hwt, hks, hkm, hkh, hbg, hbd, hbo, ⟨eqR_up hbl.1, bits_up hbl.2 (Or.inl rfl)⟩, hbb, hst, hpw, hxb, hxk, hxr, hxs, hxf, hxl, hxc, hxi, hxp, hsu, hmo, hsb, hlo, hlb, hlf, hlh, hld, hsg, hlr, hcl, hhl⟩
    · rcases hb with hb | hb
      · simp (disch := omega) only [f_X9_line_35, f_X9_line_23, f_X9_line, f_X10_line_13, f_X10_line, m_exist, m_beIn, m_hold, e8a, e8b, e4a, e4b, e3a, e3b, r_isEight, r_isKind, r_isHall, r_areCents, r_isBox, r_isIn, r_fails, gq_b_s, gq_l_e, bI_z, Classical.not_not, reduceIte, not_true_eq_false, not_false_eq_true, f01, f02, f03, f00, ite_not, ite_self, and_self, m_atN, m_putN, m_addN, m_swapN, g_inN, g_bb0, g_bb1, g_bbI, nI_clamp, pl4, pl4b, pl8, pl8b, thr_r, thr_s, h1, he, hb, f10, f01b]
        exact out_v rfl rfl ⟨nb, nl, nr, tn, hnb, hnl, hnr, htn, hda, hop, hdr, hqu, hai, hid, hac, hlk, hla, hwt, hks, hkm, hkh, hbg, hbd, hbo, ⟨eqR_up hbl.1, bits_up hbl.2 (Or.inr rfl)⟩, hbb, hst, hpw, hxb, hxk, hxr, hxs, hxf, hxl, hxc, hxi, hxp, hsu, hmo, hsb, hlo, hlb, hlf, hlh, hld, hsg, hlr, hcl, hhl⟩
      · simp (disch := omega) only [f_X9_line_35, f_X9_line_23, f_X9_line, f_X10_line_13, f_X10_line, m_exist, m_beIn, m_hold, e8a, e8b, e4a, e4b, e3a, e3b, r_isEight, r_isKind, r_isHall, r_areCents, r_isBox, r_isIn, r_fails, gq_b_s, gq_l_e, bI_z, Classical.not_not, reduceIte, not_true_eq_false, not_false_eq_true, f01, f02, f03, f00, ite_not, ite_self, and_self, m_atN, m_putN, m_addN, m_swapN, g_inN, g_bb0, g_bb1, g_bbI, nI_clamp, pl4, pl4b, pl8, pl8b, thr_r, thr_s, h1, he, hb, f10, f01b]
        exact out_v rfl rfl ⟨nb, nl, nr, tn, hnb, hnl, hnr, htn, hda, hop, hdr, hqu, hai, hid, hac, hlk, hla, hwt, hks, hkm, hkh, hbg, hbd, hbo, ⟨eqR_up hbl.1, bits_up hbl.2 (Or.inr rfl)⟩, hbb, hst, hpw, hxb, hxk, hxr, hxs, hxf, hxl, hxc, hxi, hxp, hsu, hmo, hsb, hlo, hlb, hlf, hlh, hld, hsg, hlr, hcl, hhl⟩
  · simp (disch := omega) only [f_X9_line_35, f_X9_line_23, f_X9_line, f_X10_line_13, f_X10_line, m_exist, m_beIn, m_hold, e8a, e8b, e4a, e4b, e3a, e3b, r_isEight, r_isKind, r_isHall, r_areCents, r_isBox, r_isIn, r_fails, gq_b_s, gq_l_e, bI_z, Classical.not_not, reduceIte, not_true_eq_false, not_false_eq_true, f01, f02, f03, f00, ite_not, ite_self, and_self, h1]
    exact out_t H rfl
theorem cb_line {N : Nat} {a1 a2 v : Int32} {C C2 : gq_M} {e : Nat} (h : f_X9_line N a1 a2 C = some (e, v, C2)) : bit v := by
  revert h
  simp only [f_X9_line_35, f_X9_line_23, f_X9_line, m_exist, gq_b]
  repeat' split
  all_goals intro h; simp_all [bit, gq_g, gq_bb]
  all_goals grind
theorem c_now {N : Nat} {C R : gq_M} (H : INV C R) : ∃ v C2 R2, f_X9_now N C = some (v, C2) ∧ f_X10_now N R = some (v, R2) ∧ INV C2 R2 := by
  have H2 := inv_thr (w := 0) H
  obtain ⟨nb, nl, nr, tn, hnb, hnl, hnr, htn, hda, hop, hdr, hqu, hai, hid, hac, hlk, hla, hwt, hks, hkm, hkh, hbg, hbd, hbo, hbl, hbb, hst, hpw, hxb, hxk, hxr, hxs, hxf, hxl, hxc, hxi, hxp, hsu, hmo, hsb, hlo, hlb, hlf, hlh, hld, hsg, hlr, hcl, hhl⟩ := H
  have hv : C 0 8 = R 0 0 := htn.1.trans htn.2.1.symm
  have hg : gq_bb (R 0 2) = true := decide_eq_true hop.2
  refine ⟨_, C, thr R 0, rfl, ?_, H2⟩
  rw [hv]; rfl
theorem c_day {N : Nat} {C R : gq_M} (H : INV C R) : ∃ v C2 R2, f_X9_day N C = some (v, C2) ∧ f_X10_day N R = some (v, R2) ∧ INV C2 R2 := by
  have H2 := inv_thr (w := 0) H
  obtain ⟨nb, nl, nr, tn, hnb, hnl, hnr, htn, hda, hop, hdr, hqu, hai, hid, hac, hlk, hla, hwt, hks, hkm, hkh, hbg, hbd, hbo, hbl, hbb, hst, hpw, hxb, hxk, hxr, hxs, hxf, hxl, hxc, hxi, hxp, hsu, hmo, hsb, hlo, hlb, hlf, hlh, hld, hsg, hlr, hcl, hhl⟩ := H
  have hv : C 0 9 = R 0 1 := hda
  have hg : gq_bb (R 0 2) = true := decide_eq_true hop.2
  refine ⟨_, C, thr R 0, rfl, ?_, H2⟩
  rw [hv]; rfl
theorem c_isOpen {N : Nat} {C R : gq_M} (H : INV C R) : ∃ v C2 R2, f_X9_isOpen N C = some (v, C2) ∧ f_X10_isOpen N R = some (v, R2) ∧ INV C2 R2 := by
  have H2 := inv_thr (w := 0) H
  obtain ⟨nb, nl, nr, tn, hnb, hnl, hnr, htn, hda, hop, hdr, hqu, hai, hid, hac, hlk, hla, hwt, hks, hkm, hkh, hbg, hbd, hbo, hbl, hbb, hst, hpw, hxb, hxk, hxr, hxs, hxf, hxl, hxc, hxi, hxp, hsu, hmo, hsb, hlo, hlb, hlf, hlh, hld, hsg, hlr, hcl, hhl⟩ := H
  have hv : C 0 10 = R 0 2 := hop.1
  have hg : gq_bb (R 0 2) = true := decide_eq_true hop.2
  refine ⟨R 0 2, C, thr R 0, ?_, ?_, H2⟩
  · unfold f_X9_isOpen; rw [hv, hg]; rfl
  · unfold f_X10_isOpen; rw [gq_l_e]; show gq_g (gq_bb (R 0 2)) _ = _; rw [hg]; rfl
theorem c_draw {N : Nat} {a1 : Int32} {C R : gq_M} (H : INV C R) : ∃ v C2 R2, f_X9_draw N a1 C = some (v, C2) ∧ f_X10_draw N a1 R = some (v, R2) ∧ INV C2 R2 := by
  obtain ⟨nb, nl, nr, tn, hnb, hnl, hnr, htn, hda, hop, hdr, hqu, hai, hid, hac, hlk, hla, hwt, hks, hkm, hkh, hbg, hbd, hbo, hbl, hbb, hst, hpw, hxb, hxk, hxr, hxs, hxf, hxl, hxc, hxi, hxp, hsu, hmo, hsb, hlo, hlb, hlf, hlh, hld, hsg, hlr, hcl, hhl⟩ := H
  refine ⟨R 0 3, gq_up C 0 11 a1, gq_up (thr R 0) 0 3 a1, ?_, rfl, ?_⟩
  · rw [← hdr]; rfl
  · exact ⟨nb, nl, nr, tn, hnb, hnl, hnr, htn, hda, hop, rfl, hqu, hai, hid, hac, hlk, hla, hwt, hks, hkm, hkh, hbg, hbd, hbo, hbl, hbb, hst, hpw, hxb, hxk, hxr, hxs, hxf, hxl, hxc, hxi, hxp, hsu, hmo, hsb, hlo, hlb, hlf, hlh, hld, hsg, hlr, hcl, hhl⟩
