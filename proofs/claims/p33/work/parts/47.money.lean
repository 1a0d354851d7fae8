/-! pure: money, halls' frames -/
theorem bm_id {x : Int} (h1 : -2147483648 ≤ x) (h2 : x < 2147483648) : x.bmod (2 ^ 32) = x := by
  rw [Int.bmod_def]
  split
  · rename_i h; simp at h ⊢; omega
  · rename_i h; simp at h ⊢; omega
theorem ti_add {a b : Int32} (h1 : -2147483648 ≤ a.toInt + b.toInt) (h2 : a.toInt + b.toInt < 2147483648) : (a + b).toInt = a.toInt + b.toInt := by rw [Int32.toInt_add, bm_id h1 h2]
theorem ti_sub {a b : Int32} (h1 : -2147483648 ≤ a.toInt - b.toInt) (h2 : a.toInt - b.toInt < 2147483648) : (a - b).toInt = a.toInt - b.toInt := by rw [Int32.toInt_sub, bm_id h1 h2]
theorem ti_mul {a b : Int32} (h1 : -2147483648 ≤ a.toInt * b.toInt) (h2 : a.toInt * b.toInt < 2147483648) : (a * b).toInt = a.toInt * b.toInt := by rw [Int32.toInt_mul, bm_id h1 h2]
theorem mon_upd {nb g s c : Nat} {pu st cl st2 cl2 : Nat → Int32} {d : Int32} (h : K_mon nb pu st cl) (hn : nb ≤ 150) (hs : (cnt (rg 0 nb) fun b => isSd (st b)) + s ≤ cnt (rg 0 nb) fun b => isSd (st2 b)) (hc : (cnt (rg 0 nb) fun b => decide (cl b = 1)) + c ≤ cnt (rg 0 nb) fun b => decide (cl2 b = 1)) (hd : d.toInt ≤ 1000000 * s) (hd2 : -(1000000 * c : Nat) ≤ d.toInt) : K_mon nb (upd pu g (pu g + d)) st2 cl2 := by
  intro j hj
  have a1 := cnt_rg 0 nb fun b => isSd (st2 b)
  have a2 := cnt_rg 0 nb fun b => decide (cl2 b = 1)
  obtain ⟨h1, h2⟩ := h j hj
  by_cases hjg : j = g
  · subst hjg
    rw [upd_s, ti_add (by omega) (by omega)]
    omega
  · rw [upd_n hjg]
    omega
theorem mon_same {nb : Nat} {pu st cl st2 cl2 : Nat → Int32} (h : K_mon nb pu st cl) (hs : (cnt (rg 0 nb) fun b => isSd (st b)) ≤ cnt (rg 0 nb) fun b => isSd (st2 b)) (hc : (cnt (rg 0 nb) fun b => decide (cl b = 1)) ≤ cnt (rg 0 nb) fun b => decide (cl2 b = 1)) : K_mon nb pu st2 cl2 := by
  intro j hj
  obtain ⟨h1, h2⟩ := h j hj
  omega
theorem cnt_upd {nb j : Nat} {f : Nat → Int32} {v : Int32} (p : Int32 → Bool) (hj : j < nb) : (cnt (rg 0 nb) fun b => p (upd f j v b)) + (if p (f j) = true then 1 else 0) = (cnt (rg 0 nb) fun b => p (f b)) + (if p v = true then 1 else 0) := by
  have := cnt_ch (p := fun b => p (f b)) (q := fun b => p (upd f j v b)) (j := j) (fun b hb => by rw [upd_n hb]) nb 0 (Nat.zero_le _) (by omega)
  simp only [upd_s] at this
  omega
theorem prs_fr {h tn tn2 st : Nat} {a b c d e f g a2 b2 c2 d2 e2 f2 g2 : Nat → Int32} (k : K_prs h tn st a b c d e f g) (ht : tn ≤ tn2) (hh : ∀ j, j < 8 → a2 (8 * h + j) = a (8 * h + j) ∧ b2 (8 * h + j) = b (8 * h + j) ∧ c2 (8 * h + j) = c (8 * h + j) ∧ d2 (8 * h + j) = d (8 * h + j) ∧ e2 (8 * h + j) = e (8 * h + j) ∧ f2 (8 * h + j) = f (8 * h + j) ∧ g2 (8 * h + j) = g (8 * h + j)) : K_prs h tn2 st a2 b2 c2 d2 e2 f2 g2 := by
  intro j hj
  obtain ⟨e1, e2, e3, e4, e5, e6, e7⟩ := hh j hj
  rw [e1, e2, e3, e4, e5, e6, e7]
  rcases k j hj with k | ⟨t, c, p, k1, k2, k3, k4, k5, k6, k7, k8, k9, k10, k11⟩
  · exact Or.inl k
  · refine Or.inr ⟨t, c, p, k1, k2, k3, k4, k5, k6, k7, k8, k9, k10, ?_⟩
    rcases k11 with k11 | ⟨k11, k12, k13⟩
    · exact Or.inl k11
    · exact Or.inr ⟨k11, k12, by omega⟩
theorem hall_fr {h nb nb2 nl tn tn2 : Nat} {C R C2 R2 : gq_M} (k : K_hall h nb nl tn C R) (c1 : C2 78 h = C 78 h) (c2 : C2 80 h = C 80 h) (c3 : C2 82 h = C 82 h) (c4 : C2 84 h = C 84 h) (c5 : C2 86 h = C 86 h) (c6 : C2 88 h = C 88 h) (r1 : R2 35 h = R 35 h) (r2 : R2 36 h = R 36 h) (r3 : R2 37 h = R 37 h) (r4 : R2 39 h = R 39 h) (r5 : R2 38 h = R 38 h) (r6 : ∀ l, l < nl → R2 31 l = R 31 l) (r7 : ∀ l, l < nl → R 31 l = nI h → R2 32 l = R 32 l) (r8 : ∀ l, l < nl → isNd (R 31) (R 32) h l = true → offl nb (R 26) (R 19) l ≠ [] → offl nb2 (R2 26) (R2 19) l ≠ []) (ht : tn ≤ tn2) (hp : ∀ j, j < 8 → C2 95 (8 * h + j) = C 95 (8 * h + j) ∧ C2 97 (8 * h + j) = C 97 (8 * h + j) ∧ C2 99 (8 * h + j) = C 99 (8 * h + j) ∧ R2 40 (8 * h + j) = R 40 (8 * h + j) ∧ R2 41 (8 * h + j) = R 41 (8 * h + j) ∧ R2 42 (8 * h + j) = R 42 (8 * h + j) ∧ R2 43 (8 * h + j) = R 43 (8 * h + j)) : K_hall h nb2 nl tn2 C2 R2 := by
  have hn : ∀ l, l < nl → isNd (R2 31) (R2 32) h l = isNd (R 31) (R 32) h l := fun l hl => by
    unfold isNd
    rw [r6 l hl]
    by_cases hh : R 31 l = nI h
    · rw [r7 l hl hh]
    · simp [hh]
  have hcn : cnt (rg 0 nl) (isNd (R2 31) (R2 32) h) = cnt (rg 0 nl) (isNd (R 31) (R 32) h) := cnt_congr fun l hl => hn l (by have := (rg_m.mp hl).2; omega)
  unfold K_hall at k ⊢
  rw [c1, c2, c3, c4, c5, c6, r1, r2, r3, r4, r5, hcn]
  obtain ⟨k1, k2, k3, k4, k5, k6, k7⟩ := k
  refine ⟨k1, k2, k3, k4, k5, fun l hl hd => ?_, ?_⟩
  · rw [hn l hl] at hd
    exact r8 l hl hd (k6 l hl hd)
  · rcases k7 with ⟨q1, q2, q3, q4, q5⟩ | ⟨a, p, q1, q2, q3, q4, q5, q6, q7, q8⟩
    · exact Or.inl ⟨q1, q2, q3, q4, fun l hl => (hn l hl).trans (q5 l hl)⟩
    · refine Or.inr ⟨a, p, q1, q2, (r6 a q1).trans q3, fun l hl hh => ?_, q5, q6, q7, ?_⟩
      · rw [r6 l hl] at hh
        rw [r7 l hl hh]
        exact q4 l hl hh
      · rcases q8 with ⟨w1, w2, w3⟩ | ⟨w1, w2, w3, w4⟩ | ⟨w1, w2, w3⟩
        · exact Or.inl ⟨w1, w2, prs_fr w3 ht hp⟩
        · exact Or.inr (Or.inl ⟨w1, w2, w3, prs_fr w4 ht hp⟩)
        · exact Or.inr (Or.inr ⟨w1, w2, w3⟩)

set_option maxHeartbeats 1000000 in
theorem c_lorry {N : Nat} {a1 a2 a3 : Int32} {C R : gq_M} (hN : 600 ≤ N) (H : INV C R) : OUT kC (f_X9_lorry N a1 a2 a3 C) (f_X10_lorry N a1 a2 a3 R) := by
  have H0 := H
  obtain ⟨nb, nl, nr, tn, hnb, hnl, hnr, htn, hda, hop, hdr, hqu, hai, hid, hac, hlk, hla, hwt, hks, hkm, hkh, hbg, hbd, hbo, hbl, hbb, hst, hpw, hxb, hxk, hxr, hxs, hxf, hxl, hxc, hxi, hxp, hsu, hmo, hsb, hlo, hlb, hlf, hlh, hld, hsg, hlr, hcl, hhl⟩ := H0
  have hb150 := hnb.2.2
  have hl150 := hnl.2.2
  have hr20 := hnr.2.2
  have ht5 := htn.2.2
  have hn : C 0 8 = R 0 0 := htn.1.trans htn.2.1.symm
  have q20 : ((20 : Int32) ≤ nI nr) = ¬ nr < 20 := propext ((nI_leI (a := 20) (by omega) (by omega)).trans (by omega))
  have q20b : (nI nr = (20 : Int32)) = ¬ nr < 20 := propext ((nI_eq (b := 20) (by omega) (by omega)).trans (by omega))
  by_cases h1 : vp_in a1 8
  · skip
    by_cases h2 : R 0 0 + 1 ≤ a2 ∧ a2 ≤ 100000
    · skip
      by_cases h3 : 1 ≤ a3 ∧ a3 ≤ 50
      · skip
        by_cases h4 : nr < 20
        · skip
          simp (disch := omega) only [f_X9_lorry_42, f_X9_lorry, f_X10_lorry_67, f_X10_lorry_30, f_X10_lorry_29, f_X10_lorry, f_X5_add, m_exist, m_beIn, m_hold, e8a, e8b, e4a, e4b, e3a, e3b, r_isEight, r_isKind, r_isHall, r_areCents, r_isBox, r_isIn, r_fails, gq_b_s, gq_l_e, bI_z, Classical.not_not, reduceIte, not_true_eq_false, not_false_eq_true, f01, f02, f03, f00, ite_not, ite_self, and_self, m_atN, m_putN, m_addN, m_swapN, g_inN, g_bb0, g_bb1, g_bbI, nI_clamp, pl4, pl4b, pl8, pl8b, thr_r, thr_s, h1, h2, h3, h4, hn, q20, q20b, hnr.1, hnr.2.1, nI_1, up_ne, ne_eq, Nat.reduceEqDiff, up_row, upd_s, nI_pred]
          exact out_v rfl rfl ⟨nb, nl, (nr + 1), tn, hnb, hnl, ⟨rfl, rfl, by omega⟩, htn, hda, hop, hdr, hqu, hai, hid, hac, hlk, hla, hwt, hks, hkm, hkh, hbg, hbd, hbo, hbl, hbb, hst, hpw, hxb, hxk, hxr, hxs, hxf, hxl, hxc, hxi, hxp, hsu, hmo, hsb, ⟨eqR_push hlo.1, eqR_push hlo.2.1, eqR_push hlo.2.2.1, eqR_push' hlo.2.2.2.1 (hlo.2.2.2.2 nr (Nat.le_refl _) h4), fun j g1 g2 => hlo.2.2.2.2 j (by omega) g2⟩, hlb, hlf, hlh, hld, hsg, hlr, hcl, hhl⟩
        · simp (disch := omega) only [f_X9_lorry_42, f_X9_lorry, f_X10_lorry_67, f_X10_lorry_30, f_X10_lorry_29, f_X10_lorry, m_exist, m_beIn, m_hold, e8a, e8b, e4a, e4b, e3a, e3b, r_isEight, r_isKind, r_isHall, r_areCents, r_isBox, r_isIn, r_fails, gq_b_s, gq_l_e, bI_z, Classical.not_not, reduceIte, not_true_eq_false, not_false_eq_true, f01, f02, f03, f00, ite_not, ite_self, and_self, h1, h2, h3, h4, hn, q20, q20b, hnr.1, hnr.2.1]
          exact out_t H rfl
      · simp (disch := omega) only [f_X9_lorry_42, f_X9_lorry, f_X10_lorry_67, f_X10_lorry_30, f_X10_lorry_29, f_X10_lorry, m_exist, m_beIn, m_hold, e8a, e8b, e4a, e4b, e3a, e3b, r_isEight, r_isKind, r_isHall, r_areCents, r_isBox, r_isIn, r_fails, gq_b_s, gq_l_e, bI_z, Classical.not_not, reduceIte, not_true_eq_false, not_false_eq_true, f01, f02, f03, f00, ite_not, ite_self, and_self, h1, h2, h3, hn, q20, q20b, hnr.1, hnr.2.1]
        exact out_t H rfl
    · simp (disch := omega) only [f_X9_lorry_42, f_X9_lorry, f_X10_lorry_67, f_X10_lorry_30, f_X10_lorry_29, f_X10_lorry, m_exist, m_beIn, m_hold, e8a, e8b, e4a, e4b, e3a, e3b, r_isEight, r_isKind, r_isHall, r_areCents, r_isBox, r_isIn, r_fails, gq_b_s, gq_l_e, bI_z, Classical.not_not, reduceIte, not_true_eq_false, not_false_eq_true, f01, f02, f03, f00, ite_not, ite_self, and_self, h1, h2, hn, q20, q20b, hnr.1, hnr.2.1]
      exact out_t H rfl
  · simp (disch := omega) only [f_X9_lorry_42, f_X9_lorry, f_X10_lorry_67, f_X10_lorry_30, f_X10_lorry_29, f_X10_lorry, m_exist, m_beIn, m_hold, e8a, e8b, e4a, e4b, e3a, e3b, r_isEight, r_isKind, r_isHall, r_areCents, r_isBox, r_isIn, r_fails, gq_b_s, gq_l_e, bI_z, Classical.not_not, reduceIte, not_true_eq_false, not_false_eq_true, f01, f02, f03, f00, ite_not, ite_self, and_self, h1, hn, q20, q20b, hnr.1, hnr.2.1]
    exact out_t H rfl
set_option maxHeartbeats 1000000 in
theorem c_pay {N : Nat} {a1 a2 : Int32} {C R : gq_M} (hN : 600 ≤ N) (H : INV C R) : OUT kB (f_X9_pay N a1 a2 C) (f_X10_pay N a1 a2 R) := by
  have H0 := H
  obtain ⟨nb, nl, nr, tn, hnb, hnl, hnr, htn, hda, hop, hdr, hqu, hai, hid, hac, hlk, hla, hwt, hks, hkm, hkh, hbg, hbd, hbo, hbl, hbb, hst, hpw, hxb, hxk, hxr, hxs, hxf, hxl, hxc, hxi, hxp, hsu, hmo, hsb, hlo, hlb, hlf, hlh, hld, hsg, hlr, hcl, hhl⟩ := H0
  have hb150 := hnb.2.2
  have hl150 := hnl.2.2
  have hr20 := hnr.2.2
  have ht5 := htn.2.2
  by_cases h1 : vp_in a1 8
  · skip
    by_cases h2 : 1 ≤ a2 ∧ a2 ≤ 100000000
    · skip
      obtain ⟨i, hi, rfl⟩ := vp_in_of h1 (by omega)
      have he := hbo i hi
      generalize ho : R 11 i = o at he
      by_cases p1 : o < a2
      · have p2 : ¬ a2 ≤ o := Int32.not_le.mpr p1
        by_cases p3 : 0 < o
        · have p4 : 0 ≤ o := Int32.le_of_lt p3
          simp (disch := omega) only [f_X9_pay, f_X10_pay_62, f_X10_pay_52, f_X10_pay_24, f_X10_pay, m_exist, m_beIn, m_hold, e8a, e8b, e4a, e4b, e3a, e3b, r_isEight, r_isKind, r_isHall, r_areCents, r_isBox, r_isIn, r_fails, gq_b_s, gq_l_e, bI_z, Classical.not_not, reduceIte, not_true_eq_false, not_false_eq_true, f01, f02, f03, f00, ite_not, ite_self, and_self, m_atN, m_putN, m_addN, m_swapN, g_inN, g_bb0, g_bb1, g_bbI, nI_clamp, pl4, pl4b, pl8, pl8b, thr_r, thr_s, h1, h2, he, ho, p1, p2, p3, p4, Int32.sub_eq_add_neg]
          exact out_v rfl rfl ⟨nb, nl, nr, tn, hnb, hnl, hnr, htn, hda, hop, hdr, hqu, hai, hid, hac, hlk, hla, hwt, hks, hkm, hkh, hbg, hbd, (eqR_up hbo), hbl, hbb, hst, hpw, hxb, hxk, hxr, hxs, hxf, hxl, hxc, hxi, hxp, hsu, hmo, hsb, hlo, hlb, hlf, hlh, hld, hsg, hlr, hcl, hhl⟩
        · by_cases p4 : 0 ≤ o
          · have p5 : o = 0 := Int32.le_antisymm (Int32.not_lt.mp p3) p4
            subst p5
            simp (disch := omega) only [f_X9_pay, f_X10_pay_62, f_X10_pay_52, f_X10_pay_24, f_X10_pay, m_exist, m_beIn, m_hold, e8a, e8b, e4a, e4b, e3a, e3b, r_isEight, r_isKind, r_isHall, r_areCents, r_isBox, r_isIn, r_fails, gq_b_s, gq_l_e, bI_z, Classical.not_not, reduceIte, not_true_eq_false, not_false_eq_true, f01, f02, f03, f00, ite_not, ite_self, and_self, m_atN, m_putN, m_addN, m_swapN, g_inN, g_bb0, g_bb1, g_bbI, nI_clamp, pl4, pl4b, pl8, pl8b, thr_r, thr_s, h1, h2, he, ho, p1, p2, p3, p4, Int32.sub_eq_add_neg]
            exact out_v rfl rfl ⟨nb, nl, nr, tn, hnb, hnl, hnr, htn, hda, hop, hdr, hqu, hai, hid, hac, hlk, hla, hwt, hks, hkm, hkh, hbg, hbd, (eqR_up hbo), hbl, hbb, hst, hpw, hxb, hxk, hxr, hxs, hxf, hxl, hxc, hxi, hxp, hsu, hmo, hsb, hlo, hlb, hlf, hlh, hld, hsg, hlr, hcl, hhl⟩
          · simp (disch := omega) only [f_X9_pay, f_X10_pay_62, f_X10_pay_52, f_X10_pay_24, f_X10_pay, m_exist, m_beIn, m_hold, e8a, e8b, e4a, e4b, e3a, e3b, r_isEight, r_isKind, r_isHall, r_areCents, r_isBox, r_isIn, r_fails, gq_b_s, gq_l_e, bI_z, Classical.not_not, reduceIte, not_true_eq_false, not_false_eq_true, f01, f02, f03, f00, ite_not, ite_self, and_self, m_atN, m_putN, m_addN, m_swapN, g_inN, g_bb0, g_bb1, g_bbI, nI_clamp, pl4, pl4b, pl8, pl8b, thr_r, thr_s, h1, h2, he, ho, p1, p2, p3, p4, Int32.sub_eq_add_neg]
            exact out_v rfl rfl ⟨nb, nl, nr, tn, hnb, hnl, hnr, htn, hda, hop, hdr, hqu, hai, hid, hac, hlk, hla, hwt, hks, hkm, hkh, hbg, hbd, (eqR_up hbo), hbl, hbb, hst, hpw, hxb, hxk, hxr, hxs, hxf, hxl, hxc, hxi, hxp, hsu, hmo, hsb, hlo, hlb, hlf, hlh, hld, hsg, hlr, hcl, hhl⟩
      · have p2 : a2 ≤ o := Int32.not_lt.mp p1
        have p3 : 0 < a2 := Int32.lt_of_lt_of_le (by decide) h2.1
        have p4 : 0 ≤ a2 := Int32.le_of_lt p3
        simp (disch := omega) only [f_X9_pay, f_X10_pay_62, f_X10_pay_52, f_X10_pay_24, f_X10_pay, m_exist, m_beIn, m_hold, e8a, e8b, e4a, e4b, e3a, e3b, r_isEight, r_isKind, r_isHall, r_areCents, r_isBox, r_isIn, r_fails, gq_b_s, gq_l_e, bI_z, Classical.not_not, reduceIte, not_true_eq_false, not_false_eq_true, f01, f02, f03, f00, ite_not, ite_self, and_self, m_atN, m_putN, m_addN, m_swapN, g_inN, g_bb0, g_bb1, g_bbI, nI_clamp, pl4, pl4b, pl8, pl8b, thr_r, thr_s, h1, h2, he, ho, p1, p2, p3, p4, Int32.sub_eq_add_neg]
        exact out_v rfl rfl ⟨nb, nl, nr, tn, hnb, hnl, hnr, htn, hda, hop, hdr, hqu, hai, hid, hac, hlk, hla, hwt, hks, hkm, hkh, hbg, hbd, (eqR_up hbo), hbl, hbb, hst, hpw, hxb, hxk, hxr, hxs, hxf, hxl, hxc, hxi, hxp, hsu, hmo, hsb, hlo, hlb, hlf, hlh, hld, hsg, hlr, hcl, hhl⟩
    · simp (disch := omega) only [f_X9_pay, f_X10_pay_62, f_X10_pay_52, f_X10_pay_24, f_X10_pay, m_exist, m_beIn, m_hold, e8a, e8b, e4a, e4b, e3a, e3b, r_isEight, r_isKind, r_isHall, r_areCents, r_isBox, r_isIn, r_fails, gq_b_s, gq_l_e, bI_z, Classical.not_not, reduceIte, not_true_eq_false, not_false_eq_true, f01, f02, f03, f00, ite_not, ite_self, and_self, h1, h2]
      exact out_t H rfl
  · simp (disch := omega) only [f_X9_pay, f_X10_pay_62, f_X10_pay_52, f_X10_pay_24, f_X10_pay, m_exist, m_beIn, m_hold, e8a, e8b, e4a, e4b, e3a, e3b, r_isEight, r_isKind, r_isHall, r_areCents, r_isBox, r_isIn, r_fails, gq_b_s, gq_l_e, bI_z, Classical.not_not, reduceIte, not_true_eq_false, not_false_eq_true, f01, f02, f03, f00, ite_not, ite_self, and_self, h1]
    exact out_t H rfl
