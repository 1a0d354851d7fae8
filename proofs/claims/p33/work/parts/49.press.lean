/-! pure: settle, press -/
theorem bm64 {x : Int} (h1 : -9223372036854775808 ≤ x) (h2 : x < 9223372036854775808) : x.bmod (2 ^ 64) = x := by
  rw [Int.bmod_def]
  split
  · rename_i h; simp at h ⊢; omega
  · rename_i h; simp at h ⊢; omega
theorem cmp0 (x : Int64) : (0 ≤ lg_cmp x 0) = (0 ≤ x) := by
  apply propext
  unfold lg_cmp
  by_cases h3 : 0 < x
  · have h2 : 0 ≤ x := Int64.le_of_lt h3
    simp [h3, h2]
  · by_cases h4 : x = 0
    · subst h4; simp
    · have h2 : ¬ 0 ≤ x := fun h5 => h4 (Int64.le_antisymm (Int64.not_lt.mp h3) h5)
      simp [h3, h4, h2]
theorem settle_eq {A c : Int32} (h1 : -150000000 ≤ A.toInt) (h2 : A.toInt ≤ 150000000) (h3 : 0 ≤ c.toInt) (h4 : c.toInt ≤ 10000000) : ((A - ((if 0 < A then A else 0) * 3) / 100) - c).toInt64 = (A.toInt64 - (if 0 ≤ A.toInt64 then (A.toInt64 * 3) / 100 else 0)) - c.toInt64 := by
  have z0 : (0 : Int32).toInt = 0 := rfl
  have z3 : (3 : Int32).toInt = 3 := rfl
  have z1 : (100 : Int32).toInt = 100 := rfl
  have y0 : (0 : Int64).toInt = 0 := rfl
  have y3 : (3 : Int64).toInt = 3 := rfl
  have y1 : (100 : Int64).toInt = 100 := rfl
  have hA : A.toInt64.toInt = A.toInt := Int32.toInt_toInt64 _
  have hc : c.toInt64.toInt = c.toInt := Int32.toInt_toInt64 _
  generalize ha : A.toInt = a at *
  generalize hcc : c.toInt = cc at *
  -- the dues
  have d1 : ∃ d : Int, 0 ≤ d ∧ d ≤ 4500000 ∧ (((if 0 < A then A else 0) * 3) / 100).toInt = d ∧ (if 0 ≤ A.toInt64 then (A.toInt64 * 3) / 100 else 0).toInt = d := by
    by_cases hp : 0 ≤ a
    · have e1 : (if 0 < A then A else 0).toInt = a := by
        by_cases hq : 0 < A
        · rw [if_pos hq, ha]
        · rw [if_neg hq]
          have := Int32.le_iff_toInt_le.mp (Int32.not_lt.mp hq)
          rw [ha, z0] at this
          rw [z0]; omega
      generalize (if 0 < A then A else 0) = B at e1
      have e2 : (B * 3).toInt = a * 3 := by rw [ti_mul (by rw [e1, z3]; omega) (by rw [e1, z3]; omega), e1, z3]
      have e3 : (0 : Int64) ≤ A.toInt64 := by rw [Int64.le_iff_toInt_le, hA, y0]; exact hp
      have e4 : (A.toInt64 * 3).toInt = a * 3 := by rw [Int64.toInt_mul, hA, y3, bm64 (by omega) (by omega)]
      have e5 : (a * 3).tdiv 100 = a * 3 / 100 := Int.tdiv_eq_ediv_of_nonneg (by omega)
      refine ⟨a * 3 / 100, by omega, by omega, ?_, ?_⟩
      · rw [Int32.toInt_div, e2, z1, e5, bm_id (by omega) (by omega)]
      · rw [if_pos e3, Int64.toInt_div, e4, y1, e5, bm64 (by omega) (by omega)]
    · have e1 : ¬ 0 < A := by rw [Int32.lt_iff_toInt_lt, ha, z0]; omega
      have e3 : ¬ (0 : Int64) ≤ A.toInt64 := by rw [Int64.le_iff_toInt_le, hA, y0]; omega
      rw [if_neg e1, if_neg e3]
      exact ⟨0, by omega, by omega, by decide, rfl⟩
  obtain ⟨d, d2, d3, d4, d5⟩ := d1
  generalize (((if 0 < A then A else 0) * 3) / 100) = D at d4
  generalize (if 0 ≤ A.toInt64 then (A.toInt64 * 3) / 100 else 0) = E at d5
  apply Int64.toInt_inj.mp
  have f1 : (A - D).toInt = a - d := by rw [ti_sub (by rw [ha, d4]; omega) (by rw [ha, d4]; omega), ha, d4]
  have f2 : (A.toInt64 - E).toInt = a - d := by rw [Int64.toInt_sub, hA, d5, bm64 (by omega) (by omega)]
  rw [Int32.toInt_toInt64, ti_sub (by rw [f1, hcc]; omega) (by rw [f1, hcc]; omega), f1, hcc, Int64.toInt_sub, f2, hc, bm64 (by omega) (by omega)]
theorem prs_new {g tn b dl p : Nat} {x1 x2 x3 x4 x5 x6 x7 : Nat → Int32} (h : K_prs g tn 1 x1 x2 x3 x4 x5 x6 x7) (hz : x7 (8 * g + b) = 0) (ht : tn ≤ 100000) (hd : dl ≤ 9) (hp : 1 ≤ p) (hp2 : p ≤ 10000) : K_prs g tn 1 (upd x1 (8 * g + b) (nI p)) (upd x2 (8 * g + b) (nI tn)) (upd x3 (8 * g + b) (nI (tn + dl))) (upd x4 (8 * g + b) (nI tn)) (upd x5 (8 * g + b) (nI (tn + dl))) (upd x6 (8 * g + b) (nI p)) x7 := by
  intro j hj
  by_cases hh : j = b
  · subst hh
    rw [upd_s, upd_s, upd_s, upd_s, upd_s, upd_s]
    exact Or.inr ⟨tn, tn + dl, p, rfl, ht, rfl, rfl, by omega, rfl, rfl, hp, hp2, rfl, Or.inl hz⟩
  · rw [upd_n (by omega), upd_n (by omega), upd_n (by omega), upd_n (by omega), upd_n (by omega), upd_n (by omega)]
    exact h j hj

set_option maxHeartbeats 1000000 in
theorem c_settle {N : Nat} {a1 a2 a3 : Int32} {C R : gq_M} (hN : 600 ≤ N) (H : INV C R) : OUT kB (f_X9_settle N a1 a2 a3 C) (f_X10_settle N a1 a2 a3 R) := by
  have H0 := H
  obtain ⟨nb, nl, nr, tn, hnb, hnl, hnr, htn, hda, hop, hdr, hqu, hai, hid, hac, hlk, hla, hwt, hks, hkm, hkh, hbg, hbd, hbo, hbl, hbb, hst, hpw, hxb, hxk, hxr, hxs, hxf, hxl, hxc, hxi, hxp, hsu, hmo, hsb, hlo, hlb, hlf, hlh, hld, hsg, hlr, hcl, hhl⟩ := H0
  have hb150 := hnb.2.2
  have hl150 := hnl.2.2
  have hr20 := hnr.2.2
  have ht5 := htn.2.2
  by_cases h1 : vp_in a1 8
  · skip
    by_cases h2 : 0 ≤ a2 ∧ a2 ≤ 10000000
    · skip
      by_cases h3 : 0 ≤ a3 ∧ a3 ≤ 100
      · skip
        obtain ⟨i, hi, rfl⟩ := vp_in_of h1 (by omega)
        have hA := hmo i hi
        have g1 := cnt_rg 0 nb fun b => isSd (R 19 b)
        have g2 := cnt_rg 0 nb fun b => decide (R 25 b = 1)
        obtain ⟨c, hc, rfl⟩ := in_lit (n := 10000000) (by omega) h2
        have t1 : (nI c).toInt = c := nI_toInt (by omega)
        have hS := settle_eq (A := R 5 i) (c := nI c) (by omega) (by omega) (by omega) (by omega)
        have hm : K_mon nb (upd (R 5) i 0) (R 19) (R 25) := by
          intro j hj
          by_cases hji : j = i
          · subst hji
            rw [upd_s]
            have z0 : (0 : Int32).toInt = 0 := rfl
            omega
          · rw [upd_n hji]; exact hmo j hj
        simp (disch := omega) only [f_X9_settle, f_X10_settle_124, f_X10_settle_90, f_X10_settle_50, f_X10_settle_26, f_X10_settle_25, f_X10_settle, ↓m_exist, ↓m_beIn, ↓m_hold, e8a, e8b, e4a, e4b, e3a, e3b, ↓b_isEight, ↓b_isKind, ↓b_isHall, ↓b_areCents, ↓b_isBox, ↓b_isIn, ↓b_fails, ↓gq_b_s, ↓gq_l_e, ↓b_atN, ↓b_putN, ↓b_addN, ↓b_swapN, ↓g_inN, b_atN, b_putN, b_addN, b_swapN, g_inN, ↓g_bb0, ↓g_bb1, ↓g_bbI, bI_z, Classical.not_not, ↓reduceIte, not_true_eq_false, not_false_eq_true, f01, f02, f03, f00, ite_not, ite_self, and_self, nI_clamp, pl4, pl4b, pl8, pl8b, thr_r, thr_s, h1, h2, h3, hac i hi, cmp0]
        rw [hS]
        by_cases k1 : 0 ≤ (R 5 i).toInt64
        · simp only [if_pos k1]
          generalize ((R 5 i).toInt64 - (R 5 i).toInt64 * 3 / 100 - (nI c).toInt64) = Z
          by_cases k2 : 0 ≤ Z
          · rw [if_pos k2, if_neg (Int64.not_lt.mpr k2)]
            exact out_v rfl rfl ⟨nb, nl, nr, tn, hnb, hnl, hnr, htn, hda, hop, hdr, hqu, hai, hid, (eqR_up hac), hlk, hla, hwt, hks, hkm, hkh, hbg, hbd, hbo, hbl, hbb, hst, hpw, hxb, hxk, hxr, hxs, hxf, hxl, hxc, hxi, hxp, hsu, hm, hsb, hlo, hlb, hlf, hlh, hld, hsg, hlr, hcl, hhl⟩
          · rw [if_neg k2, if_pos (Int64.not_le.mp k2)]
            refine out_v rfl ?_ ⟨nb, nl, nr, tn, hnb, hnl, hnr, htn, hda, hop, hdr, hqu, hai, hid, (eqR_up hac), hlk, hla, hwt, hks, hkm, hkh, hbg, hbd, hbo, hbl, hbb, hst, hpw, hxb, hxk, hxr, hxs, hxf, hxl, hxc, hxi, hxp, hsu, hm, hsb, hlo, hlb, hlf, hlh, hld, hsg, hlr, hcl, hhl⟩
            rw [Int64.zero_mul]; decide
        · simp only [if_neg k1]
          generalize ((R 5 i).toInt64 - 0 - (nI c).toInt64) = Z
          by_cases k2 : 0 ≤ Z
          · rw [if_pos k2, if_neg (Int64.not_lt.mpr k2)]
            exact out_v rfl rfl ⟨nb, nl, nr, tn, hnb, hnl, hnr, htn, hda, hop, hdr, hqu, hai, hid, (eqR_up hac), hlk, hla, hwt, hks, hkm, hkh, hbg, hbd, hbo, hbl, hbb, hst, hpw, hxb, hxk, hxr, hxs, hxf, hxl, hxc, hxi, hxp, hsu, hm, hsb, hlo, hlb, hlf, hlh, hld, hsg, hlr, hcl, hhl⟩
          · rw [if_neg k2, if_pos (Int64.not_le.mp k2)]
            refine out_v rfl ?_ ⟨nb, nl, nr, tn, hnb, hnl, hnr, htn, hda, hop, hdr, hqu, hai, hid, (eqR_up hac), hlk, hla, hwt, hks, hkm, hkh, hbg, hbd, hbo, hbl, hbb, hst, hpw, hxb, hxk, hxr, hxs, hxf, hxl, hxc, hxi, hxp, hsu, hm, hsb, hlo, hlb, hlf, hlh, hld, hsg, hlr, hcl, hhl⟩
            rw [Int64.zero_mul]; decide
      · simp (disch := omega) only [f_X9_settle, f_X10_settle_124, f_X10_settle_90, f_X10_settle_50, f_X10_settle_26, f_X10_settle_25, f_X10_settle, ↓m_exist, ↓m_beIn, ↓m_hold, e8a, e8b, e4a, e4b, e3a, e3b, ↓b_isEight, ↓b_isKind, ↓b_isHall, ↓b_areCents, ↓b_isBox, ↓b_isIn, ↓b_fails, ↓gq_b_s, ↓gq_l_e, ↓b_atN, ↓b_putN, ↓b_addN, ↓b_swapN, ↓g_inN, b_atN, b_putN, b_addN, b_swapN, g_inN, ↓g_bb0, ↓g_bb1, ↓g_bbI, bI_z, Classical.not_not, ↓reduceIte, not_true_eq_false, not_false_eq_true, f01, f02, f03, f00, ite_not, ite_self, and_self, nI_clamp, pl4, pl4b, pl8, pl8b, thr_r, thr_s, h1, h2, h3]
        exact out_t H rfl
    · simp (disch := omega) only [f_X9_settle, f_X10_settle_124, f_X10_settle_90, f_X10_settle_50, f_X10_settle_26, f_X10_settle_25, f_X10_settle, ↓m_exist, ↓m_beIn, ↓m_hold, e8a, e8b, e4a, e4b, e3a, e3b, ↓b_isEight, ↓b_isKind, ↓b_isHall, ↓b_areCents, ↓b_isBox, ↓b_isIn, ↓b_fails, ↓gq_b_s, ↓gq_l_e, ↓b_atN, ↓b_putN, ↓b_addN, ↓b_swapN, ↓g_inN, b_atN, b_putN, b_addN, b_swapN, g_inN, ↓g_bb0, ↓g_bb1, ↓g_bbI, bI_z, Classical.not_not, ↓reduceIte, not_true_eq_false, not_false_eq_true, f01, f02, f03, f00, ite_not, ite_self, and_self, nI_clamp, pl4, pl4b, pl8, pl8b, thr_r, thr_s, h1, h2]
      exact out_t H rfl
  · simp (disch := omega) only [f_X9_settle, f_X10_settle_124, f_X10_settle_90, f_X10_settle_50, f_X10_settle_26, f_X10_settle_25, f_X10_settle, ↓m_exist, ↓m_beIn, ↓m_hold, e8a, e8b, e4a, e4b, e3a, e3b, ↓b_isEight, ↓b_isKind, ↓b_isHall, ↓b_areCents, ↓b_isBox, ↓b_isIn, ↓b_fails, ↓gq_b_s, ↓gq_l_e, ↓b_atN, ↓b_putN, ↓b_addN, ↓b_swapN, ↓g_inN, b_atN, b_putN, b_addN, b_swapN, g_inN, ↓g_bb0, ↓g_bb1, ↓g_bbI, bI_z, Classical.not_not, ↓reduceIte, not_true_eq_false, not_false_eq_true, f01, f02, f03, f00, ite_not, ite_self, and_self, nI_clamp, pl4, pl4b, pl8, pl8b, thr_r, thr_s, h1]
    exact out_t H rfl
set_option maxHeartbeats 1000000 in
theorem c_press {N : Nat} {a1 a2 : Int32} {C R : gq_M} (hN : 600 ≤ N) (H : INV C R) : OUT kE (f_X9_press N a1 a2 C) (f_X10_press N a1 a2 R) := by
  have H0 := H
  obtain ⟨nb, nl, nr, tn, hnb, hnl, hnr, htn, hda, hop, hdr, hqu, hai, hid, hac, hlk, hla, hwt, hks, hkm, hkh, hbg, hbd, hbo, hbl, hbb, hst, hpw, hxb, hxk, hxr, hxs, hxf, hxl, hxc, hxi, hxp, hsu, hmo, hsb, hlo, hlb, hlf, hlh, hld, hsg, hlr, hcl, hhl⟩ := H0
  have hb150 := hnb.2.2
  have hl150 := hnl.2.2
  have hr20 := hnr.2.2
  have ht5 := htn.2.2
  by_cases h1 : vp_in a1 8
  · skip
    by_cases h2 : vp_in a2 3
    · skip
      obtain ⟨b, hb, rfl⟩ := vp_in_of h1 (by omega)
      obtain ⟨g, hg, rfl⟩ := vp_in_of h2 (by omega)
      have k0 := hhl g hg
      obtain ⟨k1, k2, k3, k4, k5, k6, k7⟩ := k0
      by_cases c1 : R 35 g = 1
      · rcases hpw.2 g hg with c2 | c2
        · skip
          simp (disch := omega) only [f_X9_press_81, f_X9_press_80, f_X9_press_46, f_X9_press_45, f_X9_press, f_X10_press_93, f_X10_press_72, f_X10_press_71, f_X10_press_19, f_X10_press_18, f_X10_press, f_X7_isMade_21, f_X7_isMade, f_X7_placeOf, f_X7_make, ↓m_exist, ↓m_beIn, ↓m_hold, e8a, e8b, e4a, e4b, e3a, e3b, ↓b_isEight, ↓b_isKind, ↓b_isHall, ↓b_areCents, ↓b_isBox, ↓b_isIn, ↓b_fails, ↓gq_b_s, ↓gq_l_e, ↓b_atN, ↓b_putN, ↓b_addN, ↓b_swapN, ↓g_inN, b_atN, b_putN, b_addN, b_swapN, g_inN, ↓g_bb0, ↓g_bb1, ↓g_bbI, bI_z, Classical.not_not, ↓reduceIte, not_true_eq_false, not_false_eq_true, f01, f02, f03, f00, ite_not, ite_self, and_self, nI_clamp, pl4, pl4b, pl8, pl8b, thr_r, thr_s, h1, h2, k1, hpw.1 g hg, hbl.1 b hb, f10, f01b, c1, c2]
          exact out_t H rfl
        · rcases hbl.2 b hb with c3 | c3
          · skip
            simp (disch := omega) only [f_X9_press_81, f_X9_press_80, f_X9_press_46, f_X9_press_45, f_X9_press, f_X10_press_93, f_X10_press_72, f_X10_press_71, f_X10_press_19, f_X10_press_18, f_X10_press, f_X7_isMade_21, f_X7_isMade, f_X7_placeOf, f_X7_make, ↓m_exist, ↓m_beIn, ↓m_hold, e8a, e8b, e4a, e4b, e3a, e3b, ↓b_isEight, ↓b_isKind, ↓b_isHall, ↓b_areCents, ↓b_isBox, ↓b_isIn, ↓b_fails, ↓gq_b_s, ↓gq_l_e, ↓b_atN, ↓b_putN, ↓b_addN, ↓b_swapN, ↓g_inN, b_atN, b_putN, b_addN, b_swapN, g_inN, ↓g_bb0, ↓g_bb1, ↓g_bbI, bI_z, Classical.not_not, ↓reduceIte, not_true_eq_false, not_false_eq_true, f01, f02, f03, f00, ite_not, ite_self, and_self, nI_clamp, pl4, pl4b, pl8, pl8b, thr_r, thr_s, h1, h2, k1, hpw.1 g hg, hbl.1 b hb, f10, f01b, c1, c2, c3]
            exact out_t H rfl
          · have k7b : ∃ a p : Nat, a < nl ∧ R 36 g = nI a ∧ R 31 a = nI g ∧ (∀ l, l < nl → R 31 l = nI g → (R 32 l = 0 ↔ a ≤ l)) ∧ R 37 g = nI p ∧ 1 ≤ p ∧ p ≤ 10000 ∧ R 39 g = -1 ∧ K_prs g tn 1 (C 95) (C 97) (C 99) (R 40) (R 41) (R 42) (R 43) := by
              rcases k7 with ⟨q1, -⟩ | ⟨a, p, q1, q2, q3, q4, q5, q6, q7, ⟨-, w1, w2⟩ | ⟨w1, -⟩ | ⟨w1, -⟩⟩
              · rw [c1] at q1; exact absurd q1 (by decide)
              · exact ⟨a, p, q1, q2, q3, q4, q5, q6, q7, w1, w2⟩
              · rw [c1] at w1; exact absurd w1 (by decide)
              · rw [c1] at w1; exact absurd w1 (by decide)
            obtain ⟨a, p, q1, q2, q3, q4, q5, q6, q7, w1, w2⟩ := k7b
            rcases w2 b hb with ⟨e1, e2, e3⟩ | ⟨t, c, p2, e1, e2, e3, e4, e5, e6, e7, -⟩
            · obtain ⟨dl, -, hdl, e4⟩ := hbd.2 b hb
              have e5 : C 27 b = nI dl := (hbd.1 b hb).trans e4
              have k3b : C 82 g = nI p := k3.trans q5
              simp (disch := omega) only [f_X9_press_81, f_X9_press_80, f_X9_press_46, f_X9_press_45, f_X9_press, f_X10_press_93, f_X10_press_72, f_X10_press_71, f_X10_press_19, f_X10_press_18, f_X10_press, f_X7_isMade_21, f_X7_isMade, f_X7_placeOf, f_X7_make, ↓m_exist, ↓m_beIn, ↓m_hold, e8a, e8b, e4a, e4b, e3a, e3b, ↓b_isEight, ↓b_isKind, ↓b_isHall, ↓b_areCents, ↓b_isBox, ↓b_isIn, ↓b_fails, ↓gq_b_s, ↓gq_l_e, ↓b_atN, ↓b_putN, ↓b_addN, ↓b_swapN, ↓g_inN, b_atN, b_putN, b_addN, b_swapN, g_inN, ↓g_bb0, ↓g_bb1, ↓g_bbI, bI_z, Classical.not_not, ↓reduceIte, not_true_eq_false, not_false_eq_true, f01, f02, f03, f00, ite_not, ite_self, and_self, nI_clamp, pl4, pl4b, pl8, pl8b, thr_r, thr_s, h1, h2, k1, hpw.1 g hg, hbl.1 b hb, c1, c2, c3, e1, e2, e4, e5, k3b, q5, htn.1, htn.2.1, nI_add, up_ne, ne_eq, Nat.reduceEqDiff, f10, f01b]
              refine out_v rfl rfl ⟨nb, nl, nr, tn, hnb, hnl, hnr, htn, hda, hop, hdr, hqu, hai, hid, hac, hlk, hla, hwt, hks, hkm, hkh, hbg, hbd, hbo, hbl, hbb, hst, hpw, hxb, hxk, hxr, hxs, hxf, hxl, hxc, hxi, hxp, hsu, hmo, hsb, hlo, hlb, hlf, hlh, hld, hsg, hlr, hcl, (fun g2 hg2 => ?_)⟩
              by_cases hgg : g2 = g
              · subst hgg
                exact ⟨k1, k2, k3, k4, k5, k6, Or.inr ⟨a, p, q1, q2, q3, q4, q5, q6, q7, Or.inl ⟨c1, w1, prs_new w2 e3 ht5 hdl q6 q7⟩⟩⟩
              · refine hall_fr (hhl g2 hg2) rfl rfl rfl rfl rfl rfl rfl rfl rfl rfl rfl (fun _ _ => rfl) (fun _ _ _ => rfl) (fun _ _ _ h => h) (Nat.le_refl _) (fun j hj => ?_)
                exact ⟨upd_n (by omega), upd_n (by omega), upd_n (by omega), upd_n (by omega), upd_n (by omega), upd_n (by omega), rfl⟩
            · have m1 : (nI c = (-1 : Int32)) = False := eq_false (nI_m1 (by omega))
              have m2 : (nI t = (-1 : Int32)) = False := eq_false (nI_m1 (by omega))
              simp (disch := omega) only [f_X9_press_81, f_X9_press_80, f_X9_press_46, f_X9_press_45, f_X9_press, f_X10_press_93, f_X10_press_72, f_X10_press_71, f_X10_press_19, f_X10_press_18, f_X10_press, f_X7_isMade_21, f_X7_isMade, f_X7_placeOf, f_X7_make, ↓m_exist, ↓m_beIn, ↓m_hold, e8a, e8b, e4a, e4b, e3a, e3b, ↓b_isEight, ↓b_isKind, ↓b_isHall, ↓b_areCents, ↓b_isBox, ↓b_isIn, ↓b_fails, ↓gq_b_s, ↓gq_l_e, ↓b_atN, ↓b_putN, ↓b_addN, ↓b_swapN, ↓g_inN, b_atN, b_putN, b_addN, b_swapN, g_inN, ↓g_bb0, ↓g_bb1, ↓g_bbI, bI_z, Classical.not_not, ↓reduceIte, not_true_eq_false, not_false_eq_true, f01, f02, f03, f00, ite_not, ite_self, and_self, nI_clamp, pl4, pl4b, pl8, pl8b, thr_r, thr_s, h1, h2, k1, hpw.1 g hg, hbl.1 b hb, f10, f01b, c1, c2, c3, e1, e6, m1, m2]
              exact out_t H rfl
      · skip
        simp (disch := omega) only [f_X9_press_81, f_X9_press_80, f_X9_press_46, f_X9_press_45, f_X9_press, f_X10_press_93, f_X10_press_72, f_X10_press_71, f_X10_press_19, f_X10_press_18, f_X10_press, f_X7_isMade_21, f_X7_isMade, f_X7_placeOf, f_X7_make, ↓m_exist, ↓m_beIn, ↓m_hold, e8a, e8b, e4a, e4b, e3a, e3b, ↓b_isEight, ↓b_isKind, ↓b_isHall, ↓b_areCents, ↓b_isBox, ↓b_isIn, ↓b_fails, ↓gq_b_s, ↓gq_l_e, ↓b_atN, ↓b_putN, ↓b_addN, ↓b_swapN, ↓g_inN, b_atN, b_putN, b_addN, b_swapN, g_inN, ↓g_bb0, ↓g_bb1, ↓g_bbI, bI_z, Classical.not_not, ↓reduceIte, not_true_eq_false, not_false_eq_true, f01, f02, f03, f00, ite_not, ite_self, and_self, nI_clamp, pl4, pl4b, pl8, pl8b, thr_r, thr_s, h1, h2, k1, hpw.1 g hg, hbl.1 b hb, f10, f01b, c1]
        exact out_t H rfl
    · simp (disch := omega) only [f_X9_press_81, f_X9_press_80, f_X9_press_46, f_X9_press_45, f_X9_press, f_X10_press_93, f_X10_press_72, f_X10_press_71, f_X10_press_19, f_X10_press_18, f_X10_press, ↓m_exist, ↓m_beIn, ↓m_hold, e8a, e8b, e4a, e4b, e3a, e3b, ↓b_isEight, ↓b_isKind, ↓b_isHall, ↓b_areCents, ↓b_isBox, ↓b_isIn, ↓b_fails, ↓gq_b_s, ↓gq_l_e, ↓b_atN, ↓b_putN, ↓b_addN, ↓b_swapN, ↓g_inN, b_atN, b_putN, b_addN, b_swapN, g_inN, ↓g_bb0, ↓g_bb1, ↓g_bbI, bI_z, Classical.not_not, ↓reduceIte, not_true_eq_false, not_false_eq_true, f01, f02, f03, f00, ite_not, ite_self, and_self, nI_clamp, pl4, pl4b, pl8, pl8b, thr_r, thr_s, h1, h2]
      exact out_t H rfl
  · simp (disch := omega) only [f_X9_press_81, f_X9_press_80, f_X9_press_46, f_X9_press_45, f_X9_press, f_X10_press_93, f_X10_press_72, f_X10_press_71, f_X10_press_19, f_X10_press_18, f_X10_press, ↓m_exist, ↓m_beIn, ↓m_hold, e8a, e8b, e4a, e4b, e3a, e3b, ↓b_isEight, ↓b_isKind, ↓b_isHall, ↓b_areCents, ↓b_isBox, ↓b_isIn, ↓b_fails, ↓gq_b_s, ↓gq_l_e, ↓b_atN, ↓b_putN, ↓b_addN, ↓b_swapN, ↓g_inN, b_atN, b_putN, b_addN, b_swapN, g_inN, ↓g_bb0, ↓g_bb1, ↓g_bbI, bI_z, Classical.not_not, ↓reduceIte, not_true_eq_false, not_false_eq_true, f01, f02, f03, f00, ite_not, ite_self, and_self, nI_clamp, pl4, pl4b, pl8, pl8b, thr_r, thr_s, h1]
    exact out_t H rfl
