/-! pure: a clock falls -/
def INVd (nb nl nr tn : Nat) (C R : gq_M) : Prop := CORE nb nl nr tn C R ∧ (∀ j, j < 8 → C 15 j = 0) ∧ K_seg nb nl (C 69) (C 71) (C 73) (R 26) (R 19) ∧ ∀ h, h < 3 → K_hall h nb nl tn C R
theorem offl_oth {nb a : Nat} {lo st st2 : Nat → Int32} (h1 : ∀ b, b ∈ offl nb lo st a → st2 b ≠ 2) (h2 : ∀ b, b ∉ offl nb lo st a → st2 b = st b) {l : Nat} (hl : l < 150) (ha : a < 150) (hn : l ≠ a) : offl nb lo st2 l = offl nb lo st l := by
  unfold offl
  refine List.filter_congr fun b hb => ?_
  by_cases hm : b ∈ offl nb lo st a
  · have hq := (of_decide_eq_true (List.mem_filter.mp hm).2).1
    have : ¬ lo b = nI l := fun h3 => hn ((nI_eq (by omega) (by omega)).mp (h3.symm.trans hq))
    simp [this]
  · rw [h2 b hm]
theorem offl_own {nb a : Nat} {lo st st2 : Nat → Int32} (h1 : ∀ b, b ∈ offl nb lo st a → st2 b ≠ 2) (h2 : ∀ b, b ∉ offl nb lo st a → st2 b = st b) : offl nb lo st2 a = [] := by
  unfold offl
  refine List.filter_eq_nil_iff.mpr fun b hb hq => ?_
  obtain ⟨q1, q2⟩ := of_decide_eq_true hq
  by_cases hm : b ∈ offl nb lo st a
  · exact h1 b hm q2
  · exact hm (List.mem_filter.mpr ⟨hb, decide_eq_true ⟨q1, (h2 b hm) ▸ q2⟩⟩)
theorem seg_w {nb nl a : Nat} {fi be od lo st st2 fi2 : Nat → Int32} (h : K_seg nb nl fi be od lo st) (hb : nl ≤ 150) (ha : a < nl) (h1 : ∀ b, b ∈ offl nb lo st a → st2 b ≠ 2) (h2 : ∀ b, b ∉ offl nb lo st a → st2 b = st b) (hf : fi2 = upd fi a (be a)) : K_seg nb nl fi2 be od lo st2 := by
  intro l hl
  rw [hf]
  by_cases hla2 : l = a
  · subst hla2
    rw [offl_own h1 h2]
    obtain ⟨f, g1, g2, g3, g4⟩ := h l hl
    exact ⟨f + (offl nb lo st l).length, (upd_s _ _ _).trans g2, g2, by simpa using g3, fun i b hi => by simp at hi⟩
  · rw [offl_oth h1 h2 (by omega) (by omega) hla2]
    obtain ⟨f, g1, g2, g3, g4⟩ := h l hl
    exact ⟨f, (upd_n hla2).trans g1, g2, g3, g4⟩
/-- another hall's pieces, while a lot of this hall is withdrawn -/
theorem hall_w {h h2 a nb nl tn : Nat} {C R C2 R2 : gq_M} (k : K_hall h2 nb nl tn C R) (hn : h2 ≠ h) (hh : h < 3) (hh2 : h2 < 3) (hb : nl ≤ 150) (ha : a < nl) (hq : R 31 a = nI h) (h1 : ∀ b, b ∈ offl nb (R 26) (R 19) a → R2 19 b ≠ 2) (h3 : ∀ b, b ∉ offl nb (R 26) (R 19) a → R2 19 b = R 19 b) (f1 : fr (69 :: fwC) C C2) (f2 : fr fwR R R2) : K_hall h2 nb nl tn C2 R2 := by
  refine hall_fr k (congrFun (f1 _ (by decide)) _) (congrFun (f1 _ (by decide)) _) (congrFun (f1 _ (by decide)) _) (congrFun (f1 _ (by decide)) _) (congrFun (f1 _ (by decide)) _) (congrFun (f1 _ (by decide)) _) (congrFun (f2 _ (by decide)) _) (congrFun (f2 _ (by decide)) _) (congrFun (f2 _ (by decide)) _) (congrFun (f2 _ (by decide)) _) (congrFun (f2 _ (by decide)) _) (fun l _ => congrFun (f2 _ (by decide)) l) (fun l _ _ => congrFun (f2 _ (by decide)) l) (fun l hl hd q => ?_) (Nat.le_refl _) (fun j hj => ⟨congrFun (f1 _ (by decide)) _, congrFun (f1 _ (by decide)) _, congrFun (f1 _ (by decide)) _, congrFun (f2 _ (by decide)) _, congrFun (f2 _ (by decide)) _, congrFun (f2 _ (by decide)) _, congrFun (f2 _ (by decide)) _⟩)
  have hlh := (of_decide_eq_true hd).1
  have hla2 : l ≠ a := fun h9 => by
    subst h9
    exact hn ((nI_eq (by omega) (by omega)).mp (hlh.symm.trans hq))
  rw [f2 26 (by decide), offl_oth h1 h3 (by omega) (by omega) hla2]
  exact q
theorem hall_at {h nb nl tn : Nat} {C R : gq_M} (k : K_hall h nb nl tn C R) (hc : R 35 h = 1) : ∃ a p : Nat, a < nl ∧ R 36 h = nI a ∧ R 31 a = nI h ∧ (∀ l, l < nl → R 31 l = nI h → (R 32 l = 0 ↔ a ≤ l)) ∧ R 37 h = nI p ∧ 1 ≤ p ∧ p ≤ 10000 ∧ R 39 h = -1 ∧ K_prs h tn 1 (C 95) (C 97) (C 99) (R 40) (R 41) (R 42) (R 43) := by
  obtain ⟨-, -, -, -, -, -, k7⟩ := k
  rcases k7 with ⟨q1, -⟩ | ⟨a, p, q1, q2, q3, q4, q5, q6, q7, ⟨-, w1, w2⟩ | ⟨w1, -⟩ | ⟨w1, -⟩⟩
  · rw [hc] at q1; exact absurd q1 (by decide)
  · exact ⟨a, p, q1, q2, q3, q4, q5, q6, q7, w1, w2⟩
  · rw [hc] at w1; exact absurd w1 (by decide)
  · rw [hc] at w1; exact absurd w1 (by decide)
theorem any_eq {h tn : Nat} {C R : gq_M} (w : K_prs h tn 1 (C 95) (C 97) (C 99) (R 40) (R 41) (R 42) (R 43)) (h1 : C 0 8 = nI tn) (h2 : R 0 0 = nI tn) : (rg 0 8).any (hdC h (C 0 8) C) = (rg (8 * h) 8).any (newH R) := by
  refine any_sh fun j hj => ?_
  unfold hdC newH
  rw [h1, h2]
  rcases w j hj with ⟨e1, e2, e3⟩ | ⟨t, c, p, e1, e2, e3, e4, e5, e6, e7, e8, e9, e10, e11⟩
  · rw [e1, e2]; simp
  · have e12 : R 43 (8 * h + j) = 0 := by
      rcases e11 with e11 | ⟨-, e11, -⟩
      · exact e11
      · omega
    have m1 : ¬ nI c = -1 := nI_m1 (by omega)
    have m2 : ¬ nI t = -1 := nI_m1 (by omega)
    rw [e1, e4, e6, e12]
    simp [m1, m2]
theorem prs_h {h tn : Nat} {C R : gq_M} (w : K_prs h tn 1 (C 95) (C 97) (C 99) (R 40) (R 41) (R 42) (R 43)) (ht : tn ≤ 100000) (h2 : R 0 0 = nI tn) : K_prs h tn 2 (C 95) (C 97) (C 99) (R 40) (R 41) (R 42) (hrR (8 * h) (8 * h + 8) R 43) := by
  intro j hj
  show K_pr1 tn 2 _ _ _ _ _ _ (if (8 * h ≤ 8 * h + j ∧ 8 * h + j < 8 * h + 8) ∧ newH R (8 * h + j) = true then 1 else R 43 (8 * h + j))
  rcases w j hj with ⟨e1, e2, e3⟩ | ⟨t, c, p, e1, e2, e3, e4, e5, e6, e7, e8, e9, e10, e11⟩
  · refine Or.inl ⟨e1, e2, ?_⟩
    rw [if_neg (fun hh => by have := (of_decide_eq_true hh.2).1; exact this e2)]
    exact e3
  · refine Or.inr ⟨t, c, p, e1, e2, e3, e4, e5, e6, e7, e8, e9, e10, ?_⟩
    by_cases hn : newH R (8 * h + j) = true
    · rw [if_pos ⟨by omega, hn⟩]
      refine Or.inr ⟨rfl, rfl, ?_⟩
      have := (of_decide_eq_true hn).2.2
      rw [h2, e4, nI_ltI (by omega) (by omega)] at this
      omega
    · rw [if_neg (fun hh => hn hh.2)]
      rcases e11 with e11 | ⟨-, e11, -⟩
      · exact Or.inl e11
      · omega

def TOUT (nb nl nr tn : Nat) (R : gq_M) (c r : Option (Int32 × gq_M)) : Prop := ∃ C2 R2, c = some (0, C2) ∧ r = some (0, R2) ∧ INVd nb nl nr tn C2 R2 ∧ R2 0 54 = R 0 54
set_option maxHeartbeats 2000000 in
theorem s_falling {N h nb nl nr tn : Nat} {C R : gq_M} (I : INVd nb nl nr tn C R) (hN : 600 ≤ N) (hh : h < 3) (hc : R 35 h = 1) : TOUT nb nl nr tn R (f_X9_tickFalling N (nI h) C) (f_X10_falls N (nI h) R) := by
  obtain ⟨H, hwt, hsg, hhl⟩ := I
  have H0 := H
  obtain ⟨hnb, hnl, hnr, htn, hda, hop, hdr, hqu, hai, hid, hac, hlk, hla, hks, hkm, hkh, hbg, hbd, hbo, hbl, hbb, hst, hpw, hxb, hxk, hxr, hxs, hxf, hxl, hxc, hxi, hxp, hsu, hmo, hsb, hlo, hlb, hlf, hlh, hld, hlr, hcl⟩ := H0
  have hb150 := hnb.2.2
  have hl150 := hnl.2.2
  have ht5 := htn.2.2
  obtain ⟨a, p, q1, q2, q3, q4, q5, q6, q7, w2, w3⟩ := hall_at (hhl h hh) hc
  obtain ⟨k1, k2, k3, k4, k5, k6, -⟩ := hhl h hh
  have hany := any_eq w3 htn.1 htn.2.1
  by_cases hA : (rg (8 * h) 8).any (newH R) = true
  · have hmx : mx (C 27) (rg 0 8) 0 = mx (R 10) (rg 0 8) 0 := mx_congr fun b hb => hbd.1 b (by have := rg_m.mp hb; omega)
    have hAc : (rg 0 8).any (hdC h (nI tn) C) = true := by rw [← htn.1]; exact hany.trans hA
    have m1 : f_X2_greatestDelay N (gq_up C 78 h 2) = some (mx (R 10) (rg 0 8) 0, gq_up C 78 h 2) := (m_mx (M := gq_up C 78 h 2) hN).trans (by rw [← hmx]; rfl)
    have m2 : f_X10_slowest N (gq_up (hrR (8 * h) (8 * h + 8) R) 35 h 2) = some (mx (R 10) (rg 0 8) 0, gq_up (hrR (8 * h) (8 * h + 8) R) 35 h 2) := r_mx hN
    simp (disch := omega) only [f_X9_tickFalling, f_X10_falls, f_X4_minimumOf, f_X1_kindOf, f_X1_sizeOf, ↓m_exist, ↓m_beIn, ↓m_hold, e8a, e8b, e4a, e4b, e3a, e3b, ↓b_isEight, ↓b_isKind, ↓b_isHall, ↓b_areCents, ↓b_isBox, ↓b_isIn, ↓b_fails, ↓gq_b_s, ↓gq_l_e, ↓b_atN, ↓b_putN, ↓b_addN, ↓b_swapN, ↓g_inN, b_atN, b_putN, b_addN, b_swapN, g_inN, ↓g_bb0, ↓g_bb1, ↓g_bbI, bI_z, Classical.not_not, ↓reduceIte, not_true_eq_false, not_false_eq_true, f01, f02, f03, f00, ite_not, ite_self, and_self, nI_clamp, pl4, pl4b, pl8, pl8b, thr_r, thr_s, m_any hh hN, hAc, bI_z, f10, r_hears hh hN, hA, m1, m2, htn.1, htn.2.1, up_ne, ne_eq, Nat.reduceEqDiff]
    refine ⟨_, _, rfl, rfl, ⟨⟨hnb, hnl, hnr, htn, hda, hop, hdr, hqu, hai, hid, hac, hlk, hla, hks, hkm, hkh, hbg, hbd, hbo, hbl, hbb, hst, hpw, hxb, hxk, hxr, hxs, hxf, hxl, hxc, hxi, hxp, hsu, hmo, hsb, hlo, hlb, hlf, hlh, hld, hlr, hcl⟩, hwt, hsg, fun h2 hh2 => ?_⟩, rfl⟩
    by_cases hhh : h2 = h
    · subst hhh
      refine ⟨(upd_s _ _ _).trans (upd_s _ _ _).symm, k2, k3, k4, k5, k6, Or.inr ⟨a, p, q1, q2, q3, q4, q5, q6, q7, Or.inr (Or.inl ⟨upd_s _ _ _, w2, ?_, prs_h w3 ht5 htn.2.1⟩)⟩⟩
      show upd (C 88) h2 _ h2 = upd (R 38) h2 (hrR (8 * h2) (8 * h2 + 8) R 0 0 + _) h2
      rw [upd_s, upd_s]
      show nI tn + _ = R 0 0 + _
      rw [htn.2.1]
    · exact hall_fr (hhl h2 hh2) (upd_n hhh) rfl rfl rfl rfl (upd_n hhh) (upd_n hhh) rfl rfl rfl (upd_n hhh) (fun _ _ => rfl) (fun _ _ _ => rfl) (fun _ _ _ q => q) (Nat.le_refl _) (fun j hj => ⟨rfl, rfl, rfl, rfl, rfl, rfl, if_neg (fun hx => by omega)⟩)
  · have hAc : ¬ (rg 0 8).any (hdC h (nI tn) C) = true := by rw [← htn.1, hany]; exact hA
    have hid2 : hrR (8 * h) (8 * h + 8) R = R := hr_id fun j h1 h2 => Bool.eq_false_iff.mpr fun h3 => hA (List.any_eq_true.mpr ⟨j, rg_m.mpr ⟨h1, h2⟩, h3⟩)
    obtain ⟨s, hs1, hs2, hs⟩ := hst.2 h hh
    have hsC : C 90 h = nI s := (hst.1 h hh).trans hs
    obtain ⟨x, y, z, hx, hy, hz1, hz2, e1, e2, e3, e4⟩ := hlf a q1
    obtain ⟨r1, r2, -⟩ := rk_k hlf q1
    rw [e1] at r1
    rw [e2] at r2
    obtain ⟨m, hm1, hm2, hm⟩ := hkm.2 x hx
    have hmC : C 20 x = nI m := (hkm.1 x hx).trans hm
    have hlotC : C 80 h = nI a := k2.trans q2
    have hpC : C 82 h = nI p := k3.trans q5
    have hW : (nI m * (10 + nI y)) / 10 = nI (m * (10 + y) / 10) := by
      rw [show (10 : Int32) = nI 10 from rfl, nI_add, nI_mul, nI_div (by have : m * (10 + y) ≤ 10000 * 12 := Nat.mul_le_mul hm2 (by omega); omega) (by omega)]
    have hWb : m * (10 + y) / 10 ≤ 12000 := by have : m * (10 + y) ≤ 10000 * 12 := Nat.mul_le_mul hm2 (by omega); omega
    have hW1 : 1 ≤ m * (10 + y) / 10 := by have : 1 * 10 ≤ m * (10 + y) := Nat.mul_le_mul hm1 (by omega); omega
    generalize m * (10 + y) / 10 = wm at hW hWb hW1
    have hV : (nI p - nI s).toInt = p - s := by rw [ti_sub (by rw [nI_toInt (by omega), nI_toInt (by omega)]; omega) (by rw [nI_toInt (by omega), nI_toInt (by omega)]; omega), nI_toInt (by omega), nI_toInt (by omega)]
    have hneg : nI p + -nI s = nI p - nI s := (Int32.sub_eq_add_neg _ _).symm
    by_cases cW : nI wm ≤ nI p - nI s
    · have hsp : wm + s ≤ p := by
        have := Int32.le_iff_toInt_le.mp cW
        rw [hV, nI_toInt (by omega)] at this
        omega
      have hsub : nI p - nI s = nI (p - s) := nI_sub (by omega)
      simp (disch := omega) only [f_X9_tickFalling, f_X10_falls, f_X4_minimumOf, f_X1_kindOf, f_X1_sizeOf, ↓m_exist, ↓m_beIn, ↓m_hold, e8a, e8b, e4a, e4b, e3a, e3b, ↓b_isEight, ↓b_isKind, ↓b_isHall, ↓b_areCents, ↓b_isBox, ↓b_isIn, ↓b_fails, ↓gq_b_s, ↓gq_l_e, ↓b_atN, ↓b_putN, ↓b_addN, ↓b_swapN, ↓g_inN, b_atN, b_putN, b_addN, b_swapN, g_inN, ↓g_bb0, ↓g_bb1, ↓g_bbI, bI_z, Classical.not_not, ↓reduceIte, not_true_eq_false, not_false_eq_true, f01, f02, f03, f00, ite_not, ite_self, and_self, nI_clamp, pl4, pl4b, pl8, pl8b, thr_r, thr_s, m_any hh hN, hAc, Bool.false_eq_true, bI_z, r_hears hh hN, hA, hid2, htn.1, htn.2.1, up_ne, ne_eq, Nat.reduceEqDiff, hsC, hs, hlotC, q2, hpC, q5, r1, r2, e1, e2, hmC, hm, hW, hneg, cW, up_row, upd_s]
      refine ⟨_, _, rfl, rfl, ⟨⟨hnb, hnl, hnr, htn, hda, hop, hdr, hqu, hai, hid, hac, hlk, hla, hks, hkm, hkh, hbg, hbd, hbo, hbl, hbb, hst, hpw, hxb, hxk, hxr, hxs, hxf, hxl, hxc, hxi, hxp, hsu, hmo, hsb, hlo, hlb, hlf, hlh, hld, hlr, hcl⟩, hwt, hsg, fun h2 hh2 => ?_⟩, rfl⟩
      by_cases hhh : h2 = h
      · subst hhh
        exact ⟨k1, k2, (upd_s _ _ _).trans (upd_s _ _ _).symm, k4, k5, k6, Or.inr ⟨a, p - s, q1, q2, q3, q4, (upd_s _ _ _).trans hsub, by omega, by omega, Or.inl ⟨hc, w2, w3⟩⟩⟩
      · exact hall_fr (hhl h2 hh2) rfl rfl (upd_n hhh) rfl rfl rfl rfl rfl (upd_n hhh) rfl rfl (fun _ _ => rfl) (fun _ _ _ => rfl) (fun _ _ _ q => q) (Nat.le_refl _) (fun j hj => ⟨rfl, rfl, rfl, rfl, rfl, rfl, rfl⟩)
    · have H1 : CORE nb nl nr tn (gq_up C 82 h (nI p - nI s)) (gq_up R 37 h (nI p - nI s)) := ⟨hnb, hnl, hnr, htn, hda, hop, hdr, hqu, hai, hid, hac, hlk, hla, hks, hkm, hkh, hbg, hbd, hbo, hbl, hbb, hst, hpw, hxb, hxk, hxr, hxs, hxf, hxl, hxc, hxi, hxp, hsu, hmo, hsb, hlo, hlb, hlf, hlh, hld, hlr, hcl⟩
      obtain ⟨C2, R2, g1, g2, H2, g3, g4, f1, f2, g5⟩ := s_withdrawRest (N := N) (l := a) H1 hN q1 (hsg a q1)
      have g3' : ∀ b, b ∈ offl nb (R 26) (R 19) a → R2 19 b ≠ 2 := g3
      have g4' : ∀ b, b ∉ offl nb (R 26) (R 19) a → R2 19 b = R 19 b := g4
      have hlo2 : R2 26 = R 26 := f2 26 (by decide)
      have hof : ∀ l, l < nl → l ≠ a → offl nb (R2 26) (R2 19) l = offl nb (R 26) (R 19) l := fun l hl hn => by
        rw [hlo2]
        exact offl_oth g3' g4' (by omega) (by omega) hn
      have hi2 : isNd (R2 31) (R2 32) h = isNd (R 31) (R 32) h := by
        rw [f2 31 (by decide), f2 32 (by decide)]
        rfl
      obtain ⟨C3, R3, t1, t2, H3, K3, O3, f3, f4⟩ := s_ends (N := N) (h := h) (a := a) H2 hN hh q1 ((congrFun (f1 80 (by decide)) h).trans hlotC) ((congrFun (f2 36 (by decide)) h).trans q2) ((congrFun (f2 31 (by decide)) a).trans q3) (fun l hl hq => by
          have e5 : R2 32 l = R 32 l := congrFun (f2 32 (by decide)) l
          have e6 : R2 31 l = R 31 l := congrFun (f2 31 (by decide)) l
          rw [e5]; rw [e6] at hq
          exact q4 l hl hq) (by
          rw [hi2]
          exact (congrFun (f1 86 (by decide)) h).trans k5) (fun l hl hn hd => by
          rw [hof l hl hn]
          rw [hi2] at hd
          exact k6 l hl hd) (by
          have e5 : C2 71 = C 71 := f1 71 (by decide)
          rw [g5, e5, upd_s]
          rfl)
      simp (disch := omega) only [f_X9_tickFalling, f_X10_falls, f_X4_minimumOf, f_X1_kindOf, f_X1_sizeOf, ↓m_exist, ↓m_beIn, ↓m_hold, e8a, e8b, e4a, e4b, e3a, e3b, ↓b_isEight, ↓b_isKind, ↓b_isHall, ↓b_areCents, ↓b_isBox, ↓b_isIn, ↓b_fails, ↓gq_b_s, ↓gq_l_e, ↓b_atN, ↓b_putN, ↓b_addN, ↓b_swapN, ↓g_inN, b_atN, b_putN, b_addN, b_swapN, g_inN, ↓g_bb0, ↓g_bb1, ↓g_bbI, bI_z, Classical.not_not, ↓reduceIte, not_true_eq_false, not_false_eq_true, f01, f02, f03, f00, ite_not, ite_self, and_self, nI_clamp, pl4, pl4b, pl8, pl8b, thr_r, thr_s, m_any hh hN, hAc, Bool.false_eq_true, bI_z, r_hears hh hN, hA, hid2, htn.1, htn.2.1, up_ne, ne_eq, Nat.reduceEqDiff, hsC, hs, hlotC, q2, hpC, q5, r1, r2, e1, e2, hmC, hm, hW, hneg, cW, up_row, upd_s, g1, g2, t1, t2]
      refine ⟨C3, R3, rfl, rfl, ⟨H3, fun j hj => ?_, ?_, fun h2 hh2 => ?_⟩, ?_⟩
      · rw [f3 15 (by decide), f1 15 (by decide)]
        exact hwt j hj
      · rw [f3 69 (by decide), f3 71 (by decide), f3 73 (by decide), f4 26 (by decide), f4 19 (by decide), f1 71 (by decide), f1 73 (by decide), hlo2]
        exact seg_w hsg (by omega) q1 g3' g4' g5
      · by_cases hhh : h2 = h
        · subst hhh; exact K3
        · refine O3 h2 hh2 hhh ?_
          refine hall_w (h := h) (a := a) (C := gq_up C 82 h (nI p - nI s)) (R := gq_up R 37 h (nI p - nI s)) ?_ hhh hh hh2 (by omega) q1 q3 g3 g4 f1 f2
          exact hall_fr (hhl h2 hh2) rfl rfl (upd_n hhh) rfl rfl rfl rfl rfl (upd_n hhh) rfl rfl (fun _ _ => rfl) (fun _ _ _ => rfl) (fun _ _ _ q => q) (Nat.le_refl _) (fun j hj => ⟨rfl, rfl, rfl, rfl, rfl, rfl, rfl⟩)
      · rw [f4 0 (by decide), f2 0 (by decide)]
        rfl

