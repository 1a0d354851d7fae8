/-! pure: a clock stands -/
theorem hall_s2 {h nb nl tn : Nat} {C R : gq_M} (k : K_hall h nb nl tn C R) (hc : R 35 h = 2) : ∃ a p : Nat, a < nl ∧ R 36 h = nI a ∧ R 31 a = nI h ∧ (∀ l, l < nl → R 31 l = nI h → (R 32 l = 0 ↔ a ≤ l)) ∧ R 37 h = nI p ∧ 1 ≤ p ∧ p ≤ 10000 ∧ R 39 h = -1 ∧ C 88 h = R 38 h ∧ K_prs h tn 2 (C 95) (C 97) (C 99) (R 40) (R 41) (R 42) (R 43) := by
  obtain ⟨-, -, -, -, -, -, k7⟩ := k
  rcases k7 with ⟨q1, -⟩ | ⟨a, p, q1, q2, q3, q4, q5, q6, q7, ⟨w1, -⟩ | ⟨-, w1, w2, w3⟩ | ⟨w1, -⟩⟩
  · rw [hc] at q1; exact absurd q1 (by decide)
  · rw [hc] at w1; exact absurd w1 (by decide)
  · exact ⟨a, p, q1, q2, q3, q4, q5, q6, q7, w1, w2, w3⟩
  · rw [hc] at w1; exact absurd w1 (by decide)
theorem hr_at {h j : Nat} {R : gq_M} (hj : j < 8) : hrR (8 * h) (8 * h + 8) R 43 (8 * h + j) = if newH R (8 * h + j) = true then 1 else R 43 (8 * h + j) := by
  show (if (8 * h ≤ 8 * h + j ∧ 8 * h + j < 8 * h + 8) ∧ newH R (8 * h + j) = true then 1 else R 43 (8 * h + j)) = _
  by_cases c : newH R (8 * h + j) = true
  · rw [if_pos ⟨by omega, c⟩, if_pos c]
  · rw [if_neg (fun hh => c hh.2), if_neg c]
theorem prs_2 {h tn : Nat} {C R : gq_M} (w : K_prs h tn 2 (C 95) (C 97) (C 99) (R 40) (R 41) (R 42) (R 43)) (ht : tn ≤ 100000) (h2 : R 0 0 = nI tn) : ∀ j, j < 8 → K_pr1 tn 2 (C 95 (8 * h + j)) (C 97 (8 * h + j)) (C 99 (8 * h + j)) (R 40 (8 * h + j)) (R 41 (8 * h + j)) (R 42 (8 * h + j)) (hrR (8 * h) (8 * h + 8) R 43 (8 * h + j)) ∧ PH h tn C (hrR (8 * h) (8 * h + 8) R) j := by
  intro j hj
  unfold PH
  rw [hr_at hj]
  rcases w j hj with ⟨e1, e2, e3⟩ | ⟨t, c, p, e1, e2, e3, e4, e5, e6, e7, e8, e9, e10, e11⟩
  · have hn : ¬ newH R (8 * h + j) = true := fun hz => (of_decide_eq_true hz).1 e2
    rw [if_neg hn]
    exact ⟨Or.inl ⟨e1, e2, e3⟩, Or.inl ⟨e1, e3⟩⟩
  · rcases e11 with e11 | ⟨e11, -, e12⟩
    · by_cases hn : newH R (8 * h + j) = true
      · have h9 := (of_decide_eq_true hn).2.2
        rw [h2, e4, nI_ltI (by omega) (by omega)] at h9
        rw [if_pos hn]
        exact ⟨Or.inr ⟨t, c, p, e1, e2, e3, e4, e5, e6, e7, e8, e9, e10, Or.inr ⟨rfl, rfl, by omega⟩⟩, Or.inr ⟨t, c, p, e1, e2, e3, e6, e5, e7, e8, e9, e10, Or.inl ⟨rfl, by omega⟩⟩⟩
      · have h9 : ¬ c ≤ tn := fun hz => hn (decide_eq_true ⟨by rw [e1]; exact nI_m1 (by omega), e11, by rw [h2, e4]; exact nI_nlt hz (by omega)⟩)
        rw [if_neg hn]
        exact ⟨Or.inr ⟨t, c, p, e1, e2, e3, e4, e5, e6, e7, e8, e9, e10, Or.inl e11⟩, Or.inr ⟨t, c, p, e1, e2, e3, e6, e5, e7, e8, e9, e10, Or.inr ⟨e11, h9⟩⟩⟩
    · have hn : ¬ newH R (8 * h + j) = true := fun hz => by
        have h9 := (of_decide_eq_true hz).2.1
        rw [e11] at h9
        exact absurd h9 (by decide)
      rw [if_neg hn]
      exact ⟨Or.inr ⟨t, c, p, e1, e2, e3, e4, e5, e6, e7, e8, e9, e10, Or.inr ⟨e11, rfl, e12⟩⟩, Or.inr ⟨t, c, p, e1, e2, e3, e6, e5, e7, e8, e9, e10, Or.inl ⟨e11, e12⟩⟩⟩
set_option maxHeartbeats 2000000 in
theorem s_standing {N h nb nl nr tn : Nat} {C R : gq_M} (I : INVd nb nl nr tn C R) (hN : 600 ≤ N) (hh : h < 3) (hc : R 35 h = 2) : TOUT nb nl nr tn R (f_X9_tickStanding N (nI h) C) (f_X10_stands N (nI h) R) := by
  obtain ⟨H, hwt, hsg, hhl⟩ := I
  have H0 := H
  obtain ⟨hnb, hnl, hnr, htn, hda, hop, hdr, hqu, hai, hid, hac, hlk, hla, hks, hkm, hkh, hbg, hbd, hbo, hbl, hbb, hst, hpw, hxb, hxk, hxr, hxs, hxf, hxl, hxc, hxi, hxp, hsu, hmo, hsb, hlo, hlb, hlf, hlh, hld, hlr, hcl⟩ := H0
  have hb150 := hnb.2.2
  have hl150 := hnl.2.2
  have ht5 := htn.2.2
  obtain ⟨a, p, q1, q2, q3, q4, q5, q6, q7, w2, w3, w4⟩ := hall_s2 (hhl h hh) hc
  obtain ⟨k1, k2, k3, k4, k5, k6, -⟩ := hhl h hh
  have hp2 := prs_2 w4 ht5 htn.2.1
  have H1 : CORE nb nl nr tn C (hrR (8 * h) (8 * h + 8) R) := ⟨hnb, hnl, hnr, htn, hda, hop, hdr, hqu, hai, hid, hac, hlk, hla, hks, hkm, hkh, hbg, hbd, hbo, hbl, hbb, hst, hpw, hxb, hxk, hxr, hxs, hxf, hxl, hxc, hxi, hxp, hsu, hmo, hsb, hlo, hlb, hlf, hlh, hld, hlr, hcl⟩
  have hlotC : C 80 h = nI a := k2.trans q2
  unfold f_X9_tickStanding f_X10_stands
  rw [r_hears hh hN, gq_b_s]
  by_cases cU : R 38 h ≤ nI tn
  · have hd0 : R 32 a = 0 := (q4 a q1 q3).mpr (Nat.le_refl _)
    have hne := k6 a q1 (decide_eq_true ⟨q3, hd0⟩)
    obtain ⟨f, g1, g2, g3, g4⟩ := hsg a q1
    cases hL : offl nb (R 26) (R 19) a with
    | nil => exact absurd hL hne
    | cons b0 T =>
      rw [hL] at g2 g3 g4
      rw [List.length_cons] at g2 g3
      have hb0 : b0 < nb := by
        have : b0 ∈ offl nb (R 26) (R 19) a := by rw [hL]; exact List.mem_cons_self
        have := (rg_m.mp (List.mem_filter.mp this).1).2
        omega
      have ho : C 73 f = nI b0 := g4 0 b0 rfl
      have hk0 := hxk.1 b0 hb0
      have hfo : f_X10_firstOf N (nI a) (hrR (8 * h) (8 * h + 8) R) = some (nI b0, hrR (8 * h) (8 * h + 8) R) := by
        rw [r_firstOf (M := hrR (8 * h) (8 * h + 8) R) (nb := nb) hnb.2.1 hb150 hN]
        show some (hd (offl nb (R 26) (R 19) a) (-1), _) = _
        rw [hL]
        rfl
      have hz8 : (8 : Int32) * nI h = nI (8 * h + 0) := pl8z h
      obtain ⟨o2, ho2, e1, e2⟩ := w_loop (N := N) (kk := R 17 b0) H1 hh (fun j hj => (hp2 j hj).2) (fun _ _ _ _ _ => none) 8 0 N N none (by omega) (by omega) (by omega) (fun b hb => by cases hb)
      have e1' : f_X9_findWinner_35 N N (nI h) (R 17 b0) (-1) 0 C = some (enC o2, C) := e1
      have e2' : f_X10_stands_44 N N (nI h) (R 17 b0) (-1) (nI (8 * h + 0)) (hrR (8 * h) (8 * h + 8) R) = _ := e2
      have hfw : f_X9_findWinner N (nI h) C = some (enC o2, C) := by
        unfold f_X9_findWinner f_X6_boxAt
        simp (disch := omega) only [↓b_atN, hlotC, g1, Int32.add_zero, ho, ↓gq_b_s, hk0, e1']
      have he8 : 8 * h + 8 ≤ 8 * h + 8 := Nat.le_refl _
      have hrn : ∀ x, x ≠ 43 → hrR (8 * h) (8 * h + 8) R x = R x := fun x hx => if_neg hx
      simp (disch := omega) only [↓b_atN, w3, htn.1, cU, ↓reduceIte, hfw, ↓gq_b_s, ↓g_inN, ↓gq_l_e, nI_clamp, hrn, ne_eq, Nat.reduceEqDiff, not_false_eq_true, htn.2.1, q2, hfo, g_inN, hz8, e2']
      cases o2 with
      | none =>
        have hb := m_begin1 (N := N) (h := h) (M := C) hh hN (by rw [hlotC]; exact nI_m1 (by omega))
        unfold f_X10_stands_44_b f_X10_stands_142 f_X10_stands_161 f_X10_stands_187
        simp (disch := omega) only [enC, enR, ↓reduceIte, hb, ↓gq_b_s, pl8c, nI_leI, he8, ↓g_inN, ↓gq_l_e, nI_clamp, up_ne, hrn, ne_eq, Nat.reduceEqDiff, not_false_eq_true, r_begins hh hN]
        refine ⟨_, _, rfl, rfl, ⟨⟨hnb, hnl, hnr, htn, hda, hop, hdr, hqu, hai, hid, hac, hlk, hla, hks, hkm, hkh, hbg, hbd, hbo, hbl, hbb, hst, hpw, hxb, hxk, hxr, hxs, hxf, hxl, hxc, hxi, hxp, hsu, hmo, hsb, hlo, hlb, hlf, hlh, hld, hlr, hcl⟩, hwt, hsg, fun h2 hh2 => ?_⟩, rfl⟩
        by_cases hhh : h2 = h
        · subst hhh
          exact ⟨(upd_s _ _ _).trans (upd_s _ _ _).symm, k2, k3.trans (upd_s _ _ _).symm, (upd_s _ _ _).trans (upd_s _ _ _).symm, k5, k6, Or.inr ⟨a, p, q1, q2, q3, q4, (upd_s _ _ _).trans q5, q6, q7, Or.inl ⟨upd_s _ _ _, upd_s _ _ _, prs_empty⟩⟩⟩
        · exact hall_fr (hhl h2 hh2) (upd_n hhh) rfl rfl (upd_n hhh) rfl rfl (upd_n hhh) rfl (upd_n hhh) (upd_n hhh) (upd_n hhh) (fun _ _ => rfl) (fun _ _ _ => rfl) (fun _ _ _ q => q) (Nat.le_refl _) (fun j hj => ⟨rfl, rfl, blk_out (by omega), blk_out (by omega), rfl, rfl, (blk_out (by omega)).trans (if_neg (fun hx => by omega))⟩)
      | some w =>
        obtain ⟨hw8, t, p3, f1, f2, f3, f4, f5, f6, f7⟩ := ho2 w rfl
        have f4' : R 42 (8 * h + w) = nI p3 := f4
        have hnw : ¬ nI w = -1 := nI_m1 (by omega)
        have hnw2 : ¬ nI (8 * h + w) = -1 := nI_m1 (by omega)
        have hm8 := mod8 hh hw8
        unfold f_X10_stands_44_b f_X10_stands_142 f_X10_stands_161 f_X10_stands_187
        simp (disch := omega) only [enC, enR, hnw, hnw2, ↓reduceIte, ↓b_putN, b_price, up_ne, hrn, ne_eq, Nat.reduceEqDiff, not_false_eq_true, f7, f4', htn.1, ↓gq_b_s, pl8c, nI_leI, he8, ↓g_inN, ↓gq_l_e, nI_clamp, hm8, r_begins hh hN]
        refine ⟨_, _, rfl, rfl, ⟨⟨hnb, hnl, hnr, htn, hda, hop, hdr, hqu, hai, hid, hac, hlk, hla, hks, hkm, hkh, hbg, hbd, hbo, hbl, hbb, hst, hpw, hxb, hxk, hxr, hxs, hxf, hxl, hxc, hxi, hxp, hsu, hmo, hsb, hlo, hlb, hlf, hlh, hld, hlr, hcl⟩, hwt, hsg, fun h2 hh2 => ?_⟩, rfl⟩
        by_cases hhh : h2 = h
        · subst hhh
          refine ⟨(upd_s _ _ _).trans (upd_s _ _ _).symm, k2, (upd_s _ _ _).trans (upd_s _ _ _).symm, (upd_s _ _ _).trans (upd_s _ _ _).symm, k5, k6, Or.inr ⟨a, p3, q1, q2, q3, q4, upd_s _ _ _, f5, f6, Or.inr (Or.inr ⟨upd_s _ _ _, ?_, w, Nat.zero_le _, by omega, upd_s _ _ _⟩)⟩⟩
          refine (upd_s _ _ _).trans (Eq.trans ?_ (upd_s _ _ _).symm)
          first | rfl | (show nI tn + 3 = R 0 0 + 3; rw [htn.2.1])
        · exact hall_fr (hhl h2 hh2) (upd_n hhh) rfl (upd_n hhh) (upd_n hhh) rfl (upd_n hhh) (upd_n hhh) rfl (upd_n hhh) (upd_n hhh) (upd_n hhh) (fun _ _ => rfl) (fun _ _ _ => rfl) (fun _ _ _ q => q) (Nat.le_refl _) (fun j hj => ⟨rfl, rfl, rfl, blk_out (by omega), rfl, rfl, (blk_out (by omega)).trans (if_neg (fun hx => by omega))⟩)
  · have hrn : ∀ x, x ≠ 43 → hrR (8 * h) (8 * h + 8) R x = R x := fun x hx => if_neg hx
    simp (disch := omega) only [↓b_atN, w3, htn.1, cU, ↓reduceIte, ↓g_inN, ↓gq_l_e, nI_clamp, hrn, ne_eq, Nat.reduceEqDiff, not_false_eq_true, htn.2.1]
    refine ⟨_, _, rfl, rfl, ⟨H1, hwt, hsg, fun h2 hh2 => ?_⟩, rfl⟩
    by_cases hhh : h2 = h
    · subst hhh
      exact ⟨k1, k2, k3, k4, k5, k6, Or.inr ⟨a, p, q1, q2, q3, q4, q5, q6, q7, Or.inr (Or.inl ⟨hc, w2, w3, fun j hj => (hp2 j hj).1⟩)⟩⟩
    · exact hall_fr (hhl h2 hh2) rfl rfl rfl rfl rfl rfl rfl rfl rfl rfl rfl (fun _ _ => rfl) (fun _ _ _ => rfl) (fun _ _ _ q => q) (Nat.le_refl _) (fun j hj => ⟨rfl, rfl, rfl, rfl, rfl, rfl, if_neg (fun hx => by omega)⟩)

