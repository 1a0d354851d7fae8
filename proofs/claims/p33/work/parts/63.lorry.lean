/-! pure: lorries, ticks, pass -/
theorem K_sb_go {nb b : Nat} {bu st : Nat → Int32} (h : K_sb nb bu st) : K_sb nb bu (upd st b 4) := by
  intro j hj
  by_cases hh : j = b
  · subst hh; exact Or.inr (Or.inr (upd_s _ _ _))
  · rw [upd_n hh]; exact h j hj
theorem r_leave_done {N li nb : Nat} {x : Int32} {R : gq_M} (hM : R 0 16 = nI nb) (hb : nb ≤ 150) (hl : li < 20) (hx : R 46 li ≤ x) : ∀ (k i n9 : Nat), i + k = nb → k < n9 → f_X10_leaves_4 N n9 (nI li) x (nI i) R = some (0, gq_up R 47 li x) := by
  intro k
  induction k with
  | zero =>
    intro i n9 hi h9
    obtain ⟨n9, rfl⟩ : ∃ z, n9 = z + 1 := ⟨n9 - 1, by omega⟩
    have he : nb ≤ i := by omega
    show f_X10_leaves_4_b N (f_X10_leaves_4 N n9) (nI li) x (nI i) R = _
    unfold f_X10_leaves_4_b
    simp (disch := omega) only [hM, nI_leI, he, ↓reduceIte, ↓g_inN, ↓gq_l_e, nI_clamp]
  | succ k ih =>
    intro i n9 hi h9
    obtain ⟨n9, rfl⟩ : ∃ z, n9 = z + 1 := ⟨n9 - 1, by omega⟩
    have he : ¬ nb ≤ i := by omega
    have e := ih (i + 1) n9 (by omega) (by omega)
    show f_X10_leaves_4_b N (f_X10_leaves_4 N n9) (nI li) x (nI i) R = _
    unfold f_X10_leaves_4_b f_X10_leaves_57
    by_cases c1 : R 19 i = 3
    · by_cases c2 : R 21 i = R 44 li
      · simp (disch := omega) only [hM, nI_leI, he, ↓reduceIte, ↓g_inN, ↓gq_l_e, nI_clamp, c1, eq_true c2, hx, nI_1, e]
      · simp (disch := omega) only [hM, nI_leI, he, ↓reduceIte, ↓g_inN, ↓gq_l_e, nI_clamp, c1, eq_false c2, nI_1, e]
    · simp (disch := omega) only [hM, nI_leI, he, ↓reduceIte, ↓g_inN, ↓gq_l_e, nI_clamp, c1, nI_1, e]
set_option maxHeartbeats 1000000 in
theorem s_fetch_l {N li nb nl nr tn : Nat} (hl : li < nr) : ∀ (k i n8 n9 : Nat) (x : Int32) (C R : gq_M), CORE nb nl nr tn C R → i + k = nb → k < n8 → k < n9 → ∃ C2 R2 x2, f_X9_fetch_17 N n8 (nI li) (R 46 li) x (nI i) C = some (0, gq_up C2 108 li x2) ∧ f_X10_leaves_4 N n9 (nI li) x (nI i) R = some (0, gq_up R2 47 li x2) ∧ CORE nb nl nr tn C2 R2 ∧ (∀ b, R2 19 b = 2 ↔ R 19 b = 2) ∧ fr [44, 60] C C2 ∧ fr [19] R R2 := by
  intro k
  induction k with
  | zero =>
    intro i n8 n9 x C R H hi h8 h9
    obtain ⟨n8, rfl⟩ : ∃ z, n8 = z + 1 := ⟨n8 - 1, by omega⟩
    obtain ⟨n9, rfl⟩ : ∃ z, n9 = z + 1 := ⟨n9 - 1, by omega⟩
    have hnb := core_nb H
    have hnr := core_nr H
    have hb := hnb.2.2
    have hr := hnr.2.2
    have he : nb ≤ i := by omega
    refine ⟨C, R, x, ?_, ?_, H, fun _ => Iff.rfl, fr_rf _ _, fr_rf _ _⟩
    · show f_X9_fetch_17_b N (f_X9_fetch_17 N n8) (nI li) (R 46 li) x (nI i) C = _
      unfold f_X9_fetch_17_b f_X9_fetch_95
      simp (disch := omega) only [hnb.1, nI_leI, he, ↓reduceIte, ↓b_putN]
    · show f_X10_leaves_4_b N (f_X10_leaves_4 N n9) (nI li) x (nI i) R = _
      unfold f_X10_leaves_4_b
      simp (disch := omega) only [hnb.2.1, nI_leI, he, ↓reduceIte, ↓g_inN, ↓gq_l_e, nI_clamp]
  | succ k ih =>
    intro i n8 n9 x C R H hi h8 h9
    have hnb := core_nb H
    have hnr := core_nr H
    have hb := hnb.2.2
    have hr := hnr.2.2
    by_cases cx : R 46 li ≤ x
    · refine ⟨C, R, x, ?_, r_leave_done hnb.2.1 hb (by omega) cx (k + 1) i n9 hi h9, H, fun _ => Iff.rfl, fr_rf _ _, fr_rf _ _⟩
      obtain ⟨n8, rfl⟩ : ∃ z, n8 = z + 1 := ⟨n8 - 1, by omega⟩
      have he : ¬ nb ≤ i := by omega
      show f_X9_fetch_17_b N (f_X9_fetch_17 N n8) (nI li) (R 46 li) x (nI i) C = _
      unfold f_X9_fetch_17_b f_X9_fetch_95
      simp (disch := omega) only [hnb.1, nI_leI, he, cx, ↓reduceIte, ↓b_putN]
    · obtain ⟨n8, rfl⟩ : ∃ z, n8 = z + 1 := ⟨n8 - 1, by omega⟩
      obtain ⟨n9, rfl⟩ : ∃ z, n9 = z + 1 := ⟨n9 - 1, by omega⟩
      have he : ¬ nb ≤ i := by omega
      have hib : i < nb := by omega
      have H0 := H
      obtain ⟨hnb, hnl, hnr, htn, hda, hop, hdr, hqu, hai, hid, hac, hlk, hla, hks, hkm, hkh, hbg, hbd, hbo, hbl, hbb, hst, hpw, hxb, hxk, hxr, hxs, hxf, hxl, hxc, hxi, hxp, hsu, hmo, hsb, hlo, hlb, hlf, hlh, hld, hlr, hcl⟩ := H0
      have e1 := hxs.1 i hib
      have e2 := (hxp.1 i hib).1
      have e3 := hlo.1 li hl
      have e4 := hxk.1 i hib
      by_cases c1 : R 19 i = 3
      · by_cases c2 : R 21 i = R 44 li
        · have H1 : CORE nb nl nr tn (gq_up (gq_up (gq_up C 60 1 (C 60 1 + -R 17 i)) 60 1 (upd (C 60) 1 (C 60 1 + -R 17 i) 1 + R 17 i)) 44 i 4) (gq_up R 19 i 4) := ⟨hnb, hnl, hnr, htn, hda, hop, hdr, hqu, hai, hid, hac, hlk, hla, hks, hkm, hkh, hbg, hbd, hbo, hbl, hbb, hst, hpw, hxb, hxk, hxr, ⟨eqR_up hxs.1, rngs_up hxs.2 ⟨4, by omega, by omega, rfl⟩⟩, hxf, hxl, hxc, hxi, hxp, (K_sum_mv (u := 1) (w := 1) hsu hib (by rw [c1]; rfl) rfl), (mon_same hmo (cnt_isd hib c1 rfl) (Nat.le_refl _)), (K_sb_go hsb), hlo, hlb, hlf, hlh, hld, hlr, hcl⟩
          obtain ⟨C2, R2, x2, t1, t2, H2, t3, f1, f2⟩ := ih (i + 1) n8 n9 (x + 1) _ _ H1 (by omega) (by omega) (by omega)
          refine ⟨C2, R2, x2, ?_, ?_, H2, fun b => ?_, fr_tr (fr_up (fr_up (fr_up (fr_rf _ _) (by decide)) (by decide)) (by decide)) f1, fr_tr (fr_up (fr_rf _ _) (by decide)) f2⟩
          · show f_X9_fetch_17_b N (f_X9_fetch_17 N n8) (nI li) (R 46 li) x (nI i) C = _
            unfold f_X9_fetch_17_b f_X9_fetch_95 f_X9_fetch_89 f_X1_move
            simp (disch := omega) only [hnb.1, nI_leI, he, cx, ↓reduceIte, ↓b_atN, ↓b_putN, ↓b_addN, e1, e2, e3, e4, c1, eq_true c2, b_sumOf3, b_sumOf4, ↓gq_b_s, up_ne, ne_eq, Nat.reduceEqDiff, not_false_eq_true, up_row, nI_1]
            exact t1
          · show f_X10_leaves_4_b N (f_X10_leaves_4 N n9) (nI li) x (nI i) R = _
            unfold f_X10_leaves_4_b f_X10_leaves_57
            simp (disch := omega) only [hnb.2.1, nI_leI, he, cx, ↓reduceIte, ↓g_inN, ↓gq_l_e, nI_clamp, c1, eq_true c2, nI_1]
            exact t2
          · rw [t3 b]
            show upd (R 19) i 4 b = 2 ↔ _
            by_cases hbi : b = i
            · subst hbi; rw [upd_s, c1]; decide
            · rw [upd_n hbi]
        · obtain ⟨C2, R2, x2, t1, t2, H2, t3, f1, f2⟩ := ih (i + 1) n8 n9 x C R H (by omega) (by omega) (by omega)
          refine ⟨C2, R2, x2, ?_, ?_, H2, t3, f1, f2⟩
          · show f_X9_fetch_17_b N (f_X9_fetch_17 N n8) (nI li) (R 46 li) x (nI i) C = _
            unfold f_X9_fetch_17_b f_X9_fetch_95 f_X9_fetch_89
            simp (disch := omega) only [hnb.1, nI_leI, he, cx, ↓reduceIte, ↓b_atN, e1, e2, e3, c1, eq_false c2, nI_1]
            exact t1
          · show f_X10_leaves_4_b N (f_X10_leaves_4 N n9) (nI li) x (nI i) R = _
            unfold f_X10_leaves_4_b f_X10_leaves_57
            simp (disch := omega) only [hnb.2.1, nI_leI, he, cx, ↓reduceIte, ↓g_inN, ↓gq_l_e, nI_clamp, c1, eq_false c2, nI_1]
            exact t2
      · obtain ⟨C2, R2, x2, t1, t2, H2, t3, f1, f2⟩ := ih (i + 1) n8 n9 x C R H (by omega) (by omega) (by omega)
        refine ⟨C2, R2, x2, ?_, ?_, H2, t3, f1, f2⟩
        · show f_X9_fetch_17_b N (f_X9_fetch_17 N n8) (nI li) (R 46 li) x (nI i) C = _
          unfold f_X9_fetch_17_b f_X9_fetch_95 f_X9_fetch_89
          simp (disch := omega) only [hnb.1, nI_leI, he, cx, ↓reduceIte, ↓b_atN, e1, c1, nI_1]
          exact t1
        · show f_X10_leaves_4_b N (f_X10_leaves_4 N n9) (nI li) x (nI i) R = _
          unfold f_X10_leaves_4_b f_X10_leaves_57
          simp (disch := omega) only [hnb.2.1, nI_leI, he, cx, ↓reduceIte, ↓g_inN, ↓gq_l_e, nI_clamp, c1, nI_1]
          exact t2
theorem offl_same {nb l : Nat} {lo st st2 : Nat → Int32} (h : ∀ b, st2 b = 2 ↔ st b = 2) : offl nb lo st2 l = offl nb lo st l := by
  unfold offl
  refine List.filter_congr fun b _ => ?_
  by_cases c : st b = 2
  · simp [c, (h b).mpr c]
  · have h9 : ¬ st2 b = 2 := fun hz => c ((h b).mp hz)
    simp [c, h9]
theorem s_fetch {N li nb nl nr tn : Nat} {C R : gq_M} (I : INVd nb nl nr tn C R) (hN : 600 ≤ N) (hl : li < nr) : TOUT nb nl nr tn R (f_X9_fetch N (nI li) C) (f_X10_leaves N (nI li) R) := by
  obtain ⟨H, hwt, hsg, hhl⟩ := I
  have hnb := core_nb H
  have hnr := core_nr H
  have hb := hnb.2.2
  have hr := hnr.2.2
  have hm : C 106 li = R 46 li := by
    obtain ⟨-, hnl, -, htn, hda, hop, hdr, hqu, hai, hid, hac, hlk, hla, hks, hkm, hkh, hbg, hbd, hbo, hbl, hbb, hst, hpw, hxb, hxk, hxr, hxs, hxf, hxl, hxc, hxi, hxp, hsu, hmo, hsb, hlo, hlb, hlf, hlh, hld, hlr, hcl⟩ := H
    exact hlo.2.2.1 li hl
  obtain ⟨C2, R2, x2, t1, t2, H2, t3, f1, f2⟩ := s_fetch_l (N := N) hl nb 0 N N 0 C R H (by omega) (by omega) (by omega)
  refine ⟨gq_up C2 108 li x2, gq_up R2 47 li x2, ?_, t2, ⟨?_, ?_, ?_, fun h hh => ?_⟩, ?_⟩
  · unfold f_X9_fetch
    rw [b_atN (by omega) (by omega), hm]
    exact t1
  · obtain ⟨hnb, hnl, hnr, htn, hda, hop, hdr, hqu, hai, hid, hac, hlk, hla, hks, hkm, hkh, hbg, hbd, hbo, hbl, hbb, hst, hpw, hxb, hxk, hxr, hxs, hxf, hxl, hxc, hxi, hxp, hsu, hmo, hsb, hlo, hlb, hlf, hlh, hld, hlr, hcl⟩ := H2
    exact ⟨hnb, hnl, hnr, htn, hda, hop, hdr, hqu, hai, hid, hac, hlk, hla, hks, hkm, hkh, hbg, hbd, hbo, hbl, hbb, hst, hpw, hxb, hxk, hxr, hxs, hxf, hxl, hxc, hxi, hxp, hsu, hmo, hsb, ⟨hlo.1, hlo.2.1, hlo.2.2.1, eqR_up hlo.2.2.2.1, fun j g1 g2 => (upd_n (by omega)).trans (hlo.2.2.2.2 j g1 g2)⟩, hlb, hlf, hlh, hld, hlr, hcl⟩
  · intro j hj
    exact (congrFun (f1 15 (by decide)) j).trans (hwt j hj)
  · intro l hl2
    show K_seg1 (C2 69) (C2 71) (C2 73) l (offl nb (R2 26) (R2 19) l)
    rw [f1 69 (by decide), f1 71 (by decide), f1 73 (by decide), f2 26 (by decide), offl_same t3]
    exact hsg l hl2
  · refine hall_fr (hhl h hh) (congrFun (f1 78 (by decide)) _) (congrFun (f1 80 (by decide)) _) (congrFun (f1 82 (by decide)) _) (congrFun (f1 84 (by decide)) _) (congrFun (f1 86 (by decide)) _) (congrFun (f1 88 (by decide)) _) (congrFun (f2 35 (by decide)) _) (congrFun (f2 36 (by decide)) _) (congrFun (f2 37 (by decide)) _) (congrFun (f2 39 (by decide)) _) (congrFun (f2 38 (by decide)) _) (fun l _ => congrFun (f2 31 (by decide)) l) (fun l _ _ => congrFun (f2 32 (by decide)) l) (fun l hl hd q => ?_) (Nat.le_refl _) (fun j hj => ⟨congrFun (f1 95 (by decide)) _, congrFun (f1 97 (by decide)) _, congrFun (f1 99 (by decide)) _, congrFun (f2 40 (by decide)) _, congrFun (f2 41 (by decide)) _, congrFun (f2 42 (by decide)) _, congrFun (f2 43 (by decide)) _⟩)
    show offl nb (R2 26) (R2 19) l ≠ []
    rw [f2 26 (by decide), offl_same t3]
    exact q
  · exact congrFun (f2 0 (by decide)) 54

