/-! pure: end -/
abbrev feC : List Nat := [78, 80, 82, 84, 86, 99]
def ovC (g M : gq_M) : gq_M := fun a => if a = 78 then g a else (if a = 80 then g a else (if a = 82 then g a else (if a = 84 then g a else (if a = 86 then g a else (if a = 99 then g a else (M a))))))
def ovR (g M : gq_M) : gq_M := fun a => if a = 35 then g a else (if a = 36 then g a else (if a = 37 then g a else (if a = 39 then g a else (if a = 40 then g a else (if a = 43 then g a else (M a))))))
theorem ovC_eq {M M2 : gq_M} (h : fr feC M M2) : M2 = ovC M2 M := by
  funext a
  unfold ovC
  repeat' split
  all_goals first | rfl | (refine h a fun hh => ?_; simp_all)
theorem ovR_eq {M M2 : gq_M} (h : fr fbR M M2) : M2 = ovR M2 M := by
  funext a
  unfold ovR
  repeat' split
  all_goals first | rfl | (refine h a fun hh => ?_; simp_all)
set_option maxHeartbeats 1000000 in
theorem s_rests {N nb nl nr tn : Nat} (hN : 600 ≤ N) : ∀ (k i n8 n9 : Nat) (acc : Int32) (C R : gq_M), CORE nb nl nr tn C R → K_seg nb nl (C 69) (C 71) (C 73) (R 26) (R 19) → i + k = nl → k < n8 → k < n9 → ∃ C2 R2 acc2, f_X9_end_11 N n8 acc (nI i) C = f_X9_end_38 N N acc2 0 C2 ∧ f_X10_end_25 N n9 acc (nI i) R = f_X10_end_69 N N acc2 0 (gq_up (gq_up (gq_up R2 0 2 0) 0 31 0) 0 1 (R2 0 1 + 1)) ∧ CORE nb nl nr tn C2 R2 ∧ C2 15 = C 15 ∧ R2 0 = R 0 := by
  intro k
  induction k with
  | zero =>
    intro i n8 n9 acc C R H hsg hi h8 h9
    obtain ⟨n8, rfl⟩ : ∃ z, n8 = z + 1 := ⟨n8 - 1, by omega⟩
    obtain ⟨n9, rfl⟩ : ∃ z, n9 = z + 1 := ⟨n9 - 1, by omega⟩
    have hnb := core_nb H
    have hnl := core_nl H
    have he : nl ≤ i := by omega
    refine ⟨C, R, acc, ?_, ?_, H, rfl, rfl⟩
    · show f_X9_end_11_b N (f_X9_end_11 N n8) acc (nI i) C = _
      unfold f_X9_end_11_b
      simp (disch := omega) only [hnl.1, nI_leI, he, ↓reduceIte]
    · show f_X10_end_25_b N (f_X10_end_25 N n9) acc (nI i) R = _
      unfold f_X10_end_25_b
      simp (disch := omega) only [hnl.2.1, nI_leI, he, ↓reduceIte, ↓gq_l_e]
      rfl
  | succ k ih =>
    intro i n8 n9 acc C R H hsg hi h8 h9
    obtain ⟨n8, rfl⟩ : ∃ z, n8 = z + 1 := ⟨n8 - 1, by omega⟩
    obtain ⟨n9, rfl⟩ : ∃ z, n9 = z + 1 := ⟨n9 - 1, by omega⟩
    have hnb := core_nb H
    have hnl := core_nl H
    have hb := hnb.2.2
    have hl := hnl.2.2
    have he : ¬ nl ≤ i := by omega
    obtain ⟨C1, R1, g1, g2, H1, g3, g4, f1, f2, g5⟩ := s_withdrawRest (N := N) (l := i) H hN (by omega) (hsg i (by omega))
    have hsg1 : K_seg nb nl (C1 69) (C1 71) (C1 73) (R1 26) (R1 19) := by
      rw [f1 71 (by decide), f1 73 (by decide), f2 26 (by decide)]
      exact seg_w hsg (by omega) (by omega) g3 g4 g5
    obtain ⟨C2, R2, acc2, t1, t2, H2, t3, t4⟩ := ih (i + 1) n8 n9 (acc + nI (offl nb (R 26) (R 19) i).length) C1 R1 H1 hsg1 (by omega) (by omega) (by omega)
    refine ⟨C2, R2, acc2, ?_, ?_, H2, t3.trans (f1 15 (by decide)), t4.trans (f2 0 (by decide))⟩
    · show f_X9_end_11_b N (f_X9_end_11 N n8) acc (nI i) C = _
      unfold f_X9_end_11_b
      simp (disch := omega) only [hnl.1, nI_leI, he, ↓reduceIte, g1, ↓gq_b_s, nI_1]
      exact t1
    · show f_X10_end_25_b N (f_X10_end_25 N n9) acc (nI i) R = _
      unfold f_X10_end_25_b
      simp (disch := omega) only [hnl.2.1, nI_leI, he, ↓reduceIte, g2, ↓gq_b_s, nI_1]
      exact t2
theorem m_shut {N : Nat} (hN : 600 ≤ N) {acc : Int32} (F : Int32 → Int32 → gq_M → Option (Nat × Int32 × gq_M)) : ∀ (k i n8 : Nat) (C : gq_M), i + k = 3 → k < n8 → ∃ C2, f_X9_end_38 N n8 acc (nI i) C = f_X9_end_38_b N F acc 3 C2 ∧ fr feC C C2 ∧ (∀ h, i ≤ h → h < 3 → C2 78 h = 0 ∧ C2 80 h = -1 ∧ C2 82 h = 0 ∧ C2 84 h = -1 ∧ C2 86 h = 0) ∧ ∀ h, h < i → C2 78 h = C 78 h ∧ C2 80 h = C 80 h ∧ C2 82 h = C 82 h ∧ C2 84 h = C 84 h ∧ C2 86 h = C 86 h := by
  intro k
  induction k with
  | zero =>
    intro i n8 C hi h8
    obtain ⟨n8, rfl⟩ : ∃ z, n8 = z + 1 := ⟨n8 - 1, by omega⟩
    obtain rfl : i = 3 := by omega
    refine ⟨C, ?_, fr_rf _ _, fun h h1 h2 => by omega, fun h _ => ⟨rfl, rfl, rfl, rfl, rfl⟩⟩
    show f_X9_end_38_b N (f_X9_end_38 N n8) acc 3 C = _
    unfold f_X9_end_38_b
    rw [if_pos (Int32.le_refl _), if_pos (Int32.le_refl _)]
  | succ k ih =>
    intro i n8 C hi h8
    obtain ⟨n8, rfl⟩ : ∃ z, n8 = z + 1 := ⟨n8 - 1, by omega⟩
    have hi3 : i < 3 := by omega
    have he : ¬ (3 : Int32) ≤ nI i := fun h2 => by have := (nI_leI (a := 3) (by omega) (by omega)).mp h2; omega
    have e1 := m_bring0 (N := N) (h := i) (M := gq_up C 86 i 0) hi3
    have e2 := m_begin0 (N := N) (h := i) (M := gq_up (gq_up (gq_up C 86 i 0) 80 i (-1)) 82 i 0) hi3 hN (by rw [up_ne (by decide), up_row, upd_s])
    obtain ⟨C2, t1, t2, t3, t4⟩ := ih (i + 1) n8 (fgC i 0 (gq_up (gq_up (gq_up (gq_up (gq_up C 86 i 0) 80 i (-1)) 82 i 0) 78 i 0) 84 i (-1))) (by omega) (by omega)
    refine ⟨C2, ?_, fr_tr (fr_fg (fr_up (fr_up (fr_up (fr_up (fr_up (fr_rf _ _) (by decide)) (by decide)) (by decide)) (by decide)) (by decide)) (by decide)) t2, fun h h1 h2 => ?_, fun h h1 => ?_⟩
    · show f_X9_end_38_b N (f_X9_end_38 N n8) acc (nI i) C = _
      rw [← t1]
      conv => lhs; unfold f_X9_end_38_b
      simp (disch := omega) only [he, ↓reduceIte, ↓b_putN, e1, ↓gq_b_s, e2, nI_1]
    · by_cases hhi : h = i
      · subst hhi
        obtain ⟨u1, u2, u3, u4, u5⟩ := t4 h (by omega)
        rw [u1, u2, u3, u4, u5]
        exact ⟨upd_s _ _ _, upd_s _ _ _, upd_s _ _ _, upd_s _ _ _, upd_s _ _ _⟩
      · exact t3 h (by omega) h2
    · obtain ⟨u1, u2, u3, u4, u5⟩ := t4 h (by omega)
      rw [u1, u2, u3, u4, u5]
      exact ⟨upd_n (by omega), upd_n (by omega), upd_n (by omega), upd_n (by omega), upd_n (by omega)⟩
theorem r_shut {N : Nat} (hN : 600 ≤ N) {acc : Int32} : ∀ (k i n8 : Nat) (R : gq_M), R 0 31 = 0 → i + k = 3 → k < n8 → ∃ R2, f_X10_end_69 N n8 acc (nI i) R = f_X10_end_87 N N acc 0 R2 ∧ fr fbR R R2 ∧ (∀ h, i ≤ h → h < 3 → R2 35 h = 0 ∧ R2 36 h = -1 ∧ R2 37 h = 0 ∧ R2 39 h = -1) ∧ ∀ h, h < i → R2 35 h = R 35 h ∧ R2 36 h = R 36 h ∧ R2 37 h = R 37 h ∧ R2 39 h = R 39 h := by
  intro k
  induction k with
  | zero =>
    intro i n8 R h0 hi h8
    obtain ⟨n8, rfl⟩ : ∃ z, n8 = z + 1 := ⟨n8 - 1, by omega⟩
    obtain rfl : i = 3 := by omega
    refine ⟨R, ?_, fr_rf _ _, fun h h1 h2 => by omega, fun h _ => ⟨rfl, rfl, rfl, rfl⟩⟩
    show f_X10_end_69_b N (f_X10_end_69 N n8) acc (nI 3) R = _
    unfold f_X10_end_69_b
    rw [if_pos (show (3 : Int32) ≤ nI 3 by decide)]
  | succ k ih =>
    intro i n8 R h0 hi h8
    obtain ⟨n8, rfl⟩ : ∃ z, n8 = z + 1 := ⟨n8 - 1, by omega⟩
    have hi3 : i < 3 := by omega
    have he : ¬ (3 : Int32) ≤ nI i := fun h2 => by have := (nI_leI (a := 3) (by omega) (by omega)).mp h2; omega
    have e1 := r_comes0 (N := N) (h := i) (nl := 0) (M := R) hi3 hN h0 (by omega) rfl
    obtain ⟨R2, t1, t2, t3, t4⟩ := ih (i + 1) n8 (bgR i (8 * i) (gq_up (gq_up (gq_up (gq_up R 36 i (-1)) 35 i 0) 37 i 0) 39 i (-1))) h0 (by omega) (by omega)
    refine ⟨R2, ?_, fr_tr (fr_bg (fr_up (fr_up (fr_up (fr_up (fr_rf _ _) (by decide)) (by decide)) (by decide)) (by decide)) (by decide) (by decide)) t2, fun h h1 h2 => ?_, fun h h1 => ?_⟩
    · show f_X10_end_69_b N (f_X10_end_69 N n8) acc (nI i) R = _
      rw [← t1]
      conv => lhs; unfold f_X10_end_69_b
      simp (disch := omega) only [he, ↓reduceIte, e1, ↓gq_b_s, nI_1]
    · by_cases hhi : h = i
      · subst hhi
        obtain ⟨u1, u2, u3, u4⟩ := t4 h (by omega)
        rw [u1, u2, u3, u4]
        exact ⟨upd_s _ _ _, upd_s _ _ _, upd_s _ _ _, upd_s _ _ _⟩
      · exact t3 h (by omega) h2
    · obtain ⟨u1, u2, u3, u4⟩ := t4 h (by omega)
      rw [u1, u2, u3, u4]
      exact ⟨upd_n (by omega), upd_n (by omega), upd_n (by omega), upd_n (by omega)⟩
def clR (i n : Nat) (M : gq_M) : gq_M := fun a => if a = 26 then blk i n (-1) (M a) else M a
theorem cl_0 {i n : Nat} {M : gq_M} (h : n ≤ i) : clR i n M = M := by
  funext a
  unfold clR
  rw [blk_0 h]
  split <;> rfl
theorem cl_s {i n : Nat} {M : gq_M} (h : i < n) : clR (i + 1) n (gq_up M 26 i (-1)) = clR i n M := by
  funext a
  unfold clR
  by_cases ha : a = 26
  · subst ha
    rw [if_pos rfl, if_pos rfl, up_row, blk_up h]
  · rw [if_neg ha, if_neg ha, up_ne ha]
theorem r_clear {N nb : Nat} {acc : Int32} (hb : nb ≤ 150) : ∀ (k i n9 : Nat) (R : gq_M), R 0 16 = nI nb → i + k = nb → k < n9 → f_X10_end_87 N n9 acc (nI i) R = some (acc, clR i nb R) := by
  intro k
  induction k with
  | zero =>
    intro i n9 R hM hi h9
    obtain ⟨n9, rfl⟩ : ∃ z, n9 = z + 1 := ⟨n9 - 1, by omega⟩
    have he : nb ≤ i := by omega
    show f_X10_end_87_b N (f_X10_end_87 N n9) acc (nI i) R = _
    unfold f_X10_end_87_b
    simp (disch := omega) only [hM, nI_leI, he, ↓reduceIte]
    rw [cl_0 he]
  | succ k ih =>
    intro i n9 R hM hi h9
    obtain ⟨n9, rfl⟩ : ∃ z, n9 = z + 1 := ⟨n9 - 1, by omega⟩
    have he : ¬ nb ≤ i := by omega
    show f_X10_end_87_b N (f_X10_end_87 N n9) acc (nI i) R = _
    unfold f_X10_end_87_b
    simp (disch := omega) only [hM, nI_leI, he, ↓reduceIte, ↓g_inN, ↓gq_l_e, nI_clamp, nI_1]
    rw [ih (i + 1) n9 (gq_up R 26 i (-1)) hM (by omega) (by omega), cl_s (by omega)]

set_option maxHeartbeats 1000000 in
theorem c_end {N : Nat} {C R : gq_M} (hN : 600 ≤ N) (H : INV C R) : OUT kD (f_X9_end N  C) (f_X10_end N  R) := by
  obtain ⟨nb, nl, nr, tn, I0⟩ := inv_invd H
  obtain ⟨Hc, hwt, hsg, hhl⟩ := I0
  have I0 : INVd nb nl nr tn C R := ⟨Hc, hwt, hsg, hhl⟩
  have H0 := Hc
  obtain ⟨hnb, hnl, hnr, htn, hda, hop, hdr, hqu, hai, hid, hac, hlk, hla, hks, hkm, hkh, hbg, hbd, hbo, hbl, hbb, hst, hpw, hxb, hxk, hxr, hxs, hxf, hxl, hxc, hxi, hxp, hsu, hmo, hsb, hlo, hlb, hlf, hlh, hld, hlr, hcl⟩ := H0
  have hb150 := hnb.2.2
  have hl150 := hnl.2.2
  have hr20 := hnr.2.2
  have ht5 := htn.2.2
  rcases hop.2 with h1 | h1
  · have h1C : C 0 10 = 0 := hop.1.trans h1
    simp (disch := omega) only [f_X9_end, f_X10_end_13, f_X10_end, ↓m_exist, ↓m_beIn, ↓m_hold, e8a, e8b, e4a, e4b, e3a, e3b, ↓b_isEight, ↓b_isKind, ↓b_isHall, ↓b_areCents, ↓b_isBox, ↓b_isIn, ↓b_fails, ↓gq_b_s, ↓gq_l_e, ↓b_atN, ↓b_putN, ↓b_addN, ↓b_swapN, ↓g_inN, b_atN, b_putN, b_addN, b_swapN, g_inN, ↓g_bb0, ↓g_bb1, ↓g_bbI, bI_z, Classical.not_not, ↓reduceIte, not_true_eq_false, not_false_eq_true, f01, f02, f03, f00, ite_not, ite_self, and_self, nI_clamp, pl4, pl4b, pl8, pl8b, thr_r, thr_s, h1, h1C, f10]
    exact out_t H rfl
  · have h1C : C 0 10 = 1 := hop.1.trans h1
    obtain ⟨C1, R1, acc, e1, e2, H1, e3, e4⟩ := s_rests (N := N) hN nl 0 N N 0 C (thr R 0) (invd_thr I0).1 hsg (by omega) (by omega) (by omega)
    have e1' : f_X9_end_11 N N 0 0 C = _ := e1
    have e2' : f_X10_end_25 N N 0 0 (thr R 0) = _ := e2
    simp (disch := omega) only [f_X9_end, f_X10_end_13, f_X10_end, ↓m_exist, ↓m_beIn, ↓m_hold, e8a, e8b, e4a, e4b, e3a, e3b, ↓b_isEight, ↓b_isKind, ↓b_isHall, ↓b_areCents, ↓b_isBox, ↓b_isIn, ↓b_fails, ↓gq_b_s, ↓gq_l_e, ↓b_atN, ↓b_putN, ↓b_addN, ↓b_swapN, ↓g_inN, b_atN, b_putN, b_addN, b_swapN, g_inN, ↓g_bb0, ↓g_bb1, ↓g_bbI, bI_z, Classical.not_not, ↓reduceIte, not_true_eq_false, not_false_eq_true, f01, f02, f03, f00, ite_not, ite_self, and_self, nI_clamp, pl4, pl4b, pl8, pl8b, thr_r, thr_s, h1, h1C, f10, e1', e2']
    obtain ⟨C2, u1, u2, u3, -⟩ := m_shut (N := N) hN (acc := acc) (fun _ _ _ => none) 3 0 N C1 (by omega) (by omega)
    obtain ⟨R2, v1, v2, v3, -⟩ := r_shut (N := N) hN (acc := acc) 3 0 N (gq_up (gq_up (gq_up R1 0 2 0) 0 31 0) 0 1 (R1 0 1 + 1)) rfl (by omega) (by omega)
    have u1' : f_X9_end_38 N N acc 0 C1 = _ := u1
    have v1' : f_X10_end_69 N N acc 0 (gq_up (gq_up (gq_up R1 0 2 0) 0 31 0) 0 1 (R1 0 1 + 1)) = _ := v1
    rw [u1', v1']
    obtain ⟨gC, hgC⟩ : ∃ g, C2 = ovC g C1 := ⟨C2, ovC_eq u2⟩
    obtain ⟨gR, hgR⟩ : ∃ g, R2 = ovR g (gq_up (gq_up (gq_up R1 0 2 0) 0 31 0) 0 1 (R1 0 1 + 1)) := ⟨R2, ovR_eq v2⟩
    have hthr : R1 0 54 = 0 := by rw [e4]; rfl
    clear u1 u1' v1 v1' u2 v2 e1 e1' e2 e2' hsg hhl I0
    subst hgC
    subst hgR
    clear hnb hnl hnr htn hda hop hdr hqu hai hid hac hlk hla hks hkm hkh hbg hbd hbo hbl hbb hst hpw hxb hxk hxr hxs hxf hxl hxc hxi hxp hsu hmo hsb hlo hlb hlf hlh hld hlr hcl Hc
    obtain ⟨hnb, hnl, hnr, htn, hda, hop, hdr, hqu, hai, hid, hac, hlk, hla, hks, hkm, hkh, hbg, hbd, hbo, hbl, hbb, hst, hpw, hxb, hxk, hxr, hxs, hxf, hxl, hxc, hxi, hxp, hsu, hmo, hsb, hlo, hlb, hlf, hlh, hld, hlr, hcl⟩ := H1
    have hcle : f_X10_end_87 N N acc 0 (ovR gR (gq_up (gq_up (gq_up R1 0 2 0) 0 31 0) 0 1 (R1 0 1 + 1))) = _ := r_clear (N := N) (nb := nb) hb150 nb 0 N (ovR gR (gq_up (gq_up (gq_up R1 0 2 0) 0 31 0) 0 1 (R1 0 1 + 1))) hnb.2.1 (by omega) (by omega)
    rw [hcle]
    unfold f_X9_end_38_b f_X6_clear
    rw [if_pos (Int32.le_refl _), gq_l_e, gq_l_e, gq_b_s, m_fill (by omega) (by omega), gq_b_s, gq_l_e, gq_l_e]
    refine out_v (congrArg some hthr.symm) rfl ⟨nb, 0, nr, tn, hnb, ⟨rfl, rfl, Nat.zero_le _⟩, hnr, htn, (congrArg (fun x => x + 1) hda), ⟨rfl, Or.inl rfl⟩, hdr, hqu, hai, hid, hac, hlk, hla, (fun j hj => (congrFun e3 j).trans (hwt j hj)), hks, hkm, hkh, hbg, hbd, hbo, hbl, hbb, hst, hpw, hxb, hxk, hxr, hxs, hxf, ⟨fun b hb => ?_, fun b g1 g2 => ?_⟩, hxc, hxi, hxp, hsu, hmo, hsb, hlo, (fun j hj => absurd hj (Nat.not_lt_zero _)), (fun j hj => absurd hj (Nat.not_lt_zero _)), ⟨fun j hj => absurd hj (Nat.not_lt_zero _), fun j hj => absurd hj (Nat.not_lt_zero _)⟩, hld, (fun j hj => absurd hj (Nat.not_lt_zero _)), (fun b hb => Or.inl ?_), (fun _ => ⟨rfl, rfl⟩), (fun h hh => ?_)⟩
    · show fillR _ 46 150 (-1) 46 b = blk 0 nb (-1) _ b
      rw [blk_in ⟨Nat.zero_le _, hb⟩]
      show (if 46 = 46 then _ else _ : Nat → Int32) b = -1
      rw [if_pos rfl]
      exact if_pos (by omega)
    · show fillR _ 46 150 (-1) 46 b = -1
      show (if 46 = 46 then _ else _ : Nat → Int32) b = -1
      rw [if_pos rfl]
      exact if_pos g2
    · exact blk_in ⟨Nat.zero_le _, hb⟩
    · obtain ⟨x1, x2, x3, x4, x5⟩ := u3 h (Nat.zero_le _) hh
      obtain ⟨y1, y2, y3, y4⟩ := v3 h (Nat.zero_le _) hh
      exact ⟨x1.trans y1.symm, x2.trans y2.symm, x3.trans y3.symm, x4.trans y4.symm, x5, fun l hl => absurd hl (Nat.not_lt_zero _), Or.inl ⟨y1, y2, y3, y4, fun l hl => absurd hl (Nat.not_lt_zero _)⟩⟩
