/-! pure: open -/
set_option maxHeartbeats 1000000 in
theorem m_countIn_l {N h nl : Nat} {M : gq_M} (hM : M 61 7 = nI nl) (hl : nl ≤ 150) : ∀ (k i n9 : Nat) (acc : Int32), i + k = nl → k < n9 → f_X6_countIn_4 N n9 (nI h) acc (nI i) M = some (acc + nI (cnt (rg i k) (fun l => decide (M 67 l = nI h))), M) := by
  intro k
  induction k with
  | zero =>
    intro i n9 acc hi h9
    obtain ⟨n9, rfl⟩ : ∃ z, n9 = z + 1 := ⟨n9 - 1, by omega⟩
    have he : nl ≤ i := by omega
    show f_X6_countIn_4_b N (f_X6_countIn_4 N n9) (nI h) acc (nI i) M = _
    unfold f_X6_countIn_4_b
    simp (disch := omega) only [he, nI_leI, reduceIte, g_inN, g_bb0, g_bb1, nI_clamp, gq_b_s, gq_l_e, m_atN, m_putN, m_addN, nI_1, f_X6_countIn_27, f_X6_countIn, hM]
    exact congrArg (fun x => some (x, M)) (zadd acc).symm
  | succ k ih =>
    intro i n9 acc hi h9
    obtain ⟨n9, rfl⟩ : ∃ z, n9 = z + 1 := ⟨n9 - 1, by omega⟩
    have he : ¬ nl ≤ i := by omega
    show f_X6_countIn_4_b N (f_X6_countIn_4 N n9) (nI h) acc (nI i) M = _
    unfold f_X6_countIn_4_b
    by_cases c1 : M 67 i = nI h
    · skip
      simp (disch := omega) only [he, ih (i + 1) n9, nI_leI, reduceIte, g_inN, g_bb0, g_bb1, nI_clamp, gq_b_s, gq_l_e, m_atN, m_putN, m_addN, nI_1, f_X6_countIn_27, f_X6_countIn, hM, eq_true c1]
      simp only [rg_s, cnt_cons, eq_true c1, decide_true, decide_false, reduceIte, Int32.add_zero, cadd, Nat.zero_add, Bool.false_eq_true]
    · skip
      simp (disch := omega) only [he, ih (i + 1) n9, nI_leI, reduceIte, g_inN, g_bb0, g_bb1, nI_clamp, gq_b_s, gq_l_e, m_atN, m_putN, m_addN, nI_1, f_X6_countIn_27, f_X6_countIn, hM, eq_false c1]
      simp only [rg_s, cnt_cons, eq_false c1, decide_true, decide_false, reduceIte, Int32.add_zero, cadd, Nat.zero_add, Bool.false_eq_true]
set_option maxHeartbeats 1000000 in
theorem s_oh {N nb nl nr tn : Nat} (hN : 600 ≤ N) : ∀ (k i n8 n9 : Nat) (C R : gq_M), CORE nb nl nr tn C R → (∀ l, l < nl → R 32 l = 0) → (∀ l, l < nl → offl nb (R 26) (R 19) l ≠ []) → (∀ h, h < i → K_hall h nb nl tn C R) → i + k = 3 → k < n8 → k < n9 → ∃ C2 R2, f_X9_open_46 N n8 (nI i) C = some (0, C2 61 7, C2) ∧ f_X10_open_80 N n9 (nI i) R = some (R2 0 31, R2) ∧ CORE nb nl nr tn C2 R2 ∧ (∀ h, h < 3 → K_hall h nb nl tn C2 R2) ∧ fr (86 :: fbC) C C2 ∧ fr fbR R R2 := by
  intro k
  induction k with
  | zero =>
    intro i n8 n9 C R H hdn hne hK hi h8 h9
    obtain ⟨n8, rfl⟩ : ∃ z, n8 = z + 1 := ⟨n8 - 1, by omega⟩
    obtain ⟨n9, rfl⟩ : ∃ z, n9 = z + 1 := ⟨n9 - 1, by omega⟩
    obtain rfl : i = 3 := by omega
    refine ⟨C, R, ?_, ?_, H, hK, fr_rf _ _, fr_rf _ _⟩
    · show f_X9_open_46_b N (f_X9_open_46 N n8) (nI 3) C = _
      unfold f_X9_open_46_b
      rw [if_pos (show (3 : Int32) ≤ nI 3 by decide)]
    · show f_X10_open_80_b N (f_X10_open_80 N n9) (nI 3) R = _
      unfold f_X10_open_80_b
      rw [if_pos (show (3 : Int32) ≤ nI 3 by decide)]
  | succ k ih =>
    intro i n8 n9 C R H hdn hne hK hi h8 h9
    obtain ⟨n8, rfl⟩ : ∃ z, n8 = z + 1 := ⟨n8 - 1, by omega⟩
    obtain ⟨n9, rfl⟩ : ∃ z, n9 = z + 1 := ⟨n9 - 1, by omega⟩
    have hi3 : i < 3 := by omega
    have he : ¬ (3 : Int32) ≤ nI i := fun h2 => by have := (nI_leI (a := 3) (by omega) (by omega)).mp h2; omega
    have hnl := core_nl H
    have hnb := core_nb H
    have hl := hnl.2.2
    have hb := hnb.2.2
    have hlh : ∀ l, l < nl → C 67 l = R 31 l := by
      have H0 := H
      obtain ⟨hnb, hnl, hnr, htn, hda, hop, hdr, hqu, hai, hid, hac, hlk, hla, hks, hkm, hkh, hbg, hbd, hbo, hbl, hbb, hst, hpw, hxb, hxk, hxr, hxs, hxf, hxl, hxc, hxi, hxp, hsu, hmo, hsb, hlo, hlb, hlf, hlh, hld, hlr, hcl⟩ := H0
      exact hlh.1
    have hnd : ∀ l, l < nl → decide (C 67 l = nI i) = isNd (R 31) (R 32) i l := fun l hl2 => by
      unfold isNd
      rw [hlh l hl2, hdn l hl2]
      simp
    have hcn : cnt (rg 0 nl) (fun l => decide (C 67 l = nI i)) = cnt (rg 0 nl) (isNd (R 31) (R 32) i) := cnt_congr fun l hl2 => hnd l (by have := (rg_m.mp hl2).2; omega)
    have hfl : (rg 0 nl).filter (fun l => decide (C 67 l = nI i)) = (rg 0 nl).filter (isNd (R 31) (R 32) i) := List.filter_congr fun l hl2 => hnd l (by have := (rg_m.mp hl2).2; omega)
    have e1 := m_countIn_l (N := N) (h := i) (M := C) hnl.1 (by omega) nl 0 N 0 (by omega) (by omega)
    have e1' : f_X6_countIn N (nI i) C = some (nI (cnt (rg 0 nl) (isNd (R 31) (R 32) i)), C) := by
      rw [Int32.zero_add, hcn] at e1
      exact e1
    generalize hv : nI (cnt (rg 0 nl) (isNd (R 31) (R 32) i)) = v at e1'
    have H1 : CORE nb nl nr tn (gq_up C 86 i v) R := by
      have H0 := H
      obtain ⟨hnb, hnl, hnr, htn, hda, hop, hdr, hqu, hai, hid, hac, hlk, hla, hks, hkm, hkh, hbg, hbd, hbo, hbl, hbb, hst, hpw, hxb, hxk, hxr, hxs, hxf, hxl, hxc, hxi, hxp, hsu, hmo, hsb, hlo, hlb, hlf, hlh, hld, hlr, hcl⟩ := H0
      exact ⟨hnb, hnl, hnr, htn, hda, hop, hdr, hqu, hai, hid, hac, hlk, hla, hks, hkm, hkh, hbg, hbd, hbo, hbl, hbb, hst, hpw, hxb, hxk, hxr, hxs, hxf, hxl, hxc, hxi, hxp, hsu, hmo, hsb, hlo, hlb, hlf, hlh, hld, hlr, hcl⟩
    have e2 : f_X6_nextIn N (nI i) (-1) (gq_up C 86 i v) = some (hd ((rg 0 nl).filter (isNd (R 31) (R 32) i)) (-1), gq_up C 86 i v) := by
      unfold f_X6_nextIn
      rw [← hfl]
      exact m_next_l (M := gq_up C 86 i v) hnl.1 (by omega) nl 0 N (by omega) (by omega)
    obtain ⟨C1, C2, R2, t1, t2, t3, H2, K2, O2, f1, f2⟩ := s_bring (N := N) (h := i) H1 hN hi3 ((upd_s _ _ _).trans hv.symm) (fun l hl2 _ => hne l hl2) (fun l l2 _ h2 _ _ => hdn l2 h2)
    have hK2 : ∀ h, h < i + 1 → K_hall h nb nl tn C2 R2 := fun h hh => by
      by_cases hhi : h = i
      · subst hhi; exact K2
      · exact O2 h (by omega) hhi (hall_fr (hK h (by omega)) rfl rfl rfl rfl (upd_n hhi) rfl rfl rfl rfl rfl rfl (fun _ _ => rfl) (fun _ _ _ => rfl) (fun _ _ _ q => q) (Nat.le_refl _) (fun j hj => ⟨rfl, rfl, rfl, rfl, rfl, rfl, rfl⟩))
    obtain ⟨C3, R3, u1, u2, H3, K3, f3, f4⟩ := ih (i + 1) n8 n9 C2 R2 H2 (by rw [f2 32 (by decide)]; exact hdn) (by rw [f2 26 (by decide), f2 19 (by decide)]; exact hne) hK2 (by omega) (by omega) (by omega)
    refine ⟨C3, R3, ?_, ?_, H3, K3, fr_tr (fr_tr (fr_up (fr_rf _ _) (by decide)) (fr_sub f1 fun a ha => List.mem_cons_of_mem _ ha)) f3, fr_tr f2 f4⟩
    · show f_X9_open_46_b N (f_X9_open_46 N n8) (nI i) C = _
      unfold f_X9_open_46_b
      rw [if_neg he, e1', gq_b_s, b_putN (by omega) (by omega), e2, gq_b_s, t1, gq_b_s, t2, gq_b_s, nI_1]
      exact u1
    · show f_X10_open_80_b N (f_X10_open_80 N n9) (nI i) R = _
      unfold f_X10_open_80_b
      rw [if_neg he, t3, gq_b_s, nI_1]
      exact u2
theorem r_open_l {N nb : Nat} (hb : nb ≤ 150) (F : Int32 → gq_M → Option (Int32 × gq_M)) : ∀ (k i n9 : Nat) (R : gq_M), R 0 16 = nI nb → (∀ b, b < nb → R 26 b = -1) → i + k = nb → k < n9 → f_X10_open_47 N n9 (nI i) R = f_X10_open_47_b N F (nI nb) R := by
  intro k
  induction k with
  | zero =>
    intro i n9 R hM hlo hi h9
    obtain ⟨n9, rfl⟩ : ∃ z, n9 = z + 1 := ⟨n9 - 1, by omega⟩
    obtain rfl : i = nb := by omega
    show f_X10_open_47_b N (f_X10_open_47 N n9) (nI i) R = _
    unfold f_X10_open_47_b
    rw [hM, if_pos (Int32.le_refl _), if_pos (Int32.le_refl _)]
  | succ k ih =>
    intro i n9 R hM hlo hi h9
    obtain ⟨n9, rfl⟩ : ∃ z, n9 = z + 1 := ⟨n9 - 1, by omega⟩
    have he : ¬ nI nb ≤ nI i := fun h2 => by have := (nI_leI (by omega) (by omega)).mp h2; omega
    show f_X10_open_47_b N (f_X10_open_47 N n9) (nI i) R = _
    conv => lhs; unfold f_X10_open_47_b
    rw [hM, if_neg he, g_inN (by omega) (by omega), gq_l_e, nI_clamp (by omega), up_id (hlo i (by omega)), nI_1]
    exact ih (i + 1) n9 R hM hlo (by omega) (by omega)
theorem sets_0 {nb s1 s0 : Nat} {R : gq_M} (hs1 : s1 < 256) (hs0 : s0 < 256) (hid : bits 8 (R 4)) (hbo : rngs nb 0 7 (R 13)) (h1 : ∀ j, j < 8 → (s1.testBit j = true ↔ (0 < cnt (rg 0 nb) (wb (R 19) (R 13) j) ∧ R 4 j = 1))) (h0 : ∀ j, j < 8 → (s0.testBit j = true ↔ (0 < cnt (rg 0 nb) (wb (R 19) (R 13) j) ∧ R 4 j = 0))) : nI s1 ||| nI s0 = 0 ↔ cnt (rg 0 nb) (isW (R 19)) = 0 := by
  rw [tb_orr hs1 hs0]
  constructor
  · intro ⟨e1, e0⟩
    subst e1
    subst e0
    refine cnt_z fun b hb => Bool.eq_false_iff.mpr fun hw => ?_
    have hbn : b < nb := by have := (rg_m.mp hb).2; omega
    obtain ⟨g, -, hg8, hg⟩ := hbo b hbn
    have hp : 0 < cnt (rg 0 nb) (wb (R 19) (R 13) g) := cnt_pos hb (decide_eq_true ⟨of_decide_eq_true hw, hg⟩)
    rcases hid g (by omega) with h | h
    · have := (h0 g (by omega)).mpr ⟨hp, h⟩
      rw [Nat.zero_testBit] at this
      cases this
    · have := (h1 g (by omega)).mpr ⟨hp, h⟩
      rw [Nat.zero_testBit] at this
      cases this
  · intro hz
    have hzz : ∀ j, ¬ 0 < cnt (rg 0 nb) (wb (R 19) (R 13) j) := fun j hp => by
      obtain ⟨b, hb, hw⟩ := cnt_ex hp
      have := cnt_pos hb (show isW (R 19) b = true from decide_eq_true (of_decide_eq_true hw).1)
      omega
    exact ⟨tb_0 s1 hs1 fun j hj => Bool.eq_false_iff.mpr fun h => hzz j ((h1 j hj).mp h).1, tb_0 s0 hs0 fun j hj => Bool.eq_false_iff.mpr fun h => hzz j ((h0 j hj).mp h).1⟩
set_option maxHeartbeats 1000000 in
theorem c_open {N : Nat} {C R : gq_M} (hN : 600 ≤ N) (H : INV C R) : OUT kD (f_X9_open N C) (f_X10_open N R) := by
  obtain ⟨nb, nl, nr, tn, I0⟩ := inv_invd H
  obtain ⟨Hc, hwt, hsg, hhl⟩ := I0
  have H0 := Hc
  obtain ⟨hnb, hnl, hnr, htn, hda, hop, hdr, hqu, hai, hid, hac, hlk, hla, hks, hkm, hkh, hbg, hbd, hbo, hbl, hbb, hst, hpw, hxb, hxk, hxr, hxs, hxf, hxl, hxc, hxi, hxp, hsu, hmo, hsb, hlo, hlb, hlf, hlh, hld, hlr, hcl⟩ := H0
  have hb150 := hnb.2.2
  have tC : f_X9_open_21 N C = some (3, 0, C) := by
    unfold f_X9_open_21 f_X9_open_22
    rw [m_hold, if_pos rfl]
  have tR : f_X10_open_22 N R = some (0, thr R 1) := by
    unfold f_X10_open_22 f_X10_open_27
    rw [b_fails, bI_t (show (0 : Int32) < 1 by decide), if_neg (show ¬ (1 : Int32) = 0 by decide)]
  rcases hop.2 with h1 | h1
  · have h1C : C 0 10 = 0 := hop.1.trans h1
    obtain ⟨hnl0, hres0⟩ := hcl h1
    subst hnl0
    obtain ⟨s1, a1, a2, a3⟩ := r_ready (N := N) (d := 1) hN hnb.2.1 hb150 hxb.2
    obtain ⟨s0, b1, b2, b3⟩ := r_ready (N := N) (d := 0) hN hnb.2.1 hb150 hxb.2
    have hz := sets_0 a2 b2 hid.2 hxb.2 a3 b3
    have hcw : f_X1_countWaiting N C = some (nI (cnt (rg 0 nb) (isW (R 19))), C) := by
      have e := m_countW_l (N := N) (M := C) hnb.1 hb150 nb 0 N 0 (by omega) (by omega)
      rw [Int32.zero_add, cnt_congr (p := isW (C 44)) (q := isW (R 19)) fun b hb => by
        unfold isW
        rw [hxs.1 b (by have := (rg_m.mp hb).2; omega)]] at e
      exact e
    have hw150 := cnt_rg 0 nb (isW (R 19))
    unfold f_X9_open f_X10_open
    rw [if_pos h1C, if_pos h1, hcw, gq_b_s, a1, gq_b_s, b1, gq_b_s]
    by_cases c : cnt (rg 0 nb) (isW (R 19)) = 0
    · rw [if_pos (hz.mpr c), c, if_pos (show nI 0 ≤ 0 from Int32.le_refl _), tC, tR]
      exact out_t H rfl
    · rw [if_neg (fun h => c (hz.mp h)), if_neg ((nI_le0 (by omega)).mpr (by omega))]
      have hlm : ∀ b, b < nb → R 26 b = -1 := fun b hb => (hlr b hb).elim id fun h => h.elim fun l hl => absurd hl.1 (Nat.not_lt_zero _)
      have M0 : MID nb 0 nr tn 0 (wtC 0 nb (gq_up C 0 10 1)) (gq_up (gq_up (thr R 0) 0 2 1) 0 31 0) := by
        refine ⟨⟨hnb, ⟨hnl.1, rfl, Nat.zero_le _⟩, hnr, htn, hda, ⟨rfl, Or.inr rfl⟩, hdr, hqu, hai, hid, hac, hlk, hla, hks, hkm, hkh, hbg, hbd, hbo, hbl, hbb, hst, hpw, hxb, hxk, hxr, hxs, hxf, hxl, hxc, hxi, hxp, hsu, hmo, hsb, hlo, hlb, hlf, hlh, hld, hlr, (fun h => absurd (show (1 : Int32) = 0 from h) (by decide))⟩, fun j hj => ?_, ⟨hres0, Nat.le_refl _, by rw [Nat.zero_add]; exact hw150⟩, fun l hl => absurd hl (Nat.not_lt_zero _), fun l hl => absurd hl (Nat.not_lt_zero _), fun l hl => absurd hl (Nat.not_lt_zero _), rfl, rfl⟩
        show (if j < 8 then C 15 j + nI (cnt (rg 0 nb) (wjC (gq_up C 0 10 1) j)) else C 15 j) = _
        rw [if_pos hj, hwt j hj, Int32.zero_add, cnt_congr fun b hb => ?_]
        have hbn : b < nb := by have := (rg_m.mp hb).2; omega
        show decide ((C 44 b = 0 ∨ C 44 b = 6) ∧ C 36 b = nI j) = decide ((R 19 b = 0 ∨ R 19 b = 6) ∧ R 13 b = nI j)
        rw [hxs.1 b hbn, hxb.1 b hbn]
      have e1 : f_X9_countWaitingBoxes N (gq_up C 0 10 1) = some (0, wtC 0 nb (gq_up C 0 10 1)) := m_wt_l (N := N) hb150 nb 0 N (gq_up C 0 10 1) hnb.1 (fun b hb => by
        show rng 0 7 (C 36 b)
        rw [hxb.1 b hb]; exact hxb.2 b hb) (by omega) (by omega)
      obtain ⟨C1, R1, nl1, res1, p1, p2, M1, p3, p4, p5⟩ := s_pass (N := N) hN (Or.inr rfl) M0
      obtain ⟨C2, R2, nl2, res2, q1, q2, M2, q3, q4, q5⟩ := s_pass (N := N) hN (Or.inl rfl) M1
      have p3' : R1 4 = R 4 := p3
      have p4' : ∀ j, j < 8 → R 4 j = 1 → cnt (rg 0 nb) (wb (R1 19) (R1 13) j) = 0 := p4
      have hall0 : ∀ j, j < 8 → cnt (rg 0 nb) (wb (R2 19) (R2 13) j) = 0 := fun j hj => by
        rcases hid.2 j hj with h | h
        · exact q4 j hj (by rw [p3']; exact h)
        · exact q5 j hj (p4' j hj h)
      obtain ⟨Hm, hwait, ⟨hres, hlres, hwb⟩, hsg2, hdn, hne, hop1, hth⟩ := M2
      obtain ⟨C3, R3, u1, u2, H3, K3, f1, f2⟩ := s_oh (N := N) hN 3 0 N N C2 R2 Hm hdn hne (fun h hh => absurd hh (Nat.not_lt_zero _)) (by omega) (by omega) (by omega)
      have rC : f_X9_open_22 N 1 C = some (0, C3 61 7, C3) := by
        unfold f_X9_open_22
        rw [m_hold, if_neg (show ¬ (1 : Int32) = 0 by decide), gq_l_e, e1, gq_b_s, p1, gq_b_s, q1, gq_b_s]
        exact u1
      have rR : f_X10_open_27 N 0 R = some (R3 0 31, R3) := by
        unfold f_X10_open_27
        rw [b_fails, bI_f (show ¬ (0 : Int32) < 0 by decide), if_pos rfl, gq_l_e, gq_l_e]
        have e2 := r_open_l (N := N) hb150 (fun _ _ => none) nb 0 N (gq_up (gq_up (thr R 0) 0 2 1) 0 31 0) hnb.2.1 hlm (by omega) (by omega)
        refine Eq.trans e2 ?_
        unfold f_X10_open_47_b
        rw [show (gq_up (gq_up (thr R 0) 0 2 1) 0 31 0) 0 16 = nI nb from hnb.2.1, if_pos (Int32.le_refl _), p2, gq_b_s, q2, gq_b_s]
        exact u2
      rw [rC, rR]
      have hn3 := core_nl H3
      refine out_v ?_ (hn3.1.trans hn3.2.1.symm) (core_inv H3 (fun j hj => ?_) ?_ K3)
      · rw [f2 0 (by decide), hth]; rfl
      · rw [f1 15 (by decide), hwait j hj, hall0 j hj]; rfl
      · rw [f1 69 (by decide), f1 71 (by decide), f1 73 (by decide), f2 26 (by decide), f2 19 (by decide)]
        intro l hl
        obtain ⟨f, g1, g2, g3, g4⟩ := hsg2 l hl
        exact ⟨f, g1, g2, by omega, g4⟩
  · have h1C : ¬ C 0 10 = 0 := by rw [hop.1, h1]; decide
    have h1R : ¬ R 0 2 = 0 := by rw [h1]; decide
    unfold f_X9_open f_X10_open
    rw [if_neg h1C, if_neg h1R, tC, tR]
    exact out_t H rfl

