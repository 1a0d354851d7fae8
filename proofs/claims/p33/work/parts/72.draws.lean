/-! pure: all boats of a kind are drawn -/
theorem mid_core {nb nl nr tn res : Nat} {C R : gq_M} (M : MID nb nl nr tn res C R) : CORE nb nl nr tn C R := M.1
theorem mid_x {nb nl nr tn res : Nat} {v : Int32} {C R : gq_M} (M : MID nb nl nr tn res C R) : MID nb nl nr tn res (gq_up C 0 11 v) (gq_up R 0 3 v) := by
  obtain ⟨Hc, hwait, hr3, hsg, hdn, hne, hop1, hth⟩ := M
  obtain ⟨hnb, hnl, hnr, htn, hda, hop, hdr, hqu, hai, hid, hac, hlk, hla, hks, hkm, hkh, hbg, hbd, hbo, hbl, hbb, hst, hpw, hxb, hxk, hxr, hxs, hxf, hxl, hxc, hxi, hxp, hsu, hmo, hsb, hlo, hlb, hlf, hlh, hld, hlr, hcl⟩ := Hc
  exact ⟨⟨hnb, hnl, hnr, htn, hda, hop, rfl, hqu, hai, hid, hac, hlk, hla, hks, hkm, hkh, hbg, hbd, hbo, hbl, hbb, hst, hpw, hxb, hxk, hxr, hxs, hxf, hxl, hxc, hxi, hxp, hsu, hmo, hsb, hlo, hlb, hlf, hlh, hld, hlr, hcl⟩, hwait, hr3, hsg, hdn, hne, hop1, hth⟩
theorem cnt_0 {L : List Nat} {p : Nat → Bool} (h : cnt L p = 0) : ∀ b, b ∈ L → p b = false := fun b hb => Bool.eq_false_iff.mpr fun hp => by have := cnt_pos hb hp; omega
theorem r_drawn {N s l q a : Nat} {t : List Nat} {R : gq_M} (hN : 600 ≤ N) (hs : s < 256) (hl : cnt (rg 0 8) s.testBit = l) (h0 : 0 < l) (hq : shx (R 0 3 * 1103515245 + 12345) - shx (R 0 3 * 1103515245 + 12345) / nI l * nI l = nI q) (hq8 : q < 100) (hT : ((rg 0 8).filter s.testBit).drop q = a :: t) : f_X10_drawn N (nI s) R = some (nI a, gq_up R 0 3 (R 0 3 * 1103515245 + 12345)) := by
  have hl8 : l ≤ 8 := by rw [← hl]; exact cnt_rg 0 8 _
  have e := r_dr_l (N := N) (M := gq_up R 0 3 (R 0 3 * 1103515245 + 12345)) (x := -1) hs 8 0 N q (by omega) (by omega) hq8
  rw [hT] at e
  have e' : f_X10_drawn_33 N N (nI s) (nI q) (-1) 0 (gq_up R 0 3 (R 0 3 * 1103515245 + 12345)) = some (nI a, gq_up R 0 3 (R 0 3 * 1103515245 + 12345)) := e
  unfold f_X10_drawn
  rw [gq_l_e, show (gq_up R 0 3 (R 0 3 * 1103515245 + 12345)) 0 3 = R 0 3 * 1103515245 + 12345 from rfl, gq_l_e, r_size hN hs, hl, gq_b_s, nz_nI h0 (by omega)]
  unfold shx at hq
  rw [hq]
  exact e'
theorem m_find {N q a : Nat} {t : List Nat} {d : Int32} {M : gq_M} {p : Nat → Bool} (hN : 600 ≤ N) (hd2 : bit d) (hb : ∀ j, j < 8 → bit (M 11 j)) (hp : ∀ j, j < 8 → ((¬ M 15 j ≤ 0 ∧ M 11 j = d) ↔ p j = true)) (hq8 : q < 100) (hT : ((rg 0 8).filter p).drop q = a :: t) : f_X0_findWaiting N d (nI q) M = some (nI a, M) := by
  have e := m_fw_l (N := N) hd2 hb hp 8 0 N q (by omega) (by omega) hq8
  rw [hT] at e
  exact e
theorem nI_le0 {n : Nat} (h : n < 2 ^ 31) : (¬ nI n ≤ 0) ↔ 0 < n := by
  constructor
  · intro h1
    refine Nat.pos_of_ne_zero fun h2 => h1 ?_
    subst h2
    exact Int32.le_refl _
  · intro h1 h2
    have := (nI_leI (b := 0) h (by omega)).mp h2
    omega
theorem mid_p {nb nl nr tn res s : Nat} {d : Int32} {C R : gq_M} (M : MID nb nl nr tn res C R) (hs : ∀ j, j < 8 → (s.testBit j = true ↔ (0 < cnt (rg 0 nb) (wb (R 19) (R 13) j) ∧ R 4 j = d))) : (∀ j, j < 8 → bit (C 11 j)) ∧ ∀ j, j < 8 → ((¬ C 15 j ≤ 0 ∧ C 11 j = d) ↔ s.testBit j = true) := by
  obtain ⟨Hc, hwait, hr3, hsg, hdn, hne, hop1, hth⟩ := M
  obtain ⟨hnb, hnl, hnr, htn, hda, hop, hdr, hqu, hai, hid, hac, hlk, hla, hks, hkm, hkh, hbg, hbd, hbo, hbl, hbb, hst, hpw, hxb, hxk, hxr, hxs, hxf, hxl, hxc, hxi, hxp, hsu, hmo, hsb, hlo, hlb, hlf, hlh, hld, hlr, hcl⟩ := Hc
  have hb150 := hnb.2.2
  refine ⟨fun j hj => by rw [hid.1 j hj]; exact hid.2 j hj, fun j hj => ?_⟩
  have := cnt_rg 0 nb (wb (R 19) (R 13) j)
  rw [hwait j hj, hid.1 j hj, nI_le0 (by omega), hs j hj]
set_option maxHeartbeats 1000000 in
theorem s_draws {N nb nr tn : Nat} {d : Int32} (hN : 600 ≤ N) (hd2 : bit d) : ∀ (left n8 n9 nl res s : Nat) (C R : gq_M), MID nb nl nr tn res C R → s < 256 → (∀ j, j < 8 → (s.testBit j = true ↔ (0 < cnt (rg 0 nb) (wb (R 19) (R 13) j) ∧ R 4 j = d))) → cnt (rg 0 8) s.testBit = left → left < n8 → left < n9 → ∃ C2 R2 nl2 res2, f_X9_offerBoats_9 N n8 d (nI left) C = some (0, C2) ∧ f_X10_drawsAll_6 N n9 (nI s) R = some (0, R2) ∧ MID nb nl2 nr tn res2 C2 R2 ∧ R2 4 = R 4 ∧ (∀ j, j < 8 → R 4 j = d → cnt (rg 0 nb) (wb (R2 19) (R2 13) j) = 0) ∧ ∀ j, j < 8 → cnt (rg 0 nb) (wb (R 19) (R 13) j) = 0 → cnt (rg 0 nb) (wb (R2 19) (R2 13) j) = 0 := by
  intro left
  induction left with
  | zero =>
    intro n8 n9 nl res s C R M hs hsb hc h8 h9
    obtain ⟨n8, rfl⟩ : ∃ z, n8 = z + 1 := ⟨n8 - 1, by omega⟩
    obtain ⟨n9, rfl⟩ : ∃ z, n9 = z + 1 := ⟨n9 - 1, by omega⟩
    have hz : ∀ j, j < 8 → s.testBit j = false := fun j hj => cnt_0 hc j (rg_m.mpr ⟨Nat.zero_le _, by omega⟩)
    have hs0 := tb_0 s hs hz
    subst hs0
    refine ⟨C, R, nl, res, ?_, ?_, M, rfl, fun j hj hdj => ?_, fun j hj h => h⟩
    · show f_X9_offerBoats_9_b N (f_X9_offerBoats_9 N n8) d (nI 0) C = _
      unfold f_X9_offerBoats_9_b
      rw [if_pos (show nI 0 ≤ 0 from Int32.le_refl _)]
    · show f_X10_drawsAll_6_b N (f_X10_drawsAll_6 N n9) (nI 0) R = _
      unfold f_X10_drawsAll_6_b
      rw [if_pos (show nI 0 = 0 from rfl)]
    · refine Nat.eq_zero_of_not_pos fun hpos => ?_
      have := (hsb j hj).mpr ⟨hpos, hdj⟩
      rw [hz j hj] at this
      cases this
  | succ left ih =>
    intro n8 n9 nl res s C R M hs hsb hc h8 h9
    obtain ⟨n8, rfl⟩ : ∃ z, n8 = z + 1 := ⟨n8 - 1, by omega⟩
    obtain ⟨n9, rfl⟩ : ∃ z, n9 = z + 1 := ⟨n9 - 1, by omega⟩
    have hl8 : left + 1 ≤ 8 := by rw [← hc]; exact cnt_rg 0 8 _
    have hs0 : 0 < s := Nat.pos_of_ne_zero fun h => by
      subst h
      rw [cnt_z (fun b _ => Nat.zero_testBit b)] at hc
      omega
    have hx : C 0 11 = R 0 3 := by
      have H := M.1
      obtain ⟨hnb, hnl, hnr, htn, hda, hop, hdr, hqu, hai, hid, hac, hlk, hla, hks, hkm, hkh, hbg, hbd, hbo, hbl, hbb, hst, hpw, hxb, hxk, hxr, hxs, hxf, hxl, hxc, hxi, hxp, hsu, hmo, hsb, hlo, hlb, hlf, hlh, hld, hlr, hcl⟩ := H
      exact hdr
    obtain ⟨q, hq, eq⟩ := shx_mod (x := R 0 3 * 1103515245 + 12345) (l := left + 1) (by omega) hl8
    have hlen : q < ((rg 0 8).filter s.testBit).length := by
      have : ((rg 0 8).filter s.testBit).length = left + 1 := hc
      omega
    obtain ⟨a, t, hT, haM⟩ := nth_hd hlen
    obtain ⟨ha8, hab⟩ := List.mem_filter.mp haM
    have ha8 : a < 8 := by have := (rg_m.mp ha8).2; omega
    have M1 := mid_x (v := R 0 3 * 1103515245 + 12345) M
    obtain ⟨g1, g2⟩ := mid_p M1 hsb
    have e1 := m_find (N := N) hN hd2 g1 g2 (by omega) hT
    have e2 := r_drawn (N := N) hN hs hc (by omega) eq (by omega) hT
    obtain ⟨C2, R2, nl2, res2, t1, t2, M2, t3, t4, t5⟩ := s_offer (N := N) hN ha8 M1
    have t3' : R2 4 = R 4 := t3
    have t5' : ∀ j, j < 8 → j ≠ a → cnt (rg 0 nb) (wb (R2 19) (R2 13) j) = cnt (rg 0 nb) (wb (R 19) (R 13) j) := t5
    obtain ⟨b1, b2⟩ := tb_cl s hs a ha8 hab
    have hs2 : s - 2 ^ a < 256 := Nat.lt_of_le_of_lt (Nat.sub_le _ _) hs
    have hsb2 : ∀ j, j < 8 → ((s - 2 ^ a).testBit j = true ↔ (0 < cnt (rg 0 nb) (wb (R2 19) (R2 13) j) ∧ R2 4 j = d)) := fun j hj => by
      rw [b2 j hj, t3']
      by_cases hja : j = a
      · subst hja
        rw [t4]
        simp
      · rw [t5' j hj hja, ← hsb j hj]
        simp [hja]
    have hc2 : cnt (rg 0 8) (s - 2 ^ a).testBit = left := by
      have h1 : cnt (rg 0 8) (s - 2 ^ a).testBit = cnt (rg 0 8) (fun j => s.testBit j && decide (j ≠ a)) := cnt_congr fun j hj => b2 j (by have := (rg_m.mp hj).2; omega)
      have h2 := cnt_ch (p := s.testBit) (q := fun j => s.testBit j && decide (j ≠ a)) (j := a) (fun b hb => by simp [hb]) 8 0 (Nat.zero_le _) (by omega)
      rw [← h1, hc, if_pos hab, if_neg (by simp)] at h2
      omega
    obtain ⟨C3, R3, nl3, res3, u1, u2, M3, u3, u4, u5⟩ := ih n8 n9 nl2 res2 (s - 2 ^ a) C2 R2 M2 hs2 hsb2 hc2 (by omega) (by omega)
    refine ⟨C3, R3, nl3, res3, ?_, ?_, M3, u3.trans t3', fun j hj hdj => u4 j hj (by rw [t3']; exact hdj), fun j hj h => u5 j hj ?_⟩
    · show f_X9_offerBoats_9_b N (f_X9_offerBoats_9 N n8) d (nI (left + 1)) C = _
      unfold f_X9_offerBoats_9_b
      rw [if_neg ((nI_le0 (by omega)).mpr (by omega)), gq_l_e, show (gq_up C 0 11 (C 0 11 * 1103515245 + 12345)) 0 11 = C 0 11 * 1103515245 + 12345 from rfl, gq_l_e, nz_nI (by omega) (by omega), hx]
      unfold shx at eq
      rw [eq, e1, gq_b_s, t1, gq_b_s, show nI (left + 1) + -1 = nI left from (Int32.sub_eq_add_neg _ _).symm.trans (nI_pred left)]
      exact u1
    · show f_X10_drawsAll_6_b N (f_X10_drawsAll_6 N n9) (nI s) R = _
      unfold f_X10_drawsAll_6_b
      rw [if_neg (nI_ne0 hs0 (by omega)), e2, gq_b_s, t2, gq_b_s, b1]
      exact u2
    · by_cases hja : j = a
      · subst hja; exact t4
      · rw [t5' j hj hja]; exact h
theorem s_pass {N nb nl nr tn res : Nat} {d : Int32} {C R : gq_M} (hN : 600 ≤ N) (hd2 : bit d) (M : MID nb nl nr tn res C R) : ∃ C2 R2 nl2 res2, f_X9_offerBoats N d C = some (0, C2) ∧ f_X10_drawsAll N d R = some (0, R2) ∧ MID nb nl2 nr tn res2 C2 R2 ∧ R2 4 = R 4 ∧ (∀ j, j < 8 → R 4 j = d → cnt (rg 0 nb) (wb (R2 19) (R2 13) j) = 0) ∧ ∀ j, j < 8 → cnt (rg 0 nb) (wb (R 19) (R 13) j) = 0 → cnt (rg 0 nb) (wb (R2 19) (R2 13) j) = 0 := by
  have hnb := core_nb M.1
  have hb := hnb.2.2
  have hbo : ∀ b, b < nb → rng 0 7 (R 13 b) := by
    have H := M.1
    obtain ⟨hnb, hnl, hnr, htn, hda, hop, hdr, hqu, hai, hid, hac, hlk, hla, hks, hkm, hkh, hbg, hbd, hbo, hbl, hbb, hst, hpw, hxb, hxk, hxr, hxs, hxf, hxl, hxc, hxi, hxp, hsu, hmo, hsb, hlo, hlb, hlf, hlh, hld, hlr, hcl⟩ := H
    exact hxb.2
  obtain ⟨s, e1, e2, e3⟩ := r_ready (N := N) (d := d) hN hnb.2.1 hb hbo
  obtain ⟨g1, g2⟩ := mid_p M e3
  have hl8 : cnt (rg 0 8) s.testBit ≤ 8 := cnt_rg 0 8 _
  have e4 := m_cw_l (N := N) hd2 g1 g2 8 0 N 0 (by omega) (by omega)
  obtain ⟨C2, R2, nl2, res2, t1, t2, t3⟩ := s_draws (N := N) hN hd2 (cnt (rg 0 8) s.testBit) N N nl res s C R M e2 e3 rfl (by omega) (by omega)
  refine ⟨C2, R2, nl2, res2, ?_, ?_, t3⟩
  · unfold f_X9_offerBoats
    have e5 : f_X0_countWaiting N d C = some (nI (cnt (rg 0 8) s.testBit), C) := by
      rw [Int32.zero_add] at e4
      exact e4
    rw [e5, gq_b_s]
    exact t1
  · unfold f_X10_drawsAll
    rw [e1, gq_b_s]
    exact t2

