/-! pure: boxes that change their state -/
def CORE (nb nl nr tn : Nat) (C R : gq_M) : Prop := (C 34 13 = nI nb ∧ R 0 16 = nI nb ∧ nb ≤ 150) ∧ (C 61 7 = nI nl ∧ R 0 31 = nI nl ∧ nl ≤ nb) ∧ (C 100 4 = nI nr ∧ R 0 49 = nI nr ∧ nr ≤ 20) ∧ (C 0 8 = nI tn ∧ R 0 0 = nI tn ∧ tn ≤ 100000) ∧ (C 0 9 = R 0 1) ∧ (C 0 10 = R 0 2 ∧ bit (R 0 2)) ∧ (C 0 11 = R 0 3) ∧ (eqR 32 (C 3) (R 1)) ∧ (eqR 8 (C 9) (R 3)) ∧ (eqR 8 (C 11) (R 4) ∧ bits 8 (R 4)) ∧ (eqR 8 (C 13) (R 5)) ∧ (eqR 32 (C 5) (R 2)) ∧ (K_ld (C 7) (R 2)) ∧ (eqR 4 (C 18) (R 6) ∧ rngs 4 1 10000 (R 6)) ∧ (eqR 4 (C 20) (R 7) ∧ rngs 4 1 10000 (R 7)) ∧ (eqR 4 (C 22) (R 8) ∧ rngs 4 0 2 (R 8)) ∧ (eqR 8 (C 25) (R 9)) ∧ (eqR 8 (C 27) (R 10) ∧ rngs 8 1 9 (R 10)) ∧ (eqR 8 (C 29) (R 11)) ∧ (eqR 8 (C 33) (R 12) ∧ bits 8 (R 12)) ∧ (K_bg nb (C 31) (R 21)) ∧ (eqR 3 (C 90) (R 33) ∧ rngs 3 1 500 (R 33)) ∧ (eqR 3 (C 92) (R 34) ∧ bits 3 (R 34)) ∧ (eqR nb (C 36) (R 13) ∧ rngs nb 0 7 (R 13)) ∧ (eqR nb (C 40) (R 17) ∧ rngs nb 1 100 (R 17)) ∧ (eqR nb (C 42) (R 18) ∧ rngs nb 1 100 (R 18)) ∧ (eqR nb (C 44) (R 19) ∧ rngs nb 0 7 (R 19)) ∧ (K_rk nb (C 38) (R 14) (R 15) (R 16)) ∧ (eqR nb (C 46) (R 26) ∧ ∀ b, nb ≤ b → b < 150 → C 46 b = -1) ∧ (eqR nb (C 56) (R 20) ∧ bits 150 (R 20) ∧ ∀ b, nb ≤ b → b < 150 → C 56 b = 0 ∧ R 20 b = 0) ∧ (eqR nb (C 58) (R 25) ∧ bits 150 (R 25) ∧ ∀ b, nb ≤ b → b < 150 → C 58 b = 0 ∧ R 25 b = 0) ∧ (K_sale nb tn (C 48) (R 21) (C 50) (R 22) (C 52) (R 23) (C 54) (R 24)) ∧ (K_sum nb (C 60) (R 19) (R 17)) ∧ (K_mon nb (R 5) (R 19) (R 25)) ∧ (K_sb nb (R 21) (R 19)) ∧ (eqR nr (C 102) (R 44) ∧ eqR nr (C 104) (R 45) ∧ eqR nr (C 106) (R 46) ∧ eqR nr (C 108) (R 47) ∧ ∀ j, nr ≤ j → j < 20 → C 108 j = -1) ∧ (eqR nl (C 63) (R 27)) ∧ (K_rk nl (C 65) (R 28) (R 29) (R 30)) ∧ (eqR nl (C 67) (R 31) ∧ rngs nl 0 2 (R 31)) ∧ (bits 150 (R 32)) ∧ (∀ b, b < nb → R 26 b = -1 ∨ ∃ l, l < nl ∧ R 26 b = nI l) ∧ (R 0 2 = 0 → nl = 0 ∧ C 61 8 = 0)
theorem inv_core {C R : gq_M} (H : INV C R) : ∃ nb nl nr tn, CORE nb nl nr tn C R ∧ (∀ j, j < 8 → C 15 j = 0) ∧ K_seg nb nl (C 69) (C 71) (C 73) (R 26) (R 19) ∧ ∀ h, h < 3 → K_hall h nb nl tn C R := by
  obtain ⟨nb, nl, nr, tn, hnb, hnl, hnr, htn, hda, hop, hdr, hqu, hai, hid, hac, hlk, hla, hwt, hks, hkm, hkh, hbg, hbd, hbo, hbl, hbb, hst, hpw, hxb, hxk, hxr, hxs, hxf, hxl, hxc, hxi, hxp, hsu, hmo, hsb, hlo, hlb, hlf, hlh, hld, hsg, hlr, hcl, hhl⟩ := H
  exact ⟨nb, nl, nr, tn, ⟨hnb, hnl, hnr, htn, hda, hop, hdr, hqu, hai, hid, hac, hlk, hla, hks, hkm, hkh, hbg, hbd, hbo, hbl, hbb, hst, hpw, hxb, hxk, hxr, hxs, hxf, hxl, hxc, hxi, hxp, hsu, hmo, hsb, hlo, hlb, hlf, hlh, hld, hlr, hcl⟩, hwt, hsg, hhl⟩
theorem core_inv {C R : gq_M} {nb nl nr tn : Nat} (H : CORE nb nl nr tn C R) (hwt : ∀ j, j < 8 → C 15 j = 0) (hsg : K_seg nb nl (C 69) (C 71) (C 73) (R 26) (R 19)) (hhl : ∀ h, h < 3 → K_hall h nb nl tn C R) : INV C R := by
  obtain ⟨hnb, hnl, hnr, htn, hda, hop, hdr, hqu, hai, hid, hac, hlk, hla, hks, hkm, hkh, hbg, hbd, hbo, hbl, hbb, hst, hpw, hxb, hxk, hxr, hxs, hxf, hxl, hxc, hxi, hxp, hsu, hmo, hsb, hlo, hlb, hlf, hlh, hld, hlr, hcl⟩ := H
  exact ⟨nb, nl, nr, tn, hnb, hnl, hnr, htn, hda, hop, hdr, hqu, hai, hid, hac, hlk, hla, hwt, hks, hkm, hkh, hbg, hbd, hbo, hbl, hbb, hst, hpw, hxb, hxk, hxr, hxs, hxf, hxl, hxc, hxi, hxp, hsu, hmo, hsb, hlo, hlb, hlf, hlh, hld, hsg, hlr, hcl, hhl⟩
def fr (L : List Nat) (M M2 : gq_M) : Prop := ∀ a, a ∉ L → M2 a = M a
theorem fr_rf (L : List Nat) (M : gq_M) : fr L M M := fun _ _ => rfl
theorem fr_tr {L : List Nat} {M M2 M3 : gq_M} (h : fr L M M2) (h2 : fr L M2 M3) : fr L M M3 := fun a ha => (h2 a ha).trans (h a ha)
theorem fr_up {L : List Nat} {M M2 : gq_M} {k j : Nat} {v : Int32} (h : fr L M M2) (hk : k ∈ L) : fr L M (gq_up M2 k j v) := fun a ha => (up_ne (k := k) (a := a) (fun hh => ha (by rw [hh]; exact hk))).trans (h a ha)
theorem fr_sub {L L2 : List Nat} {M M2 : gq_M} (h : fr L M M2) (hs : ∀ a, a ∈ L → a ∈ L2) : fr L2 M M2 := fun a ha => h a (fun hh => ha (hs a hh))
theorem b_sumOf2 {β : Type} {N : Nat} {M : gq_M} {F : Int32 → gq_M → Option β} : gq_b (f_X1_sumOf N 2 M) F = F (nI 5) M := rfl
theorem b_sumOf3 {β : Type} {N : Nat} {M : gq_M} {F : Int32 → gq_M → Option β} : gq_b (f_X1_sumOf N 3 M) F = F (nI 1) M := rfl
theorem b_sumOf4 {β : Type} {N : Nat} {M : gq_M} {F : Int32 → gq_M → Option β} : gq_b (f_X1_sumOf N 4 M) F = F (nI 1) M := rfl
theorem b_sumOf5 {β : Type} {N : Nat} {M : gq_M} {F : Int32 → gq_M → Option β} : gq_b (f_X1_sumOf N 5 M) F = F (nI 2) M := rfl
theorem b_sumOf6 {β : Type} {N : Nat} {M : gq_M} {F : Int32 → gq_M → Option β} : gq_b (f_X1_sumOf N 6 M) F = F (nI 5) M := rfl
theorem b_sumOf7 {β : Type} {N : Nat} {M : gq_M} {F : Int32 → gq_M → Option β} : gq_b (f_X1_sumOf N 7 M) F = F (nI 3) M := rfl
theorem b_sumOf' {β : Type} {N : Nat} {M : gq_M} {v : Int32} {F : Int32 → gq_M → Option β} (h : rng 0 7 v) : gq_b (f_X1_sumOf N v M) F = F (nI (smN v)) M := by rw [m_sumOf' h]; rfl
theorem K_sum_mv {nb b u w : Nat} {c st ki : Nat → Int32} {v : Int32} (h : K_sum nb c st ki) (hb : b < nb) (e0 : smN (st b) = u) (e1 : smN v = w) : K_sum nb (upd (upd c u (c u + -(ki b))) w (upd c u (c u + -(ki b)) w + ki b)) (upd st b v) ki := by
  intro x hx
  have hu := smN_lt (st b)
  have hw := smN_lt v
  have e : lsum (rg 0 nb) (fun j => if inS (upd st b v j) x = true then ki j else 0) = lsum (rg 0 nb) (upd (fun j => if inS (st j) x = true then ki j else 0) b (if inS v x = true then ki b else 0)) := lsum_congr fun j _ => by
    by_cases hj : j = b
    · subst hj; rw [upd_s, upd_s]
    · rw [upd_n hj, upd_n hj]
  rw [e, lsum_upd nb 0 (Nat.zero_le _) (by omega), ← h x hx]
  unfold inS
  by_cases h0 : x = 0
  · subst h0
    rw [upd_n (by omega), upd_n (by omega)]
    simp
  · by_cases h1 : x = w
    · subst h1
      rw [upd_s]
      by_cases h2 : u = x
      · subst h2
        rw [upd_s]
        simp [e0, e1, h0]
        grind
      · rw [upd_n (by omega)]
        simp [e0, e1, h0, h2]
    · rw [upd_n h1]
      by_cases h2 : x = u
      · subst h2
        rw [upd_s]
        have g1 : ¬ w = x := fun hh => h1 hh.symm
        simp [e0, e1, h0, g1]
        grind
      · rw [upd_n h2]
        have g1 : ¬ w = x := fun hh => h1 hh.symm
        have g2 : ¬ u = x := fun hh => h2 hh.symm
        simp [e0, e1, h0, g1, g2]
theorem K_rk_carry {n b : Nat} {c k s f : Nat → Int32} (h : K_rk n c k s f) (hb : b < n) (hf : ¬ f b ≤ 1) : K_rk n (upd c b (c b + 1)) k s (upd f b (f b - 1)) := by
  intro j hj
  by_cases hh : j = b
  · subst hh
    obtain ⟨x, y, z, h1, h2, h3, h4, e1, e2, e3, e4⟩ := h j hj
    have hz : ¬ z ≤ 1 := fun hz => hf (by rw [e3]; exact nI_le (b := 1) hz (by omega))
    refine ⟨x, y, z - 1, h1, h2, by omega, by omega, e1, e2, ?_, ?_⟩
    · rw [upd_s, e3, show (1 : Int32) = nI 1 from rfl, nI_sub (by omega)]
    · rw [upd_s, e4, nI_1]
      congr 1
      omega
  · rw [upd_n hh, upd_n hh]; exact h j hj
theorem cnt_isd {nb b : Nat} {st : Nat → Int32} {v w : Int32} (hb : b < nb) (e0 : st b = w) (h0 : isSd w = isSd v) : (cnt (rg 0 nb) fun b => isSd (st b)) ≤ cnt (rg 0 nb) fun j => isSd (upd st b v j) := by
  have h := cnt_upd (f := st) (v := v) isSd hb
  rw [e0, h0] at h
  omega
theorem cnt_isd1 {nb b : Nat} {st : Nat → Int32} {v w : Int32} (hb : b < nb) (e0 : st b = w) (h0 : isSd w = false) (h1 : isSd v = true) : (cnt (rg 0 nb) fun b => isSd (st b)) + 1 ≤ cnt (rg 0 nb) fun j => isSd (upd st b v j) := by
  have h := cnt_upd (f := st) (v := v) isSd hb
  rw [e0, h0, h1, if_pos rfl, if_neg (by decide)] at h
  omega
theorem K_sb_st {nb b : Nat} {bu st : Nat → Int32} {v : Int32} (h : K_sb nb bu st) (h3 : st b ≠ 3) (h4 : st b ≠ 4) : K_sb nb bu (upd st b v) := by
  intro j hj
  by_cases hh : j = b
  · subst hh
    rcases h j hj with h | h | h
    · exact Or.inl h
    · exact absurd h h3
    · exact absurd h h4
  · rw [upd_n hh]; exact h j hj
abbrev fwC : List Nat := [9, 13, 44, 60, 56, 38]
abbrev fwR : List Nat := [3, 5, 16, 19, 20]

def WOUT (b nb nl nr tn : Nat) (C R : gq_M) (c r : Option (Int32 × gq_M)) : Prop := ∃ (C2 R2 : gq_M) (v : Int32), c = some (0, C2) ∧ r = some (0, R2) ∧ CORE nb nl nr tn C2 R2 ∧ v ≠ 2 ∧ R2 19 = upd (R 19) b v ∧ fr fwC C C2 ∧ fr fwR R R2
set_option maxHeartbeats 1000000 in
theorem s_withdraw {N b nb nl nr tn : Nat} {C R : gq_M} (H : CORE nb nl nr tn C R) (hb : b < nb) (hs : R 19 b = 2) : WOUT b nb nl nr tn C R (f_X9_withdraw N (nI b) C) (f_X10_withdraws N (nI b) R) := by
  obtain ⟨hnb, hnl, hnr, htn, hda, hop, hdr, hqu, hai, hid, hac, hlk, hla, hks, hkm, hkh, hbg, hbd, hbo, hbl, hbb, hst, hpw, hxb, hxk, hxr, hxs, hxf, hxl, hxc, hxi, hxp, hsu, hmo, hsb, hlo, hlb, hlf, hlh, hld, hlr, hcl⟩ := H
  have hb150 := hnb.2.2
  obtain ⟨g, -, hg8, hg⟩ := hxb.2 b hb
  have hgC : C 36 b = nI g := (hxb.1 b hb).trans hg
  have hsC : C 44 b = 2 := (hxs.1 b hb).trans hs
  have hk := hxk.1 b hb
  have haC := hai g (by omega)
  have hcC := hac g (by omega)
  have hwC := hxc.1 b hb
  have hfr := (rk_k hxf hb).2.2
  by_cases c1 : R 3 g < R 17 b
  · by_cases c2 : R 20 b = 0
    · by_cases c3 : R 16 b ≤ 1
      · skip

        simp (disch := omega) only [f_X9_withdraw, f_X10_withdraws_120, f_X10_withdraws, f_X1_move, f_X1_canBeCarried_31, f_X1_canBeCarried_30, f_X1_canBeCarried, f_X1_freshOf, f_X1_age, ↓m_exist, ↓m_beIn, ↓m_hold, e8a, e8b, e4a, e4b, e3a, e3b, ↓b_isEight, ↓b_isKind, ↓b_isHall, ↓b_areCents, ↓b_isBox, ↓b_isIn, ↓b_fails, ↓gq_b_s, ↓gq_l_e, ↓b_atN, ↓b_putN, ↓b_addN, ↓b_swapN, ↓g_inN, b_atN, b_putN, b_addN, b_swapN, g_inN, ↓g_bb0, ↓g_bb1, ↓g_bbI, bI_z, Classical.not_not, ↓reduceIte, not_true_eq_false, not_false_eq_true, f01, f02, f03, f00, ite_not, ite_self, and_self, nI_clamp, pl4, pl4b, pl8, pl8b, thr_r, thr_s, c1, c2, c3, hs, hsC, hk, hg, hgC, haC, hcC, hwC, hfr, b_sumOf2, b_sumOf5, b_sumOf6, b_sumOf7, up_ne, ne_eq, Nat.reduceEqDiff, up_row, f10]
        exact ⟨_, _, 7, rfl, rfl, ⟨hnb, hnl, hnr, htn, hda, hop, hdr, hqu, hai, hid, hac, hlk, hla, hks, hkm, hkh, hbg, hbd, hbo, hbl, hbb, hst, hpw, hxb, hxk, hxr, ⟨eqR_up hxs.1, rngs_up hxs.2 ⟨7, by omega, by omega, rfl⟩⟩, hxf, hxl, hxc, hxi, hxp, (K_sum_mv (u := 5) (w := 3) hsu hb (by rw [hs]; rfl) rfl), (mon_same hmo (cnt_isd hb hs rfl) (Nat.le_refl _)), (K_sb_st hsb (by rw [hs]; decide) (by rw [hs]; decide)), hlo, hlb, hlf, hlh, hld, hlr, hcl⟩, by decide, rfl, (fr_up (fr_up (fr_up (fr_rf _ _) (by decide)) (by decide)) (by decide)), (fr_up (fr_rf _ _) (by decide))⟩
      · skip

        simp (disch := omega) only [f_X9_withdraw, f_X10_withdraws_120, f_X10_withdraws, f_X1_move, f_X1_canBeCarried_31, f_X1_canBeCarried_30, f_X1_canBeCarried, f_X1_freshOf, f_X1_age, ↓m_exist, ↓m_beIn, ↓m_hold, e8a, e8b, e4a, e4b, e3a, e3b, ↓b_isEight, ↓b_isKind, ↓b_isHall, ↓b_areCents, ↓b_isBox, ↓b_isIn, ↓b_fails, ↓gq_b_s, ↓gq_l_e, ↓b_atN, ↓b_putN, ↓b_addN, ↓b_swapN, ↓g_inN, b_atN, b_putN, b_addN, b_swapN, g_inN, ↓g_bb0, ↓g_bb1, ↓g_bbI, bI_z, Classical.not_not, ↓reduceIte, not_true_eq_false, not_false_eq_true, f01, f02, f03, f00, ite_not, ite_self, and_self, nI_clamp, pl4, pl4b, pl8, pl8b, thr_r, thr_s, c1, c2, c3, hs, hsC, hk, hg, hgC, haC, hcC, hwC, hfr, b_sumOf2, b_sumOf5, b_sumOf6, b_sumOf7, up_ne, ne_eq, Nat.reduceEqDiff, up_row, f10]
        exact ⟨_, _, 6, rfl, rfl, ⟨hnb, hnl, hnr, htn, hda, hop, hdr, hqu, hai, hid, hac, hlk, hla, hks, hkm, hkh, hbg, hbd, hbo, hbl, hbb, hst, hpw, hxb, hxk, hxr, ⟨eqR_up hxs.1, rngs_up hxs.2 ⟨6, by omega, by omega, rfl⟩⟩, (K_rk_carry hxf hb c3), hxl, ⟨eqR_up hxc.1, bits_up hxc.2.1 (Or.inr rfl), fun b2 g1 g2 => ⟨(upd_n (by omega)).trans (hxc.2.2 b2 g1 g2).1, (upd_n (by omega)).trans (hxc.2.2 b2 g1 g2).2⟩⟩, hxi, hxp, (K_sum_mv (u := 5) (w := 5) hsu hb (by rw [hs]; rfl) rfl), (mon_same hmo (cnt_isd hb hs rfl) (Nat.le_refl _)), (K_sb_st hsb (by rw [hs]; decide) (by rw [hs]; decide)), hlo, hlb, hlf, hlh, hld, hlr, hcl⟩, by decide, rfl, (fr_up (fr_up (fr_up (fr_up (fr_up (fr_rf _ _) (by decide)) (by decide)) (by decide)) (by decide)) (by decide)), (fr_up (fr_up (fr_up (fr_rf _ _) (by decide)) (by decide)) (by decide))⟩
    · skip

      simp (disch := omega) only [f_X9_withdraw, f_X10_withdraws_120, f_X10_withdraws, f_X1_move, f_X1_canBeCarried_31, f_X1_canBeCarried_30, f_X1_canBeCarried, f_X1_freshOf, f_X1_age, ↓m_exist, ↓m_beIn, ↓m_hold, e8a, e8b, e4a, e4b, e3a, e3b, ↓b_isEight, ↓b_isKind, ↓b_isHall, ↓b_areCents, ↓b_isBox, ↓b_isIn, ↓b_fails, ↓gq_b_s, ↓gq_l_e, ↓b_atN, ↓b_putN, ↓b_addN, ↓b_swapN, ↓g_inN, b_atN, b_putN, b_addN, b_swapN, g_inN, ↓g_bb0, ↓g_bb1, ↓g_bbI, bI_z, Classical.not_not, ↓reduceIte, not_true_eq_false, not_false_eq_true, f01, f02, f03, f00, ite_not, ite_self, and_self, nI_clamp, pl4, pl4b, pl8, pl8b, thr_r, thr_s, c1, c2, hs, hsC, hk, hg, hgC, haC, hcC, hwC, hfr, b_sumOf2, b_sumOf5, b_sumOf6, b_sumOf7, up_ne, ne_eq, Nat.reduceEqDiff, up_row, f10]
      exact ⟨_, _, 7, rfl, rfl, ⟨hnb, hnl, hnr, htn, hda, hop, hdr, hqu, hai, hid, hac, hlk, hla, hks, hkm, hkh, hbg, hbd, hbo, hbl, hbb, hst, hpw, hxb, hxk, hxr, ⟨eqR_up hxs.1, rngs_up hxs.2 ⟨7, by omega, by omega, rfl⟩⟩, hxf, hxl, hxc, hxi, hxp, (K_sum_mv (u := 5) (w := 3) hsu hb (by rw [hs]; rfl) rfl), (mon_same hmo (cnt_isd hb hs rfl) (Nat.le_refl _)), (K_sb_st hsb (by rw [hs]; decide) (by rw [hs]; decide)), hlo, hlb, hlf, hlh, hld, hlr, hcl⟩, by decide, rfl, (fr_up (fr_up (fr_up (fr_rf _ _) (by decide)) (by decide)) (by decide)), (fr_up (fr_rf _ _) (by decide))⟩
  · obtain ⟨k, hk1, hk2, hkk⟩ := hxk.2 b hb
    have hd : (20 * R 17 b).toInt = 20 * k := by
      rw [hkk, show (20 : Int32) = nI 20 from rfl, nI_mul, nI_toInt (by omega)]
      omega
    have hm : K_mon nb (upd (R 5) g (R 5 g + 20 * R 17 b)) (upd (R 19) b 5) (R 25) := mon_upd (s := 1) (c := 0) hmo hb150 (cnt_isd1 hb hs rfl rfl) (Nat.le_refl _) (by omega) (by omega)

    simp (disch := omega) only [f_X9_withdraw, f_X10_withdraws_120, f_X10_withdraws, f_X1_move, f_X1_canBeCarried_31, f_X1_canBeCarried_30, f_X1_canBeCarried, f_X1_freshOf, f_X1_age, ↓m_exist, ↓m_beIn, ↓m_hold, e8a, e8b, e4a, e4b, e3a, e3b, ↓b_isEight, ↓b_isKind, ↓b_isHall, ↓b_areCents, ↓b_isBox, ↓b_isIn, ↓b_fails, ↓gq_b_s, ↓gq_l_e, ↓b_atN, ↓b_putN, ↓b_addN, ↓b_swapN, ↓g_inN, b_atN, b_putN, b_addN, b_swapN, g_inN, ↓g_bb0, ↓g_bb1, ↓g_bbI, bI_z, Classical.not_not, ↓reduceIte, not_true_eq_false, not_false_eq_true, f01, f02, f03, f00, ite_not, ite_self, and_self, nI_clamp, pl4, pl4b, pl8, pl8b, thr_r, thr_s, c1, hs, hsC, hk, hg, hgC, haC, hcC, hwC, hfr, b_sumOf2, b_sumOf5, b_sumOf6, b_sumOf7, up_ne, ne_eq, Nat.reduceEqDiff, up_row, f10]
    exact ⟨_, _, 5, rfl, rfl, ⟨hnb, hnl, hnr, htn, hda, hop, hdr, hqu, (eqR_upv hai (Int32.sub_eq_add_neg _ _).symm), hid, (eqR_upv hac (congrArg (fun x => R 5 g + x) (Int32.mul_comm _ _))), hlk, hla, hks, hkm, hkh, hbg, hbd, hbo, hbl, hbb, hst, hpw, hxb, hxk, hxr, ⟨eqR_up hxs.1, rngs_up hxs.2 ⟨5, by omega, by omega, rfl⟩⟩, hxf, hxl, hxc, hxi, hxp, (K_sum_mv (u := 5) (w := 2) hsu hb (by rw [hs]; rfl) rfl), hm, (K_sb_st hsb (by rw [hs]; decide) (by rw [hs]; decide)), hlo, hlb, hlf, hlh, hld, hlr, hcl⟩, by decide, rfl, (fr_up (fr_up (fr_up (fr_up (fr_up (fr_rf _ _) (by decide)) (by decide)) (by decide)) (by decide)) (by decide)), (fr_up (fr_up (fr_up (fr_rf _ _) (by decide)) (by decide)) (by decide))⟩
