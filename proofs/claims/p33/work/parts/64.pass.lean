/-! pure: a tick, pass -/
theorem s_lorries {N nb nl nr tn : Nat} (hN : 600 ≤ N) : ∀ (k i n8 n9 : Nat) (C R : gq_M), INVd nb nl nr tn C R → i + k = nr → k < n8 → k < n9 → TOUT nb nl nr tn R (f_X9_sendLorries_2 N n8 (nI i) C) (f_X10_passes_81 N n9 (nI i) R) := by
  intro k
  induction k with
  | zero =>
    intro i n8 n9 C R I hi h8 h9
    obtain ⟨n8, rfl⟩ : ∃ z, n8 = z + 1 := ⟨n8 - 1, by omega⟩
    obtain ⟨n9, rfl⟩ : ∃ z, n9 = z + 1 := ⟨n9 - 1, by omega⟩
    have hnr := core_nr I.1
    have hr := hnr.2.2
    have he : nr ≤ i := by omega
    refine ⟨C, R, ?_, ?_, I, rfl⟩
    · show f_X9_sendLorries_2_b N (f_X9_sendLorries_2 N n8) (nI i) C = _
      unfold f_X9_sendLorries_2_b
      simp (disch := omega) only [hnr.1, nI_leI, he, ↓reduceIte]
    · show f_X10_passes_81_b N (f_X10_passes_81 N n9) (nI i) R = _
      unfold f_X10_passes_81_b
      simp (disch := omega) only [hnr.2.1, nI_leI, he, ↓reduceIte]
  | succ k ih =>
    intro i n8 n9 C R I hi h8 h9
    obtain ⟨n8, rfl⟩ : ∃ z, n8 = z + 1 := ⟨n8 - 1, by omega⟩
    obtain ⟨n9, rfl⟩ : ∃ z, n9 = z + 1 := ⟨n9 - 1, by omega⟩
    have hnr := core_nr I.1
    have htn := core_tn I.1
    have hr := hnr.2.2
    have he : ¬ nr ≤ i := by omega
    have ht : C 104 i = R 45 i := by
      obtain ⟨H, -⟩ := I
      obtain ⟨hnb, hnl, -, -, hda, hop, hdr, hqu, hai, hid, hac, hlk, hla, hks, hkm, hkh, hbg, hbd, hbo, hbl, hbb, hst, hpw, hxb, hxk, hxr, hxs, hxf, hxl, hxc, hxi, hxp, hsu, hmo, hsb, hlo, hlb, hlf, hlh, hld, hlr, hcl⟩ := H
      exact hlo.2.1 i (by omega)
    show TOUT nb nl nr tn R (f_X9_sendLorries_2_b N (f_X9_sendLorries_2 N n8) (nI i) C) (f_X10_passes_81_b N (f_X10_passes_81 N n9) (nI i) R)
    unfold f_X9_sendLorries_2_b f_X10_passes_81_b f_X9_sendLorries_36 f_X10_passes_107
    by_cases c : R 45 i = nI tn
    · obtain ⟨C1, R1, e1, e2, I1, e3⟩ := s_fetch (N := N) I hN (li := i) (by omega)
      simp (disch := omega) only [hnr.1, hnr.2.1, nI_leI, he, ↓reduceIte, ↓b_atN, ↓g_inN, ↓gq_l_e, nI_clamp, ht, htn.1, htn.2.1, eq_true c, e1, e2, ↓gq_b_s, nI_1]
      obtain ⟨C2, R2, t1, t2, I2, t3⟩ := ih (i + 1) n8 n9 C1 R1 I1 (by omega) (by omega) (by omega)
      exact ⟨C2, R2, t1, t2, I2, t3.trans e3⟩
    · simp (disch := omega) only [hnr.1, hnr.2.1, nI_leI, he, ↓reduceIte, ↓b_atN, ↓g_inN, ↓gq_l_e, nI_clamp, ht, htn.1, htn.2.1, eq_false c, nI_1]
      exact ih (i + 1) n8 n9 C R I (by omega) (by omega) (by omega)
theorem hall_st {h nb nl tn : Nat} {C R : gq_M} (k : K_hall h nb nl tn C R) : R 35 h = 0 ∨ R 35 h = 1 ∨ R 35 h = 2 ∨ R 35 h = 3 := by
  obtain ⟨-, -, -, -, -, -, k7⟩ := k
  rcases k7 with ⟨q1, -⟩ | ⟨a, p, -, -, -, -, -, -, -, ⟨w1, -⟩ | ⟨w1, -⟩ | ⟨w1, -⟩⟩
  · exact Or.inl q1
  · exact Or.inr (Or.inl w1)
  · exact Or.inr (Or.inr (Or.inl w1))
  · exact Or.inr (Or.inr (Or.inr w1))
theorem s_halls {N nb nl nr tn : Nat} (hN : 600 ≤ N) : ∀ (k i n8 n9 : Nat) (C R : gq_M), INVd nb nl nr tn C R → i + k = 3 → k < n8 → k < n9 → ∃ C2 R2, f_X9_tickHalls_2 N n8 (nI i) C = some (0, C2) ∧ f_X10_passes_12 N n9 (nI i) R = f_X10_passes_81 N N 0 R2 ∧ INVd nb nl nr tn C2 R2 ∧ R2 0 54 = R 0 54 := by
  intro k
  induction k with
  | zero =>
    intro i n8 n9 C R I hi h8 h9
    obtain ⟨n8, rfl⟩ : ∃ z, n8 = z + 1 := ⟨n8 - 1, by omega⟩
    obtain ⟨n9, rfl⟩ : ∃ z, n9 = z + 1 := ⟨n9 - 1, by omega⟩
    obtain rfl : i = 3 := by omega
    refine ⟨C, R, ?_, ?_, I, rfl⟩
    · show f_X9_tickHalls_2_b N (f_X9_tickHalls_2 N n8) (nI 3) C = _
      unfold f_X9_tickHalls_2_b
      rw [if_pos (show (3 : Int32) ≤ nI 3 by decide)]
    · show f_X10_passes_12_b N (f_X10_passes_12 N n9) (nI 3) R = _
      unfold f_X10_passes_12_b
      rw [if_pos (show (3 : Int32) ≤ nI 3 by decide)]
  | succ k ih =>
    intro i n8 n9 C R I hi h8 h9
    obtain ⟨n8, rfl⟩ : ∃ z, n8 = z + 1 := ⟨n8 - 1, by omega⟩
    obtain ⟨n9, rfl⟩ : ∃ z, n9 = z + 1 := ⟨n9 - 1, by omega⟩
    have hi3 : i < 3 := by omega
    have he : ¬ (3 : Int32) ≤ nI i := fun h2 => by have := (nI_leI (a := 3) (by omega) (by omega)).mp h2; omega
    have hpw : C 92 i = R 34 i ∧ bit (R 34 i) := by
      obtain ⟨H, -⟩ := I
      obtain ⟨hnb, hnl, hnr, htn, hda, hop, hdr, hqu, hai, hid, hac, hlk, hla, hks, hkm, hkh, hbg, hbd, hbo, hbl, hbb, hst, hpw, hxb, hxk, hxr, hxs, hxf, hxl, hxc, hxi, hxp, hsu, hmo, hsb, hlo, hlb, hlf, hlh, hld, hlr, hcl⟩ := H
      exact ⟨hpw.1 i hi3, hpw.2 i hi3⟩
    have hst := (I.2.2.2 i hi3).1
    have fin : ∀ C1 R1, INVd nb nl nr tn C1 R1 → R1 0 54 = R 0 54 → ∃ C2 R2, f_X9_tickHalls_2 N n8 (nI (i + 1)) C1 = some (0, C2) ∧ f_X10_passes_12 N n9 (nI (i + 1)) R1 = f_X10_passes_81 N N 0 R2 ∧ INVd nb nl nr tn C2 R2 ∧ R2 0 54 = R 0 54 := fun C1 R1 I1 e => by
      obtain ⟨C2, R2, t1, t2, I2, t3⟩ := ih (i + 1) n8 n9 C1 R1 I1 (by omega) (by omega) (by omega)
      exact ⟨C2, R2, t1, t2, I2, t3.trans e⟩
    show ∃ C2 R2, f_X9_tickHalls_2_b N (f_X9_tickHalls_2 N n8) (nI i) C = _ ∧ f_X10_passes_12_b N (f_X10_passes_12 N n9) (nI i) R = _ ∧ _
    unfold f_X9_tickHalls_2_b f_X10_passes_12_b f_X9_tickHalls_84 f_X10_passes_36 f_X10_passes_73
    rcases hpw.2 with hp | hp
    · simp (disch := omega) only [he, ↓reduceIte, ↓b_atN, ↓g_inN, ↓gq_l_e, nI_clamp, hpw.1, hp, f01b, d02, d03, nI_1]
      exact fin C R I rfl
    · rcases hall_st (I.2.2.2 i hi3) with hc | hc | hc | hc
      · simp (disch := omega) only [he, ↓reduceIte, ↓b_atN, ↓g_inN, ↓gq_l_e, nI_clamp, hpw.1, hp, hst, hc, f10, f01b, d02, d03, nI_1]
        exact fin C R I rfl
      · obtain ⟨C1, R1, e1, e2, I1, e3⟩ := s_falling (N := N) I hN hi3 hc
        simp (disch := omega) only [he, ↓reduceIte, ↓b_atN, ↓g_inN, ↓gq_l_e, nI_clamp, hpw.1, hp, hst, hc, f10, e1, e2, ↓gq_b_s, nI_1]
        exact fin C1 R1 I1 e3
      · obtain ⟨C1, R1, e1, e2, I1, e3⟩ := s_standing (N := N) I hN hi3 hc
        simp (disch := omega) only [he, ↓reduceIte, ↓b_atN, ↓g_inN, ↓gq_l_e, nI_clamp, hpw.1, hp, hst, hc, f10, d21, e1, e2, ↓gq_b_s, nI_1]
        exact fin C1 R1 I1 e3
      · obtain ⟨C1, R1, e1, e2, I1, e3⟩ := s_taking (N := N) I hN hi3 hc
        simp (disch := omega) only [he, ↓reduceIte, ↓b_atN, ↓g_inN, ↓gq_l_e, nI_clamp, hpw.1, hp, hst, hc, f10, d31, d32, e1, e2, ↓gq_b_s, nI_1]
        exact fin C1 R1 I1 e3
theorem K_sale_t {nb tn : Nat} {c1 r1 c2 r2 c3 r3 c4 r4 : Nat → Int32} (h : K_sale nb tn c1 r1 c2 r2 c3 r3 c4 r4) : K_sale nb (tn + 1) c1 r1 c2 r2 c3 r3 c4 r4 := by
  refine ⟨fun b hb => ?_, h.2⟩
  obtain ⟨e1, e2, e3⟩ := h.1 b hb
  refine ⟨e1, e2, ?_⟩
  rcases e3 with e3 | ⟨e3, e4, e5, ⟨t, h1, h2, h3⟩, e7⟩
  · exact Or.inl e3
  · exact Or.inr ⟨e3, e4, e5, ⟨t, h1, by omega, h3⟩, e7⟩
theorem s_now {nb nl nr tn : Nat} {C R : gq_M} (I : INVd nb nl nr tn C R) (ht : tn + 1 ≤ 100000) : INVd nb nl nr (tn + 1) (gq_up C 0 8 (nI (tn + 1))) (gq_up R 0 0 (nI (tn + 1))) := by
  obtain ⟨H, hwt, hsg, hhl⟩ := I
  obtain ⟨hnb, hnl, hnr, htn, hda, hop, hdr, hqu, hai, hid, hac, hlk, hla, hks, hkm, hkh, hbg, hbd, hbo, hbl, hbb, hst, hpw, hxb, hxk, hxr, hxs, hxf, hxl, hxc, hxi, hxp, hsu, hmo, hsb, hlo, hlb, hlf, hlh, hld, hlr, hcl⟩ := H
  refine ⟨⟨hnb, hnl, hnr, ⟨rfl, rfl, ht⟩, hda, hop, hdr, hqu, hai, hid, hac, hlk, hla, hks, hkm, hkh, hbg, hbd, hbo, hbl, hbb, hst, hpw, hxb, hxk, hxr, hxs, hxf, hxl, hxc, hxi, (K_sale_t hxp), hsu, hmo, hsb, hlo, hlb, hlf, hlh, hld, hlr, hcl⟩, hwt, hsg, fun h hh => ?_⟩
  exact hall_fr (hhl h hh) rfl rfl rfl rfl rfl rfl rfl rfl rfl rfl rfl (fun _ _ => rfl) (fun _ _ _ => rfl) (fun _ _ _ q => q) (Nat.le_succ _) (fun j hj => ⟨rfl, rfl, rfl, rfl, rfl, rfl, rfl⟩)
theorem s_pass_l {N nb nl nr m : Nat} (hN : 600 ≤ N) (hm : m ≤ 500) : ∀ (k i n8 n9 tn : Nat) (C R : gq_M), INVd nb nl nr tn C R → i + k = m → tn + k ≤ 100000 → k < n8 → k < n9 → ∃ C2 R2, f_X9_pass_29 N n8 (nI m) (nI i) C = some (0, nI (tn + k), C2) ∧ f_X10_pass_42 N n9 (nI m) (nI i) R = some (nI (tn + k), R2) ∧ INVd nb nl nr (tn + k) C2 R2 ∧ R2 0 54 = R 0 54 := by
  intro k
  induction k with
  | zero =>
    intro i n8 n9 tn C R I hi ht h8 h9
    obtain ⟨n8, rfl⟩ : ∃ z, n8 = z + 1 := ⟨n8 - 1, by omega⟩
    obtain ⟨n9, rfl⟩ : ∃ z, n9 = z + 1 := ⟨n9 - 1, by omega⟩
    have htn := core_tn I.1
    have he : m ≤ i := by omega
    refine ⟨C, R, ?_, ?_, I, rfl⟩
    · show f_X9_pass_29_b N (f_X9_pass_29 N n8) (nI m) (nI i) C = _
      unfold f_X9_pass_29_b
      simp (disch := omega) only [nI_leI, he, ↓reduceIte, htn.1, Nat.add_zero]
    · show f_X10_pass_42_b N (f_X10_pass_42 N n9) (nI m) (nI i) R = _
      unfold f_X10_pass_42_b
      simp (disch := omega) only [nI_leI, he, ↓reduceIte, htn.2.1, Nat.add_zero]
  | succ k ih =>
    intro i n8 n9 tn C R I hi ht h8 h9
    obtain ⟨n8, rfl⟩ : ∃ z, n8 = z + 1 := ⟨n8 - 1, by omega⟩
    obtain ⟨n9, rfl⟩ : ∃ z, n9 = z + 1 := ⟨n9 - 1, by omega⟩
    have htn := core_tn I.1
    have hnr := core_nr I.1
    have hr := hnr.2.2
    have he : ¬ m ≤ i := by omega
    have I1 := s_now I (by omega)
    obtain ⟨C2, R2, e1, e2, I2, e3⟩ := s_halls (N := N) hN 3 0 N N _ _ I1 (by omega) (by omega) (by omega)
    obtain ⟨C3, R3, e4, e5, I3, e6⟩ := s_lorries (N := N) hN nr 0 N N C2 R2 I2 (by omega) (by omega) (by omega)
    obtain ⟨C4, R4, t1, t2, I4, t3⟩ := ih (i + 1) n8 n9 (tn + 1) C3 R3 I3 (by omega) (by omega) (by omega) (by omega)
    have e1' : f_X9_tickHalls N (gq_up C 0 8 (nI (tn + 1))) = some (0, C2) := e1
    have e4' : f_X9_sendLorries N C2 = some (0, C3) := e4
    have e2' : f_X10_passes N R = some (0, R3) := by
      unfold f_X10_passes
      rw [gq_l_e, htn.2.1, nI_1]
      exact e2.trans e5
    refine ⟨C4, R4, ?_, ?_, ?_, ?_⟩
    · show f_X9_pass_29_b N (f_X9_pass_29 N n8) (nI m) (nI i) C = _
      unfold f_X9_pass_29_b
      simp (disch := omega) only [nI_leI, he, ↓reduceIte, htn.1, nI_1, ↓gq_l_e, e1', e4', ↓gq_b_s]
      rw [show tn + (k + 1) = tn + 1 + k by omega]
      exact t1
    · show f_X10_pass_42_b N (f_X10_pass_42 N n9) (nI m) (nI i) R = _
      unfold f_X10_pass_42_b
      simp (disch := omega) only [nI_leI, he, ↓reduceIte, e2', ↓gq_b_s, nI_1]
      rw [show tn + (k + 1) = tn + 1 + k by omega]
      exact t2
    · rw [show tn + (k + 1) = tn + 1 + k by omega]; exact I4
    · rw [t3, e6, e3]; rfl

set_option maxHeartbeats 1000000 in
theorem c_pass {N : Nat} {a1 : Int32} {C R : gq_M} (hN : 600 ≤ N) (H : INV C R) : OUT kF (f_X9_pass N a1 C) (f_X10_pass N a1 R) := by
  obtain ⟨nb, nl, nr, tn, I0⟩ := inv_invd H
  obtain ⟨Hc, hwt, hsg, hhl⟩ := I0
  have I0 : INVd nb nl nr tn C R := ⟨Hc, hwt, hsg, hhl⟩
  have H0 := Hc
  obtain ⟨hnb, hnl, hnr, htn, hda, hop, hdr, hqu, hai, hid, hac, hlk, hla, hks, hkm, hkh, hbg, hbd, hbo, hbl, hbb, hst, hpw, hxb, hxk, hxr, hxs, hxf, hxl, hxc, hxi, hxp, hsu, hmo, hsb, hlo, hlb, hlf, hlh, hld, hlr, hcl⟩ := H0
  have hb150 := hnb.2.2
  have hl150 := hnl.2.2
  have hr20 := hnr.2.2
  have ht5 := htn.2.2
  by_cases h1 : 1 ≤ a1 ∧ a1 ≤ 500
  · skip
    obtain ⟨m, hm1, hm2, rfl⟩ := rng_of (a := 1) (b := 500) (by omega) h1 (by omega)
    have q1 : ((100000 : Int32) < nI tn + nI m) = ¬ tn + m ≤ 100000 := by
      rw [nI_add]
      exact propext ((nI_ltI (a := 100000) (by omega) (by omega)).trans (by omega))
    have q2 : (nI tn + nI m ≤ (100000 : Int32)) = (tn + m ≤ 100000) := by
      rw [nI_add]
      exact propext (nI_leI (b := 100000) (by omega) (by omega))
    by_cases h2 : tn + m ≤ 100000
    · obtain ⟨C2, R2, e1, e2, I2, e3⟩ := s_pass_l (N := N) hN hm2 m 0 N N tn C (thr R 0) (invd_thr I0) (by omega) h2 (by omega) (by omega)
      have e1' : f_X9_pass_29 N N (nI m) 0 C = some (0, nI (tn + m), C2) := e1
      have e2' : f_X10_pass_42 N N (nI m) 0 (thr R 0) = some (nI (tn + m), R2) := e2
      simp (disch := omega) only [f_X9_pass_24, f_X9_pass, f_X10_pass_32, f_X10_pass, ↓m_exist, ↓m_beIn, ↓m_hold, e8a, e8b, e4a, e4b, e3a, e3b, ↓b_isEight, ↓b_isKind, ↓b_isHall, ↓b_areCents, ↓b_isBox, ↓b_isIn, ↓b_fails, ↓gq_b_s, ↓gq_l_e, ↓b_atN, ↓b_putN, ↓b_addN, ↓b_swapN, ↓g_inN, b_atN, b_putN, b_addN, b_swapN, g_inN, ↓g_bb0, ↓g_bb1, ↓g_bbI, bI_z, Classical.not_not, ↓reduceIte, not_true_eq_false, not_false_eq_true, f01, f02, f03, f00, ite_not, ite_self, and_self, nI_clamp, pl4, pl4b, pl8, pl8b, thr_r, thr_s, h1, htn.1, htn.2.1, q1, q2, h2, e1', e2', f10]
      refine out_v ?_ rfl (invd_inv I2)
      rw [e3]
      rfl
    · simp (disch := omega) only [f_X9_pass_24, f_X9_pass, f_X10_pass_32, f_X10_pass, ↓m_exist, ↓m_beIn, ↓m_hold, e8a, e8b, e4a, e4b, e3a, e3b, ↓b_isEight, ↓b_isKind, ↓b_isHall, ↓b_areCents, ↓b_isBox, ↓b_isIn, ↓b_fails, ↓gq_b_s, ↓gq_l_e, ↓b_atN, ↓b_putN, ↓b_addN, ↓b_swapN, ↓g_inN, b_atN, b_putN, b_addN, b_swapN, g_inN, ↓g_bb0, ↓g_bb1, ↓g_bbI, bI_z, Classical.not_not, ↓reduceIte, not_true_eq_false, not_false_eq_true, f01, f02, f03, f00, ite_not, ite_self, and_self, nI_clamp, pl4, pl4b, pl8, pl8b, thr_r, thr_s, h1, htn.1, htn.2.1, q1, q2, h2, f10]
      exact out_t H rfl
  · simp (disch := omega) only [f_X9_pass_24, f_X9_pass, f_X10_pass_32, f_X10_pass, ↓m_exist, ↓m_beIn, ↓m_hold, e8a, e8b, e4a, e4b, e3a, e3b, ↓b_isEight, ↓b_isKind, ↓b_isHall, ↓b_areCents, ↓b_isBox, ↓b_isIn, ↓b_fails, ↓gq_b_s, ↓gq_l_e, ↓b_atN, ↓b_putN, ↓b_addN, ↓b_swapN, ↓g_inN, b_atN, b_putN, b_addN, b_swapN, g_inN, ↓g_bb0, ↓g_bb1, ↓g_bbI, bI_z, Classical.not_not, ↓reduceIte, not_true_eq_false, not_false_eq_true, f01, f02, f03, f00, ite_not, ite_self, and_self, nI_clamp, pl4, pl4b, pl8, pl8b, thr_r, thr_s, h1]
    exact out_t H rfl
