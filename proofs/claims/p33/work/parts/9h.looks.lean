/-! looks -/
theorem inv_rth {C R : gq_M} {w : Int32} (H : INV C (thr R w)) : INV C R := by
  obtain ⟨nb, nl, nr, tn, hnb, hnl, hnr, htn, hda, hop, hdr, hqu, hai, hid, hac, hlk, hla, hwt, hks, hkm, hkh, hbg, hbd, hbo, hbl, hbb, hst, hpw, hxb, hxk, hxr, hxs, hxf, hxl, hxc, hxi, hxp, hsu, hmo, hsb, hlo, hlb, hlf, hlh, hld, hsg, hlr, hcl, hhl⟩ := H
  exact ⟨nb, nl, nr, tn, hnb, hnl, hnr, htn, hda, hop, hdr, hqu, hai, hid, hac, hlk, hla, hwt, hks, hkm, hkh, hbg, hbd, hbo, hbl, hbb, hst, hpw, hxb, hxk, hxr, hxs, hxf, hxl, hxc, hxi, hxp, hsu, hmo, hsb, hlo, hlb, hlf, hlh, hld, hsg, hlr, hcl, hhl⟩
section
variable {N nb nl nr tn dn : Nat} {M R : gq_M}
def k0 (kk : Nat → Option Int32) : Prop := ∀ e, kk e = some 0 → e = 0
theorem k0A : k0 kA := by
  intro e h
  rcases e with _ | _ | e
  · rfl
  · cases h
  · cases h
theorem k0B : k0 kB := by
  intro e h
  rcases e with _ | _ | _ | e
  · rfl
  · cases h
  · cases h
  · cases h
theorem k0G : k0 kG := by
  intro e h
  rcases e with _ | _ | _ | e
  · rfl
  · cases h
  · cases h
  · cases h
theorem LKp {kk : Nat → Option Int32} {c : Option (Nat × Int32 × gq_M)} {r : Option (Int32 × gq_M)} {v : Int32} (H : PK T0 nb nl nr tn dn M R) (h : OUT kk c r) (hr : r = some (v, thr R 0)) (hk : k0 kk) : ∃ M2, (∀ {β : Type} (F : Int32 → gq_M → Option β), gq_y0 c (fun v Cv => gq_l (mrg 109 Cv M) fun M9 => F v M9) = F v M2) ∧ INV M2 R ∧ PK T0 nb nl nr tn dn M2 R ∧ ∀ k, 109 ≤ k → M2 k = M k := by
  obtain ⟨e, w, v2, C2, R3, h1, h2, h3, h4, h5⟩ := h
  rw [hr] at h2
  cases h2
  have he := hk e (h3.trans (congrArg some (thr_v R 0)))
  subst he
  have g : ∀ k, 109 ≤ k → mrg 109 C2 M k = M k := fun k hk => mrg_ge (by omega)
  refine ⟨mrg 109 C2 M, fun F => ?_, inv_rth (inv_mrg h5), pk_mc H g, g⟩
  rw [h1, ← h4 rfl]
  rfl
theorem LBp {o : Option (Int32 × gq_M)} {v : Int32} (H : PK T0 nb nl nr tn dn M R) (h : ∃ C2, o = some (v, C2) ∧ INV C2 (thr R 0)) : ∃ M2, (∀ {β : Type} (F : Int32 → gq_M → Option β), gq_b o (fun v Cv => gq_l (mrg 109 Cv M) fun M9 => F v M9) = F v M2) ∧ INV M2 R ∧ PK T0 nb nl nr tn dn M2 R ∧ ∀ k, 109 ≤ k → M2 k = M k := by
  obtain ⟨C2, h1, h5⟩ := h
  have g : ∀ k, 109 ≤ k → mrg 109 C2 M k = M k := fun k hk => mrg_ge (by omega)
  refine ⟨mrg 109 C2 M, fun F => ?_, inv_rth (inv_mrg h5), pk_mc H g, g⟩
  rw [h1]
  rfl
theorem k_now (I : INV M R) (H : PK T0 nb nl nr tn dn M R) : ∃ M2, (∀ {β : Type} (F : Int32 → gq_M → Option β), gq_b (f_X9_now N M) (fun v Cv => gq_l (mrg 109 Cv M) fun M9 => F v M9) = F (R 0 0) M2) ∧ INV M2 R ∧ PK T0 nb nl nr tn dn M2 R ∧ ∀ k, 109 ≤ k → M2 k = M k := by
  obtain ⟨v, C2, R2, h1, h2, h3⟩ := c_now (N := N) I
  have h4 : some (R 0 0, thr R 0) = some (v, R2) := h2
  cases h4
  exact LBp H ⟨C2, h1, h3⟩
theorem k_day (I : INV M R) (H : PK T0 nb nl nr tn dn M R) : ∃ M2, (∀ {β : Type} (F : Int32 → gq_M → Option β), gq_b (f_X9_day N M) (fun v Cv => gq_l (mrg 109 Cv M) fun M9 => F v M9) = F (R 0 1) M2) ∧ INV M2 R ∧ PK T0 nb nl nr tn dn M2 R ∧ ∀ k, 109 ≤ k → M2 k = M k := by
  obtain ⟨v, C2, R2, h1, h2, h3⟩ := c_day (N := N) I
  have h4 : some (R 0 1, thr R 0) = some (v, R2) := h2
  cases h4
  exact LBp H ⟨C2, h1, h3⟩
theorem k_isOpen (I : INV M R) (H : PK T0 nb nl nr tn dn M R) (hb : bit (R 0 2)) : ∃ M2, (∀ {β : Type} (F : Int32 → gq_M → Option β), gq_b (f_X9_isOpen N M) (fun v Cv => gq_l (mrg 109 Cv M) fun M9 => F v M9) = F (R 0 2) M2) ∧ INV M2 R ∧ PK T0 nb nl nr tn dn M2 R ∧ ∀ k, 109 ≤ k → M2 k = M k := by
  obtain ⟨v, C2, R2, h1, h2, h3⟩ := c_isOpen (N := N) I
  have h4 : f_X10_isOpen N R = some (R 0 2, thr R 0) := by
    unfold f_X10_isOpen
    rw [gq_l_e]
    show gq_g (gq_bb (R 0 2)) _ = _
    rw [g_bv hb]
    rfl
  rw [h4] at h2
  cases h2
  exact LBp H ⟨C2, h1, h3⟩
theorem k_told0 {j : Nat} (hN : 600 ≤ N) (I : INV M R) (H : PK T0 nb nl nr tn dn M R) (hj : j < nb) : ∃ M2, (∀ {β : Type} (F : Int32 → gq_M → Option β), gq_y0 (f_X9_told N (nI j) 0 M) (fun v Cv => gq_l (mrg 109 Cv M) fun M9 => F v M9) = F (R 19 j) M2) ∧ INV M2 R ∧ PK T0 nb nl nr tn dn M2 R ∧ ∀ k, 109 ≤ k → M2 k = M k := by
  have hnb := pq_nb H
  have hnl := pq_nl H
  have hb40 := hnb.2.2
  have h1 : vp_in (nI j) nb := vpY hj (by omega)
  have h2 : (0 : Int32) ≤ 0 ∧ (0 : Int32) ≤ 4 := by decide
  have hr : f_X10_told N (nI j) 0 R = some (R 19 j, thr R 0) := by
    simp (disch := omega) only [f_X10_told_96, f_X10_told_27, f_X10_told, r_isEight, r_isKind, r_isHall, r_areCents, r_isBox, r_isIn, r_fails, gq_b_s, gq_l_e, bI_z, Classical.not_not, reduceIte, not_true_eq_false, not_false_eq_true, f01, f02, f03, f00, f10, f01b, ite_not, ite_self, and_self, e8a, e8b, e4a, e4b, e3a, e3b, g_inN, g_bb0, g_bb1, g_bbI, nI_clamp, pl4, pl4b, pl8, pl8b, thr_r, thr_s, d20, d21, d23, d24, d25, d30, d31, d32, d34, d35, d40, d41, d42, d43, d45, d50, d51, d52, d53, d54, d02, d03, d04, d05, d12, d13, d14, d15, ena, enb, h1, h2, hnb.2.1]
  exact LKp H (c_told hN I) hr k0B
theorem k_told1 {j : Nat} (hN : 600 ≤ N) (I : INV M R) (H : PK T0 nb nl nr tn dn M R) (hj : j < nb) : ∃ M2, (∀ {β : Type} (F : Int32 → gq_M → Option β), gq_y0 (f_X9_told N (nI j) 1 M) (fun v Cv => gq_l (mrg 109 Cv M) fun M9 => F v M9) = F (R 16 j) M2) ∧ INV M2 R ∧ PK T0 nb nl nr tn dn M2 R ∧ ∀ k, 109 ≤ k → M2 k = M k := by
  have hnb := pq_nb H
  have hnl := pq_nl H
  have hb40 := hnb.2.2
  have h1 : vp_in (nI j) nb := vpY hj (by omega)
  have h2 : (0 : Int32) ≤ 1 ∧ (1 : Int32) ≤ 4 := by decide
  have hr : f_X10_told N (nI j) 1 R = some (R 16 j, thr R 0) := by
    simp (disch := omega) only [f_X10_told_96, f_X10_told_27, f_X10_told, r_isEight, r_isKind, r_isHall, r_areCents, r_isBox, r_isIn, r_fails, gq_b_s, gq_l_e, bI_z, Classical.not_not, reduceIte, not_true_eq_false, not_false_eq_true, f01, f02, f03, f00, f10, f01b, ite_not, ite_self, and_self, e8a, e8b, e4a, e4b, e3a, e3b, g_inN, g_bb0, g_bb1, g_bbI, nI_clamp, pl4, pl4b, pl8, pl8b, thr_r, thr_s, d20, d21, d23, d24, d25, d30, d31, d32, d34, d35, d40, d41, d42, d43, d45, d50, d51, d52, d53, d54, d02, d03, d04, d05, d12, d13, d14, d15, ena, enb, h1, h2, hnb.2.1]
  exact LKp H (c_told hN I) hr k0B
theorem k_told2 {j : Nat} (hN : 600 ≤ N) (I : INV M R) (H : PK T0 nb nl nr tn dn M R) (hj : j < nb) : ∃ M2, (∀ {β : Type} (F : Int32 → gq_M → Option β), gq_y0 (f_X9_told N (nI j) 2 M) (fun v Cv => gq_l (mrg 109 Cv M) fun M9 => F v M9) = F (R 21 j) M2) ∧ INV M2 R ∧ PK T0 nb nl nr tn dn M2 R ∧ ∀ k, 109 ≤ k → M2 k = M k := by
  have hnb := pq_nb H
  have hnl := pq_nl H
  have hb40 := hnb.2.2
  have h1 : vp_in (nI j) nb := vpY hj (by omega)
  have h2 : (0 : Int32) ≤ 2 ∧ (2 : Int32) ≤ 4 := by decide
  have hr : f_X10_told N (nI j) 2 R = some (R 21 j, thr R 0) := by
    simp (disch := omega) only [f_X10_told_96, f_X10_told_27, f_X10_told, r_isEight, r_isKind, r_isHall, r_areCents, r_isBox, r_isIn, r_fails, gq_b_s, gq_l_e, bI_z, Classical.not_not, reduceIte, not_true_eq_false, not_false_eq_true, f01, f02, f03, f00, f10, f01b, ite_not, ite_self, and_self, e8a, e8b, e4a, e4b, e3a, e3b, g_inN, g_bb0, g_bb1, g_bbI, nI_clamp, pl4, pl4b, pl8, pl8b, thr_r, thr_s, d20, d21, d23, d24, d25, d30, d31, d32, d34, d35, d40, d41, d42, d43, d45, d50, d51, d52, d53, d54, d02, d03, d04, d05, d12, d13, d14, d15, ena, enb, h1, h2, hnb.2.1]
  exact LKp H (c_told hN I) hr k0B
theorem k_told3 {j : Nat} (hN : 600 ≤ N) (I : INV M R) (H : PK T0 nb nl nr tn dn M R) (hj : j < nb) : ∃ M2, (∀ {β : Type} (F : Int32 → gq_M → Option β), gq_y0 (f_X9_told N (nI j) 3 M) (fun v Cv => gq_l (mrg 109 Cv M) fun M9 => F v M9) = F (R 22 j) M2) ∧ INV M2 R ∧ PK T0 nb nl nr tn dn M2 R ∧ ∀ k, 109 ≤ k → M2 k = M k := by
  have hnb := pq_nb H
  have hnl := pq_nl H
  have hb40 := hnb.2.2
  have h1 : vp_in (nI j) nb := vpY hj (by omega)
  have h2 : (0 : Int32) ≤ 3 ∧ (3 : Int32) ≤ 4 := by decide
  have hr : f_X10_told N (nI j) 3 R = some (R 22 j, thr R 0) := by
    simp (disch := omega) only [f_X10_told_96, f_X10_told_27, f_X10_told, r_isEight, r_isKind, r_isHall, r_areCents, r_isBox, r_isIn, r_fails, gq_b_s, gq_l_e, bI_z, Classical.not_not, reduceIte, not_true_eq_false, not_false_eq_true, f01, f02, f03, f00, f10, f01b, ite_not, ite_self, and_self, e8a, e8b, e4a, e4b, e3a, e3b, g_inN, g_bb0, g_bb1, g_bbI, nI_clamp, pl4, pl4b, pl8, pl8b, thr_r, thr_s, d20, d21, d23, d24, d25, d30, d31, d32, d34, d35, d40, d41, d42, d43, d45, d50, d51, d52, d53, d54, d02, d03, d04, d05, d12, d13, d14, d15, ena, enb, h1, h2, hnb.2.1]
  exact LKp H (c_told hN I) hr k0B
theorem k_told4 {j : Nat} (hN : 600 ≤ N) (I : INV M R) (H : PK T0 nb nl nr tn dn M R) (hj : j < nb) : ∃ M2, (∀ {β : Type} (F : Int32 → gq_M → Option β), gq_y0 (f_X9_told N (nI j) 4 M) (fun v Cv => gq_l (mrg 109 Cv M) fun M9 => F v M9) = F (R 26 j) M2) ∧ INV M2 R ∧ PK T0 nb nl nr tn dn M2 R ∧ ∀ k, 109 ≤ k → M2 k = M k := by
  have hnb := pq_nb H
  have hnl := pq_nl H
  have hb40 := hnb.2.2
  have h1 : vp_in (nI j) nb := vpY hj (by omega)
  have h2 : (0 : Int32) ≤ 4 ∧ (4 : Int32) ≤ 4 := by decide
  have hr : f_X10_told N (nI j) 4 R = some (R 26 j, thr R 0) := by
    simp (disch := omega) only [f_X10_told_96, f_X10_told_27, f_X10_told, r_isEight, r_isKind, r_isHall, r_areCents, r_isBox, r_isIn, r_fails, gq_b_s, gq_l_e, bI_z, Classical.not_not, reduceIte, not_true_eq_false, not_false_eq_true, f01, f02, f03, f00, f10, f01b, ite_not, ite_self, and_self, e8a, e8b, e4a, e4b, e3a, e3b, g_inN, g_bb0, g_bb1, g_bbI, nI_clamp, pl4, pl4b, pl8, pl8b, thr_r, thr_s, d20, d21, d23, d24, d25, d30, d31, d32, d34, d35, d40, d41, d42, d43, d45, d50, d51, d52, d53, d54, d02, d03, d04, d05, d12, d13, d14, d15, ena, enb, h1, h2, hnb.2.1]
  exact LKp H (c_told hN I) hr k0B
theorem k_lot0 {j : Nat} (hN : 600 ≤ N) (I : INV M R) (H : PK T0 nb nl nr tn dn M R) (hj : j < nl) : ∃ M2, (∀ {β : Type} (F : Int32 → gq_M → Option β), gq_y0 (f_X9_lot N (nI j) 0 M) (fun v Cv => gq_l (mrg 109 Cv M) fun M9 => F v M9) = F (R 27 j) M2) ∧ INV M2 R ∧ PK T0 nb nl nr tn dn M2 R ∧ ∀ k, 109 ≤ k → M2 k = M k := by
  have hnb := pq_nb H
  have hnl := pq_nl H
  have hb40 := hnb.2.2
  have h1 : vp_in (nI j) nl := vpY hj (by omega)
  have h2 : (0 : Int32) ≤ 0 ∧ (0 : Int32) ≤ 5 := by decide
  have hlo : f_X10_leftOf N (nI j) (thr R 0) = some (nI (offl nb (R 26) (R 19) j).length, thr R 0) := r_leftOf (N := N) (M := thr R 0) (nb := nb) (l := j) hnb.2.1 (by omega) hN
  have hr : f_X10_lot N (nI j) 0 R = some (R 27 j, thr R 0) := by
    simp (disch := omega) only [f_X10_lot_33, f_X10_lot, r_isEight, r_isKind, r_isHall, r_areCents, r_isBox, r_isIn, r_fails, gq_b_s, gq_l_e, bI_z, Classical.not_not, reduceIte, not_true_eq_false, not_false_eq_true, f01, f02, f03, f00, f10, f01b, ite_not, ite_self, and_self, e8a, e8b, e4a, e4b, e3a, e3b, g_inN, g_bb0, g_bb1, g_bbI, nI_clamp, pl4, pl4b, pl8, pl8b, thr_r, thr_s, d20, d21, d23, d24, d25, d30, d31, d32, d34, d35, d40, d41, d42, d43, d45, d50, d51, d52, d53, d54, d02, d03, d04, d05, d12, d13, d14, d15, ena, enb, h1, h2, hnl.2.1, hlo]
  exact LKp H (c_lot hN I) hr k0B
theorem k_lot1 {j : Nat} (hN : 600 ≤ N) (I : INV M R) (H : PK T0 nb nl nr tn dn M R) (hj : j < nl) : ∃ M2, (∀ {β : Type} (F : Int32 → gq_M → Option β), gq_y0 (f_X9_lot N (nI j) 1 M) (fun v Cv => gq_l (mrg 109 Cv M) fun M9 => F v M9) = F (R 28 j) M2) ∧ INV M2 R ∧ PK T0 nb nl nr tn dn M2 R ∧ ∀ k, 109 ≤ k → M2 k = M k := by
  have hnb := pq_nb H
  have hnl := pq_nl H
  have hb40 := hnb.2.2
  have h1 : vp_in (nI j) nl := vpY hj (by omega)
  have h2 : (0 : Int32) ≤ 1 ∧ (1 : Int32) ≤ 5 := by decide
  have hlo : f_X10_leftOf N (nI j) (thr R 0) = some (nI (offl nb (R 26) (R 19) j).length, thr R 0) := r_leftOf (N := N) (M := thr R 0) (nb := nb) (l := j) hnb.2.1 (by omega) hN
  have hr : f_X10_lot N (nI j) 1 R = some (R 28 j, thr R 0) := by
    simp (disch := omega) only [f_X10_lot_33, f_X10_lot, r_isEight, r_isKind, r_isHall, r_areCents, r_isBox, r_isIn, r_fails, gq_b_s, gq_l_e, bI_z, Classical.not_not, reduceIte, not_true_eq_false, not_false_eq_true, f01, f02, f03, f00, f10, f01b, ite_not, ite_self, and_self, e8a, e8b, e4a, e4b, e3a, e3b, g_inN, g_bb0, g_bb1, g_bbI, nI_clamp, pl4, pl4b, pl8, pl8b, thr_r, thr_s, d20, d21, d23, d24, d25, d30, d31, d32, d34, d35, d40, d41, d42, d43, d45, d50, d51, d52, d53, d54, d02, d03, d04, d05, d12, d13, d14, d15, ena, enb, h1, h2, hnl.2.1, hlo]
  exact LKp H (c_lot hN I) hr k0B
theorem k_lot2 {j : Nat} (hN : 600 ≤ N) (I : INV M R) (H : PK T0 nb nl nr tn dn M R) (hj : j < nl) : ∃ M2, (∀ {β : Type} (F : Int32 → gq_M → Option β), gq_y0 (f_X9_lot N (nI j) 2 M) (fun v Cv => gq_l (mrg 109 Cv M) fun M9 => F v M9) = F (R 29 j) M2) ∧ INV M2 R ∧ PK T0 nb nl nr tn dn M2 R ∧ ∀ k, 109 ≤ k → M2 k = M k := by
  have hnb := pq_nb H
  have hnl := pq_nl H
  have hb40 := hnb.2.2
  have h1 : vp_in (nI j) nl := vpY hj (by omega)
  have h2 : (0 : Int32) ≤ 2 ∧ (2 : Int32) ≤ 5 := by decide
  have hlo : f_X10_leftOf N (nI j) (thr R 0) = some (nI (offl nb (R 26) (R 19) j).length, thr R 0) := r_leftOf (N := N) (M := thr R 0) (nb := nb) (l := j) hnb.2.1 (by omega) hN
  have hr : f_X10_lot N (nI j) 2 R = some (R 29 j, thr R 0) := by
    simp (disch := omega) only [f_X10_lot_33, f_X10_lot, r_isEight, r_isKind, r_isHall, r_areCents, r_isBox, r_isIn, r_fails, gq_b_s, gq_l_e, bI_z, Classical.not_not, reduceIte, not_true_eq_false, not_false_eq_true, f01, f02, f03, f00, f10, f01b, ite_not, ite_self, and_self, e8a, e8b, e4a, e4b, e3a, e3b, g_inN, g_bb0, g_bb1, g_bbI, nI_clamp, pl4, pl4b, pl8, pl8b, thr_r, thr_s, d20, d21, d23, d24, d25, d30, d31, d32, d34, d35, d40, d41, d42, d43, d45, d50, d51, d52, d53, d54, d02, d03, d04, d05, d12, d13, d14, d15, ena, enb, h1, h2, hnl.2.1, hlo]
  exact LKp H (c_lot hN I) hr k0B
theorem k_lot3 {j : Nat} (hN : 600 ≤ N) (I : INV M R) (H : PK T0 nb nl nr tn dn M R) (hj : j < nl) : ∃ M2, (∀ {β : Type} (F : Int32 → gq_M → Option β), gq_y0 (f_X9_lot N (nI j) 3 M) (fun v Cv => gq_l (mrg 109 Cv M) fun M9 => F v M9) = F (R 30 j) M2) ∧ INV M2 R ∧ PK T0 nb nl nr tn dn M2 R ∧ ∀ k, 109 ≤ k → M2 k = M k := by
  have hnb := pq_nb H
  have hnl := pq_nl H
  have hb40 := hnb.2.2
  have h1 : vp_in (nI j) nl := vpY hj (by omega)
  have h2 : (0 : Int32) ≤ 3 ∧ (3 : Int32) ≤ 5 := by decide
  have hlo : f_X10_leftOf N (nI j) (thr R 0) = some (nI (offl nb (R 26) (R 19) j).length, thr R 0) := r_leftOf (N := N) (M := thr R 0) (nb := nb) (l := j) hnb.2.1 (by omega) hN
  have hr : f_X10_lot N (nI j) 3 R = some (R 30 j, thr R 0) := by
    simp (disch := omega) only [f_X10_lot_33, f_X10_lot, r_isEight, r_isKind, r_isHall, r_areCents, r_isBox, r_isIn, r_fails, gq_b_s, gq_l_e, bI_z, Classical.not_not, reduceIte, not_true_eq_false, not_false_eq_true, f01, f02, f03, f00, f10, f01b, ite_not, ite_self, and_self, e8a, e8b, e4a, e4b, e3a, e3b, g_inN, g_bb0, g_bb1, g_bbI, nI_clamp, pl4, pl4b, pl8, pl8b, thr_r, thr_s, d20, d21, d23, d24, d25, d30, d31, d32, d34, d35, d40, d41, d42, d43, d45, d50, d51, d52, d53, d54, d02, d03, d04, d05, d12, d13, d14, d15, ena, enb, h1, h2, hnl.2.1, hlo]
  exact LKp H (c_lot hN I) hr k0B
theorem k_lot4 {j : Nat} (hN : 600 ≤ N) (I : INV M R) (H : PK T0 nb nl nr tn dn M R) (hj : j < nl) : ∃ M2, (∀ {β : Type} (F : Int32 → gq_M → Option β), gq_y0 (f_X9_lot N (nI j) 4 M) (fun v Cv => gq_l (mrg 109 Cv M) fun M9 => F v M9) = F (R 31 j) M2) ∧ INV M2 R ∧ PK T0 nb nl nr tn dn M2 R ∧ ∀ k, 109 ≤ k → M2 k = M k := by
  have hnb := pq_nb H
  have hnl := pq_nl H
  have hb40 := hnb.2.2
  have h1 : vp_in (nI j) nl := vpY hj (by omega)
  have h2 : (0 : Int32) ≤ 4 ∧ (4 : Int32) ≤ 5 := by decide
  have hlo : f_X10_leftOf N (nI j) (thr R 0) = some (nI (offl nb (R 26) (R 19) j).length, thr R 0) := r_leftOf (N := N) (M := thr R 0) (nb := nb) (l := j) hnb.2.1 (by omega) hN
  have hr : f_X10_lot N (nI j) 4 R = some (R 31 j, thr R 0) := by
    simp (disch := omega) only [f_X10_lot_33, f_X10_lot, r_isEight, r_isKind, r_isHall, r_areCents, r_isBox, r_isIn, r_fails, gq_b_s, gq_l_e, bI_z, Classical.not_not, reduceIte, not_true_eq_false, not_false_eq_true, f01, f02, f03, f00, f10, f01b, ite_not, ite_self, and_self, e8a, e8b, e4a, e4b, e3a, e3b, g_inN, g_bb0, g_bb1, g_bbI, nI_clamp, pl4, pl4b, pl8, pl8b, thr_r, thr_s, d20, d21, d23, d24, d25, d30, d31, d32, d34, d35, d40, d41, d42, d43, d45, d50, d51, d52, d53, d54, d02, d03, d04, d05, d12, d13, d14, d15, ena, enb, h1, h2, hnl.2.1, hlo]
  exact LKp H (c_lot hN I) hr k0B
theorem k_lot5 {j : Nat} (hN : 600 ≤ N) (I : INV M R) (H : PK T0 nb nl nr tn dn M R) (hj : j < nl) : ∃ M2, (∀ {β : Type} (F : Int32 → gq_M → Option β), gq_y0 (f_X9_lot N (nI j) 5 M) (fun v Cv => gq_l (mrg 109 Cv M) fun M9 => F v M9) = F (nI (offl nb (R 26) (R 19) j).length) M2) ∧ INV M2 R ∧ PK T0 nb nl nr tn dn M2 R ∧ ∀ k, 109 ≤ k → M2 k = M k := by
  have hnb := pq_nb H
  have hnl := pq_nl H
  have hb40 := hnb.2.2
  have h1 : vp_in (nI j) nl := vpY hj (by omega)
  have h2 : (0 : Int32) ≤ 5 ∧ (5 : Int32) ≤ 5 := by decide
  have hlo : f_X10_leftOf N (nI j) (thr R 0) = some (nI (offl nb (R 26) (R 19) j).length, thr R 0) := r_leftOf (N := N) (M := thr R 0) (nb := nb) (l := j) hnb.2.1 (by omega) hN
  have hr : f_X10_lot N (nI j) 5 R = some (nI (offl nb (R 26) (R 19) j).length, thr R 0) := by
    simp (disch := omega) only [f_X10_lot_33, f_X10_lot, r_isEight, r_isKind, r_isHall, r_areCents, r_isBox, r_isIn, r_fails, gq_b_s, gq_l_e, bI_z, Classical.not_not, reduceIte, not_true_eq_false, not_false_eq_true, f01, f02, f03, f00, f10, f01b, ite_not, ite_self, and_self, e8a, e8b, e4a, e4b, e3a, e3b, g_inN, g_bb0, g_bb1, g_bbI, nI_clamp, pl4, pl4b, pl8, pl8b, thr_r, thr_s, d20, d21, d23, d24, d25, d30, d31, d32, d34, d35, d40, d41, d42, d43, d45, d50, d51, d52, d53, d54, d02, d03, d04, d05, d12, d13, d14, d15, ena, enb, h1, h2, hnl.2.1, hlo]
  exact LKp H (c_lot hN I) hr k0B
theorem k_hall0 {j : Nat} (hN : 600 ≤ N) (I : INV M R) (H : PK T0 nb nl nr tn dn M R) (hj : j < 3) : ∃ M2, (∀ {β : Type} (F : Int32 → gq_M → Option β), gq_y0 (f_X9_hall N (nI j) 0 M) (fun v Cv => gq_l (mrg 109 Cv M) fun M9 => F v M9) = F (R 35 j) M2) ∧ INV M2 R ∧ PK T0 nb nl nr tn dn M2 R ∧ ∀ k, 109 ≤ k → M2 k = M k := by
  have hnb := pq_nb H
  have hnl := pq_nl H
  have hb40 := hnb.2.2
  have h1 : vp_in (nI j) 3 := vpY hj (by omega)
  have h2 : (0 : Int32) ≤ 0 ∧ (0 : Int32) ≤ 4 := by decide
  have hlo : f_X10_lotsOf N (nI j) (thr R 0) = some (nI (cnt (rg 0 nl) (isNd (R 31) (R 32) j)), thr R 0) := r_lotsOf (N := N) (M := thr R 0) (nl := nl) (h := j) hnl.2.1 (by omega) hN
  have hr : f_X10_hall N (nI j) 0 R = some (R 35 j, thr R 0) := by
    simp (disch := omega) only [f_X10_hall_94, f_X10_hall_26, f_X10_hall, r_isEight, r_isKind, r_isHall, r_areCents, r_isBox, r_isIn, r_fails, gq_b_s, gq_l_e, bI_z, Classical.not_not, reduceIte, not_true_eq_false, not_false_eq_true, f01, f02, f03, f00, f10, f01b, ite_not, ite_self, and_self, e8a, e8b, e4a, e4b, e3a, e3b, g_inN, g_bb0, g_bb1, g_bbI, nI_clamp, pl4, pl4b, pl8, pl8b, thr_r, thr_s, d20, d21, d23, d24, d25, d30, d31, d32, d34, d35, d40, d41, d42, d43, d45, d50, d51, d52, d53, d54, d02, d03, d04, d05, d12, d13, d14, d15, ena, enb, h1, h2, hlo]
  exact LKp H (c_hall hN I) hr k0B
theorem k_hall1 {j : Nat} (hN : 600 ≤ N) (I : INV M R) (H : PK T0 nb nl nr tn dn M R) (hj : j < 3) : ∃ M2, (∀ {β : Type} (F : Int32 → gq_M → Option β), gq_y0 (f_X9_hall N (nI j) 1 M) (fun v Cv => gq_l (mrg 109 Cv M) fun M9 => F v M9) = F (R 36 j) M2) ∧ INV M2 R ∧ PK T0 nb nl nr tn dn M2 R ∧ ∀ k, 109 ≤ k → M2 k = M k := by
  have hnb := pq_nb H
  have hnl := pq_nl H
  have hb40 := hnb.2.2
  have h1 : vp_in (nI j) 3 := vpY hj (by omega)
  have h2 : (0 : Int32) ≤ 1 ∧ (1 : Int32) ≤ 4 := by decide
  have hlo : f_X10_lotsOf N (nI j) (thr R 0) = some (nI (cnt (rg 0 nl) (isNd (R 31) (R 32) j)), thr R 0) := r_lotsOf (N := N) (M := thr R 0) (nl := nl) (h := j) hnl.2.1 (by omega) hN
  have hr : f_X10_hall N (nI j) 1 R = some (R 36 j, thr R 0) := by
    simp (disch := omega) only [f_X10_hall_94, f_X10_hall_26, f_X10_hall, r_isEight, r_isKind, r_isHall, r_areCents, r_isBox, r_isIn, r_fails, gq_b_s, gq_l_e, bI_z, Classical.not_not, reduceIte, not_true_eq_false, not_false_eq_true, f01, f02, f03, f00, f10, f01b, ite_not, ite_self, and_self, e8a, e8b, e4a, e4b, e3a, e3b, g_inN, g_bb0, g_bb1, g_bbI, nI_clamp, pl4, pl4b, pl8, pl8b, thr_r, thr_s, d20, d21, d23, d24, d25, d30, d31, d32, d34, d35, d40, d41, d42, d43, d45, d50, d51, d52, d53, d54, d02, d03, d04, d05, d12, d13, d14, d15, ena, enb, h1, h2, hlo]
  exact LKp H (c_hall hN I) hr k0B
theorem k_hall2 {j : Nat} (hN : 600 ≤ N) (I : INV M R) (H : PK T0 nb nl nr tn dn M R) (hj : j < 3) : ∃ M2, (∀ {β : Type} (F : Int32 → gq_M → Option β), gq_y0 (f_X9_hall N (nI j) 2 M) (fun v Cv => gq_l (mrg 109 Cv M) fun M9 => F v M9) = F (R 37 j) M2) ∧ INV M2 R ∧ PK T0 nb nl nr tn dn M2 R ∧ ∀ k, 109 ≤ k → M2 k = M k := by
  have hnb := pq_nb H
  have hnl := pq_nl H
  have hb40 := hnb.2.2
  have h1 : vp_in (nI j) 3 := vpY hj (by omega)
  have h2 : (0 : Int32) ≤ 2 ∧ (2 : Int32) ≤ 4 := by decide
  have hlo : f_X10_lotsOf N (nI j) (thr R 0) = some (nI (cnt (rg 0 nl) (isNd (R 31) (R 32) j)), thr R 0) := r_lotsOf (N := N) (M := thr R 0) (nl := nl) (h := j) hnl.2.1 (by omega) hN
  have hr : f_X10_hall N (nI j) 2 R = some (R 37 j, thr R 0) := by
    simp (disch := omega) only [f_X10_hall_94, f_X10_hall_26, f_X10_hall, r_isEight, r_isKind, r_isHall, r_areCents, r_isBox, r_isIn, r_fails, gq_b_s, gq_l_e, bI_z, Classical.not_not, reduceIte, not_true_eq_false, not_false_eq_true, f01, f02, f03, f00, f10, f01b, ite_not, ite_self, and_self, e8a, e8b, e4a, e4b, e3a, e3b, g_inN, g_bb0, g_bb1, g_bbI, nI_clamp, pl4, pl4b, pl8, pl8b, thr_r, thr_s, d20, d21, d23, d24, d25, d30, d31, d32, d34, d35, d40, d41, d42, d43, d45, d50, d51, d52, d53, d54, d02, d03, d04, d05, d12, d13, d14, d15, ena, enb, h1, h2, hlo]
  exact LKp H (c_hall hN I) hr k0B
theorem k_hall3 {j : Nat} (hN : 600 ≤ N) (I : INV M R) (H : PK T0 nb nl nr tn dn M R) (hj : j < 3) : ∃ M2, (∀ {β : Type} (F : Int32 → gq_M → Option β), gq_y0 (f_X9_hall N (nI j) 3 M) (fun v Cv => gq_l (mrg 109 Cv M) fun M9 => F v M9) = F (R 39 j) M2) ∧ INV M2 R ∧ PK T0 nb nl nr tn dn M2 R ∧ ∀ k, 109 ≤ k → M2 k = M k := by
  have hnb := pq_nb H
  have hnl := pq_nl H
  have hb40 := hnb.2.2
  have h1 : vp_in (nI j) 3 := vpY hj (by omega)
  have h2 : (0 : Int32) ≤ 3 ∧ (3 : Int32) ≤ 4 := by decide
  have hlo : f_X10_lotsOf N (nI j) (thr R 0) = some (nI (cnt (rg 0 nl) (isNd (R 31) (R 32) j)), thr R 0) := r_lotsOf (N := N) (M := thr R 0) (nl := nl) (h := j) hnl.2.1 (by omega) hN
  have hr : f_X10_hall N (nI j) 3 R = some (R 39 j, thr R 0) := by
    simp (disch := omega) only [f_X10_hall_94, f_X10_hall_26, f_X10_hall, r_isEight, r_isKind, r_isHall, r_areCents, r_isBox, r_isIn, r_fails, gq_b_s, gq_l_e, bI_z, Classical.not_not, reduceIte, not_true_eq_false, not_false_eq_true, f01, f02, f03, f00, f10, f01b, ite_not, ite_self, and_self, e8a, e8b, e4a, e4b, e3a, e3b, g_inN, g_bb0, g_bb1, g_bbI, nI_clamp, pl4, pl4b, pl8, pl8b, thr_r, thr_s, d20, d21, d23, d24, d25, d30, d31, d32, d34, d35, d40, d41, d42, d43, d45, d50, d51, d52, d53, d54, d02, d03, d04, d05, d12, d13, d14, d15, ena, enb, h1, h2, hlo]
  exact LKp H (c_hall hN I) hr k0B
theorem k_hall4 {j : Nat} (hN : 600 ≤ N) (I : INV M R) (H : PK T0 nb nl nr tn dn M R) (hj : j < 3) : ∃ M2, (∀ {β : Type} (F : Int32 → gq_M → Option β), gq_y0 (f_X9_hall N (nI j) 4 M) (fun v Cv => gq_l (mrg 109 Cv M) fun M9 => F v M9) = F (nI (cnt (rg 0 nl) (isNd (R 31) (R 32) j))) M2) ∧ INV M2 R ∧ PK T0 nb nl nr tn dn M2 R ∧ ∀ k, 109 ≤ k → M2 k = M k := by
  have hnb := pq_nb H
  have hnl := pq_nl H
  have hb40 := hnb.2.2
  have h1 : vp_in (nI j) 3 := vpY hj (by omega)
  have h2 : (0 : Int32) ≤ 4 ∧ (4 : Int32) ≤ 4 := by decide
  have hlo : f_X10_lotsOf N (nI j) (thr R 0) = some (nI (cnt (rg 0 nl) (isNd (R 31) (R 32) j)), thr R 0) := r_lotsOf (N := N) (M := thr R 0) (nl := nl) (h := j) hnl.2.1 (by omega) hN
  have hr : f_X10_hall N (nI j) 4 R = some (nI (cnt (rg 0 nl) (isNd (R 31) (R 32) j)), thr R 0) := by
    simp (disch := omega) only [f_X10_hall_94, f_X10_hall_26, f_X10_hall, r_isEight, r_isKind, r_isHall, r_areCents, r_isBox, r_isIn, r_fails, gq_b_s, gq_l_e, bI_z, Classical.not_not, reduceIte, not_true_eq_false, not_false_eq_true, f01, f02, f03, f00, f10, f01b, ite_not, ite_self, and_self, e8a, e8b, e4a, e4b, e3a, e3b, g_inN, g_bb0, g_bb1, g_bbI, nI_clamp, pl4, pl4b, pl8, pl8b, thr_r, thr_s, d20, d21, d23, d24, d25, d30, d31, d32, d34, d35, d40, d41, d42, d43, d45, d50, d51, d52, d53, d54, d02, d03, d04, d05, d12, d13, d14, d15, ena, enb, h1, h2, hlo]
  exact LKp H (c_hall hN I) hr k0B
theorem k_account0 {j : Nat} (hN : 600 ≤ N) (I : INV M R) (H : PK T0 nb nl nr tn dn M R) (hj : j < 8) : ∃ M2, (∀ {β : Type} (F : Int32 → gq_M → Option β), gq_y0 (f_X9_account N (nI j) 0 M) (fun v Cv => gq_l (mrg 109 Cv M) fun M9 => F v M9) = F (R 9 j) M2) ∧ INV M2 R ∧ PK T0 nb nl nr tn dn M2 R ∧ ∀ k, 109 ≤ k → M2 k = M k := by
  have hnb := pq_nb H
  have hnl := pq_nl H
  have hb40 := hnb.2.2
  have h1 : vp_in (nI j) 8 := vpY hj (by omega)
  have h2 : (0 : Int32) ≤ 0 ∧ (0 : Int32) ≤ 2 := by decide
  have hR : ∀ w : Int32, f_X10_account_39 N N (nI j) w 0 0 (thr R 0) = _ := fun w => r_account_l (w := w) (M := thr R 0) (nb := nb) hnb.2.1 (by omega) hj nb 0 N 0 (by omega) (by omega)
  have hr : f_X10_account N (nI j) 0 R = some (R 9 j, thr R 0) := by
    simp (disch := omega) only [f_X10_account_26, f_X10_account, r_isEight, r_isKind, r_isHall, r_areCents, r_isBox, r_isIn, r_fails, gq_b_s, gq_l_e, bI_z, Classical.not_not, reduceIte, not_true_eq_false, not_false_eq_true, f01, f02, f03, f00, f10, f01b, ite_not, ite_self, and_self, e8a, e8b, e4a, e4b, e3a, e3b, g_inN, g_bb0, g_bb1, g_bbI, nI_clamp, pl4, pl4b, pl8, pl8b, thr_r, thr_s, d20, d21, d23, d24, d25, d30, d31, d32, d34, d35, d40, d41, d42, d43, d45, d50, d51, d52, d53, d54, d02, d03, d04, d05, d12, d13, d14, d15, ena, enb, h1, h2, hR]
  exact LKp H (c_account hN I) hr k0B
theorem k_account1 {j : Nat} (hN : 600 ≤ N) (I : INV M R) (H : PK T0 nb nl nr tn dn M R) (hj : j < 8) : ∃ M2, (∀ {β : Type} (F : Int32 → gq_M → Option β), gq_y0 (f_X9_account N (nI j) 1 M) (fun v Cv => gq_l (mrg 109 Cv M) fun M9 => F v M9) = F (R 11 j) M2) ∧ INV M2 R ∧ PK T0 nb nl nr tn dn M2 R ∧ ∀ k, 109 ≤ k → M2 k = M k := by
  have hnb := pq_nb H
  have hnl := pq_nl H
  have hb40 := hnb.2.2
  have h1 : vp_in (nI j) 8 := vpY hj (by omega)
  have h2 : (0 : Int32) ≤ 1 ∧ (1 : Int32) ≤ 2 := by decide
  have hR : ∀ w : Int32, f_X10_account_39 N N (nI j) w 0 0 (thr R 0) = _ := fun w => r_account_l (w := w) (M := thr R 0) (nb := nb) hnb.2.1 (by omega) hj nb 0 N 0 (by omega) (by omega)
  have hr : f_X10_account N (nI j) 1 R = some (R 11 j, thr R 0) := by
    simp (disch := omega) only [f_X10_account_26, f_X10_account, r_isEight, r_isKind, r_isHall, r_areCents, r_isBox, r_isIn, r_fails, gq_b_s, gq_l_e, bI_z, Classical.not_not, reduceIte, not_true_eq_false, not_false_eq_true, f01, f02, f03, f00, f10, f01b, ite_not, ite_self, and_self, e8a, e8b, e4a, e4b, e3a, e3b, g_inN, g_bb0, g_bb1, g_bbI, nI_clamp, pl4, pl4b, pl8, pl8b, thr_r, thr_s, d20, d21, d23, d24, d25, d30, d31, d32, d34, d35, d40, d41, d42, d43, d45, d50, d51, d52, d53, d54, d02, d03, d04, d05, d12, d13, d14, d15, ena, enb, h1, h2, hR]
  exact LKp H (c_account hN I) hr k0B
theorem k_account2 {j : Nat} (hN : 600 ≤ N) (I : INV M R) (H : PK T0 nb nl nr tn dn M R) (hj : j < 8) : ∃ M2, (∀ {β : Type} (F : Int32 → gq_M → Option β), gq_y0 (f_X9_account N (nI j) 2 M) (fun v Cv => gq_l (mrg 109 Cv M) fun M9 => F v M9) = F (0 + nI (cnt (rg 0 nb) (fun b => decide (R 21 b = nI j)))) M2) ∧ INV M2 R ∧ PK T0 nb nl nr tn dn M2 R ∧ ∀ k, 109 ≤ k → M2 k = M k := by
  have hnb := pq_nb H
  have hnl := pq_nl H
  have hb40 := hnb.2.2
  have h1 : vp_in (nI j) 8 := vpY hj (by omega)
  have h2 : (0 : Int32) ≤ 2 ∧ (2 : Int32) ≤ 2 := by decide
  have hR : ∀ w : Int32, f_X10_account_39 N N (nI j) w 0 0 (thr R 0) = _ := fun w => r_account_l (w := w) (M := thr R 0) (nb := nb) hnb.2.1 (by omega) hj nb 0 N 0 (by omega) (by omega)
  have hr : f_X10_account N (nI j) 2 R = some (0 + nI (cnt (rg 0 nb) (fun b => decide (R 21 b = nI j))), thr R 0) := by
    simp (disch := omega) only [f_X10_account_26, f_X10_account, r_isEight, r_isKind, r_isHall, r_areCents, r_isBox, r_isIn, r_fails, gq_b_s, gq_l_e, bI_z, Classical.not_not, reduceIte, not_true_eq_false, not_false_eq_true, f01, f02, f03, f00, f10, f01b, ite_not, ite_self, and_self, e8a, e8b, e4a, e4b, e3a, e3b, g_inN, g_bb0, g_bb1, g_bbI, nI_clamp, pl4, pl4b, pl8, pl8b, thr_r, thr_s, d20, d21, d23, d24, d25, d30, d31, d32, d34, d35, d40, d41, d42, d43, d45, d50, d51, d52, d53, d54, d02, d03, d04, d05, d12, d13, d14, d15, ena, enb, h1, h2, hR]
  exact LKp H (c_account hN I) hr k0B
theorem k_ship0 {j : Nat} (hN : 600 ≤ N) (I : INV M R) (H : PK T0 nb nl nr tn dn M R) (hj : j < 8) : ∃ M2, (∀ {β : Type} (F : Int32 → gq_M → Option β), gq_y0 (f_X9_ship N (nI j) 0 M) (fun v Cv => gq_l (mrg 109 Cv M) fun M9 => F v M9) = F (R 5 j) M2) ∧ INV M2 R ∧ PK T0 nb nl nr tn dn M2 R ∧ ∀ k, 109 ≤ k → M2 k = M k := by
  have hnb := pq_nb H
  have hnl := pq_nl H
  have hb40 := hnb.2.2
  have h1 : vp_in (nI j) 8 := vpY hj (by omega)
  have h2 : (0 : Int32) ≤ 0 ∧ (0 : Int32) ≤ 2 := by decide
  have hR : ∀ w : Int32, f_X10_ship_41 N N (nI j) w 0 (nI (4 * j)) (thr R 0) = _ := fun w => r_ship_l (w := w) (M := thr R 0) hj 4 (4 * j) N 0 (by omega) (by omega)
  have hr : f_X10_ship N (nI j) 0 R = some (R 5 j, thr R 0) := by
    simp (disch := omega) only [f_X10_ship_26, f_X10_ship, r_isEight, r_isKind, r_isHall, r_areCents, r_isBox, r_isIn, r_fails, gq_b_s, gq_l_e, bI_z, Classical.not_not, reduceIte, not_true_eq_false, not_false_eq_true, f01, f02, f03, f00, f10, f01b, ite_not, ite_self, and_self, e8a, e8b, e4a, e4b, e3a, e3b, g_inN, g_bb0, g_bb1, g_bbI, nI_clamp, pl4, pl4b, pl8, pl8b, thr_r, thr_s, d20, d21, d23, d24, d25, d30, d31, d32, d34, d35, d40, d41, d42, d43, d45, d50, d51, d52, d53, d54, d02, d03, d04, d05, d12, d13, d14, d15, ena, enb, h1, h2, hR, pl4z]
  exact LKp H (c_ship hN I) hr k0B
theorem k_ship1 {j : Nat} (hN : 600 ≤ N) (I : INV M R) (H : PK T0 nb nl nr tn dn M R) (hj : j < 8) : ∃ M2, (∀ {β : Type} (F : Int32 → gq_M → Option β), gq_y0 (f_X9_ship N (nI j) 1 M) (fun v Cv => gq_l (mrg 109 Cv M) fun M9 => F v M9) = F (R 3 j) M2) ∧ INV M2 R ∧ PK T0 nb nl nr tn dn M2 R ∧ ∀ k, 109 ≤ k → M2 k = M k := by
  have hnb := pq_nb H
  have hnl := pq_nl H
  have hb40 := hnb.2.2
  have h1 : vp_in (nI j) 8 := vpY hj (by omega)
  have h2 : (0 : Int32) ≤ 1 ∧ (1 : Int32) ≤ 2 := by decide
  have hR : ∀ w : Int32, f_X10_ship_41 N N (nI j) w 0 (nI (4 * j)) (thr R 0) = _ := fun w => r_ship_l (w := w) (M := thr R 0) hj 4 (4 * j) N 0 (by omega) (by omega)
  have hr : f_X10_ship N (nI j) 1 R = some (R 3 j, thr R 0) := by
    simp (disch := omega) only [f_X10_ship_26, f_X10_ship, r_isEight, r_isKind, r_isHall, r_areCents, r_isBox, r_isIn, r_fails, gq_b_s, gq_l_e, bI_z, Classical.not_not, reduceIte, not_true_eq_false, not_false_eq_true, f01, f02, f03, f00, f10, f01b, ite_not, ite_self, and_self, e8a, e8b, e4a, e4b, e3a, e3b, g_inN, g_bb0, g_bb1, g_bbI, nI_clamp, pl4, pl4b, pl8, pl8b, thr_r, thr_s, d20, d21, d23, d24, d25, d30, d31, d32, d34, d35, d40, d41, d42, d43, d45, d50, d51, d52, d53, d54, d02, d03, d04, d05, d12, d13, d14, d15, ena, enb, h1, h2, hR, pl4z]
  exact LKp H (c_ship hN I) hr k0B
theorem k_ship2 {j : Nat} (hN : 600 ≤ N) (I : INV M R) (H : PK T0 nb nl nr tn dn M R) (hj : j < 8) : ∃ M2, (∀ {β : Type} (F : Int32 → gq_M → Option β), gq_y0 (f_X9_ship N (nI j) 2 M) (fun v Cv => gq_l (mrg 109 Cv M) fun M9 => F v M9) = F (0 + lsum (rg (4 * j) 4) (R 2)) M2) ∧ INV M2 R ∧ PK T0 nb nl nr tn dn M2 R ∧ ∀ k, 109 ≤ k → M2 k = M k := by
  have hnb := pq_nb H
  have hnl := pq_nl H
  have hb40 := hnb.2.2
  have h1 : vp_in (nI j) 8 := vpY hj (by omega)
  have h2 : (0 : Int32) ≤ 2 ∧ (2 : Int32) ≤ 2 := by decide
  have hR : ∀ w : Int32, f_X10_ship_41 N N (nI j) w 0 (nI (4 * j)) (thr R 0) = _ := fun w => r_ship_l (w := w) (M := thr R 0) hj 4 (4 * j) N 0 (by omega) (by omega)
  have hr : f_X10_ship N (nI j) 2 R = some (0 + lsum (rg (4 * j) 4) (R 2), thr R 0) := by
    simp (disch := omega) only [f_X10_ship_26, f_X10_ship, r_isEight, r_isKind, r_isHall, r_areCents, r_isBox, r_isIn, r_fails, gq_b_s, gq_l_e, bI_z, Classical.not_not, reduceIte, not_true_eq_false, not_false_eq_true, f01, f02, f03, f00, f10, f01b, ite_not, ite_self, and_self, e8a, e8b, e4a, e4b, e3a, e3b, g_inN, g_bb0, g_bb1, g_bbI, nI_clamp, pl4, pl4b, pl8, pl8b, thr_r, thr_s, d20, d21, d23, d24, d25, d30, d31, d32, d34, d35, d40, d41, d42, d43, d45, d50, d51, d52, d53, d54, d02, d03, d04, d05, d12, d13, d14, d15, ena, enb, h1, h2, hR, pl4z]
  exact LKp H (c_ship hN I) hr k0B
theorem k_kilos {w : Nat} (hN : 600 ≤ N) (I : INV M R) (H : PK T0 nb nl nr tn dn M R) (hw : w < 6) : ∃ M2, (∀ {β : Type} (F : Int32 → gq_M → Option β), gq_y0 (f_X9_kilos N (nI w) M) (fun v Cv => gq_l (mrg 109 Cv M) fun M9 => F v M9) = F (0 + lsum (rg 0 nb) (fun b => if inS (R 19 b) w = true then R 17 b else 0)) M2) ∧ INV M2 R ∧ PK T0 nb nl nr tn dn M2 R ∧ ∀ k, 109 ≤ k → M2 k = M k := by
  have hnb := pq_nb H
  have hnl := pq_nl H
  have hb40 := hnb.2.2
  have h1 : (0 : Int32) ≤ nI w ∧ nI w ≤ (5 : Int32) := ibt (a := 0) (b := 5) ⟨Nat.zero_le _, by omega⟩ (by omega)
  have hs : rngs nb 0 7 (R 19) := fun b hb => by
    obtain ⟨bo, ki, si, fr, st, wc, cl, kl, re, so, q1, q2, -⟩ := pq_bx H b hb
    exact ⟨st, by omega, by omega, q2.2.2.2.2.1⟩
  have hR : f_X10_kilos_27 N N (nI w) 0 0 (thr R 0) = _ := r_kilos_l (w := w) (nb := nb) (M := thr R 0) hnb.2.1 (by omega) hs hw nb 0 N 0 (by omega) (by omega)
  have hr : f_X10_kilos N (nI w) R = some (0 + lsum (rg 0 nb) (fun b => if inS (R 19 b) w = true then R 17 b else 0), thr R 0) := by
    simp (disch := omega) only [f_X10_kilos_15, f_X10_kilos, r_isEight, r_isKind, r_isHall, r_areCents, r_isBox, r_isIn, r_fails, gq_b_s, gq_l_e, bI_z, Classical.not_not, reduceIte, not_true_eq_false, not_false_eq_true, f01, f02, f03, f00, f10, f01b, ite_not, ite_self, and_self, e8a, e8b, e4a, e4b, e3a, e3b, g_inN, g_bb0, g_bb1, g_bbI, nI_clamp, pl4, pl4b, pl8, pl8b, thr_r, thr_s, d20, d21, d23, d24, d25, d30, d31, d32, d34, d35, d40, d41, d42, d43, d45, d50, d51, d52, d53, d54, d02, d03, d04, d05, d12, d13, d14, d15, ena, enb, h1, hR]
  exact LKp H (c_kilos hN I) hr k0G
theorem k_kilosAnew {w : Nat} (hN : 600 ≤ N) (I : INV M R) (H : PK T0 nb nl nr tn dn M R) (hw : w < 6) : ∃ M2, (∀ {β : Type} (F : Int32 → gq_M → Option β), gq_y0 (f_X9_kilosAnew N (nI w) M) (fun v Cv => gq_l (mrg 109 Cv M) fun M9 => F v M9) = F (0 + lsum (rg 0 nb) (fun b => if inS (R 19 b) w = true then R 17 b else 0)) M2) ∧ INV M2 R ∧ PK T0 nb nl nr tn dn M2 R ∧ ∀ k, 109 ≤ k → M2 k = M k := by
  have hnb := pq_nb H
  have hnl := pq_nl H
  have hb40 := hnb.2.2
  have h1 : (0 : Int32) ≤ nI w ∧ nI w ≤ (5 : Int32) := ibt (a := 0) (b := 5) ⟨Nat.zero_le _, by omega⟩ (by omega)
  have hs : rngs nb 0 7 (R 19) := fun b hb => by
    obtain ⟨bo, ki, si, fr, st, wc, cl, kl, re, so, q1, q2, -⟩ := pq_bx H b hb
    exact ⟨st, by omega, by omega, q2.2.2.2.2.1⟩
  have hR : f_X10_kilos_27 N N (nI w) 0 0 (thr R 0) = _ := r_kilos_l (w := w) (nb := nb) (M := thr R 0) hnb.2.1 (by omega) hs hw nb 0 N 0 (by omega) (by omega)
  have hr : f_X10_kilosAnew N (nI w) R = some (0 + lsum (rg 0 nb) (fun b => if inS (R 19 b) w = true then R 17 b else 0), thr R 0) := by
    simp (disch := omega) only [f_X10_kilosAnew, f_X10_kilos_15, f_X10_kilos, r_isEight, r_isKind, r_isHall, r_areCents, r_isBox, r_isIn, r_fails, gq_b_s, gq_l_e, bI_z, Classical.not_not, reduceIte, not_true_eq_false, not_false_eq_true, f01, f02, f03, f00, f10, f01b, ite_not, ite_self, and_self, e8a, e8b, e4a, e4b, e3a, e3b, g_inN, g_bb0, g_bb1, g_bbI, nI_clamp, pl4, pl4b, pl8, pl8b, thr_r, thr_s, d20, d21, d23, d24, d25, d30, d31, d32, d34, d35, d40, d41, d42, d43, d45, d50, d51, d52, d53, d54, d02, d03, d04, d05, d12, d13, d14, d15, ena, enb, h1, hR]
  exact LKp H (c_kilosAnew hN I) hr k0G
theorem k_loaded {j : Nat} (hN : 600 ≤ N) (I : INV M R) (H : PK T0 nb nl nr tn dn M R) (hj : j < nr) (hr1 : R 0 49 = nI nr) (hr2 : nr ≤ 10) : ∃ M2, (∀ {β : Type} (F : Int32 → gq_M → Option β), gq_y0 (f_X9_loaded N (nI j) M) (fun v Cv => gq_l (mrg 109 Cv M) fun M9 => F v M9) = F (R 47 j) M2) ∧ INV M2 R ∧ PK T0 nb nl nr tn dn M2 R ∧ ∀ k, 109 ≤ k → M2 k = M k := by
  have hnb := pq_nb H
  have hnl := pq_nl H
  have hb40 := hnb.2.2
  have h1 : vp_in (nI j) nr := vpY hj (by omega)
  have hr : f_X10_loaded N (nI j) R = some (R 47 j, thr R 0) := by
    simp (disch := omega) only [f_X10_loaded_36, f_X10_loaded_20, f_X10_loaded, r_isEight, r_isKind, r_isHall, r_areCents, r_isBox, r_isIn, r_fails, gq_b_s, gq_l_e, bI_z, Classical.not_not, reduceIte, not_true_eq_false, not_false_eq_true, f01, f02, f03, f00, f10, f01b, ite_not, ite_self, and_self, e8a, e8b, e4a, e4b, e3a, e3b, g_inN, g_bb0, g_bb1, g_bbI, nI_clamp, pl4, pl4b, pl8, pl8b, thr_r, thr_s, d20, d21, d23, d24, d25, d30, d31, d32, d34, d35, d40, d41, d42, d43, d45, d50, d51, d52, d53, d54, d02, d03, d04, d05, d12, d13, d14, d15, ena, enb, h1, hr1]
  exact LKp H (c_loaded hN I) hr k0A
abbrev isA (R : gq_M) (ki dy b : Nat) : Prop := R 14 b = nI ki ∧ ¬ R 21 b = -1 ∧ R 24 b = nI dy
theorem k_average {ki dy : Nat} (hN : 600 ≤ N) (I : INV M R) (H : PK T0 nb nl nr tn dn M R) (hki : ki < 4) (hdy : dy ≤ dn) (hd : R 0 1 = nI dn) (hd2 : dn ≤ 100) : ∃ M2, (∀ {β : Type} (F : Int32 → gq_M → Option β), gq_y0 (f_X9_average N (nI ki) (nI dy) M) (fun v Cv => gq_l (mrg 109 Cv M) fun M9 => F v M9) = F (if 0 + lsum (rg 0 nb) (fun b => if isA R ki dy b then R 17 b else 0) = 0 then -1 else (0 + lsum (rg 0 nb) (fun b => if isA R ki dy b then R 17 b * R 22 b else 0)) / (0 + lsum (rg 0 nb) (fun b => if isA R ki dy b then R 17 b else 0))) M2) ∧ INV M2 R ∧ PK T0 nb nl nr tn dn M2 R ∧ ∀ k, 109 ≤ k → M2 k = M k := by
  have hnb := pq_nb H
  have hb40 := hnb.2.2
  have h1 : vp_in (nI ki) 4 := vpY hki (by omega)
  have h2 : (0 : Int32) ≤ nI dy ∧ nI dy ≤ nI dn := ibt (a := 0) (b := dn) ⟨Nat.zero_le _, hdy⟩ (by omega)
  have hR : f_X10_average_45 N N (nI ki) (nI dy) 0 0 0 (thr R 0) = avR (thr R 0) (0 + lsum (rg 0 nb) (fun b => if isA R ki dy b then R 17 b * R 22 b else 0)) (0 + lsum (rg 0 nb) (fun b => if isA R ki dy b then R 17 b else 0)) := r_average_l (x1 := nI ki) (x2 := nI dy) (nb := nb) (M := thr R 0) hnb.2.1 (by omega) nb 0 N 0 0 (by omega) (by omega)
  generalize (0 + lsum (rg 0 nb) (fun b => if isA R ki dy b then R 17 b * R 22 b else 0)) = x at hR ⊢
  generalize (0 + lsum (rg 0 nb) (fun b => if isA R ki dy b then R 17 b else 0)) = y at hR ⊢
  have hr : f_X10_average N (nI ki) (nI dy) R = some ((if y = 0 then -1 else x / y), thr R 0) := by
    simp (disch := omega) only [f_X10_average_29, f_X10_average, r_isEight, r_isKind, r_isHall, r_areCents, r_isBox, r_isIn, r_fails, gq_b_s, gq_l_e, bI_z, Classical.not_not, reduceIte, not_true_eq_false, not_false_eq_true, f01, f02, f03, f00, f10, f01b, ite_not, ite_self, and_self, e8a, e8b, e4a, e4b, e3a, e3b, g_inN, g_bb0, g_bb1, g_bbI, nI_clamp, pl4, pl4b, pl8, pl8b, thr_r, thr_s, d20, d21, d23, d24, d25, d30, d31, d32, d34, d35, d40, d41, d42, d43, d45, d50, d51, d52, d53, d54, d02, d03, d04, d05, d12, d13, d14, d15, ena, enb, h1, h2, hd, hR]
    unfold avR
    by_cases c : y = 0
    · rw [if_pos c, if_pos c]
    · rw [if_neg c, if_neg c, gq_g_t (b := gq_nz y) (decide_eq_true c)]
  exact LKp H (c_average hN I) hr k0B
end

