/-! lorries leave; a tick -/
section
variable {S : Nat → Prop} {N h nb nl nr tn dn : Nat} {M R : gq_M}
theorem pk_a0 {b : Nat} (H : PK S nb nl nr tn dn M R) (hb : b < nb) : PK S nb nl nr tn dn (gq_up M 109 b (M 109 b + 2048 * (R 19 b - R 19 b))) R := by
  obtain ⟨hnb, hnl, hnr, htn, hdn, hop, hdr, hkd, hby, hqu, hbt, hha, hpr, hbx, hbz, hlt, hlo⟩ := H
  have e : M 109 b + 2048 * (R 19 b - R 19 b) = M 109 b := by
    rw [Int32.sub_self, Int32.mul_zero, Int32.add_zero]
  refine ⟨hnb, hnl, hnr, htn, hdn, hop, hdr, hkd, hby, hqu, hbt, hha, hpr, fun j hj => ?_, hbz, hlt, hlo⟩
  by_cases c : j = b
  · subst c
    obtain ⟨bo, ki, si, fr, st, wc, cl, kl, re, so, h1, h2, h3, h4⟩ := hbx j hj
    exact ⟨bo, ki, si, fr, st, wc, cl, kl, re, so, h1, h2, (up_same _ _ _ _).trans (e.trans h3), h4⟩
  · exact BX_cg (hbx j hj) (fun a h1 h2 => up_no (by omega)) (fun a _ _ => rfl)
theorem pk_gone {b : Nat} (H : PK S nb nl nr tn dn M R) (hb : b < nb) (hs : R 19 b = 3) : PK S nb nl nr tn dn (gq_up M 109 b (M 109 b + 2048 * (4 - 3))) (gq_up R 19 b 4) := by
  obtain ⟨hnb, hnl, hnr, htn, hdn, hop, hdr, hkd, hby, hqu, hbt, hha, hpr, hbx, hbz, hlt, hlo⟩ := H
  refine ⟨hnb, hnl, hnr, htn, hdn, hop, hdr, hkd, hby, hqu, hbt, hha, hpr, fun j hj => ?_, hbz, hlt, hlo⟩
  by_cases c : j = b
  · subst c
    obtain ⟨bo, ki, si, fr, st, wc, cl, kl, re, so, h1, h2, h3, h4⟩ := hbx j hj
    obtain ⟨g1, g2, g3, g4, g5, g6, g7, g8, g9⟩ := h2
    rw [hs] at g5
    have hst : st = 3 := ((nI_j (a := 3) (by omega) (by omega)).mp g5).symm
    subst hst
    refine ⟨bo, ki, si, fr, 4, wc, cl, kl, re, so, by omega, ⟨g1, g2, g3, g4, up_same _ _ _ _, g6, g7, g8, g9⟩, ?_, h4⟩
    rw [up_same, h3, nI_ad (x := 2048 * (4 - 3)) (m := 2048) (by decide)]
    congr 1; omega
  · exact BX_cg (hbx j hj) (fun a h1 h2 => up_no (by omega)) (fun a h1 h2 => up_no (by omega))
theorem b_how {β : Type} {b : Nat} {F : Int32 → gq_M → Option β} (h : BX M R b) (hb : b < 40) : gq_b (f_L_how N (nI b) M) F = F (R 19 b) M := by rw [l_how h hb]; rfl
set_option maxHeartbeats 4000000 in
theorem s2_leaves_l {kh : Int32 → gq_M → Option (Int32 × gq_M)} {j : Nat} (hj : j < 10) : ∀ (k i n8 n9 c : Nat) (M R : gq_M), PK S nb nl nr tn dn M R → j < nr → i + k = nb → k < n8 → k < n9 → c ≤ i → ∃ M2 R2, f_L_passes_98 N kh n8 (nI j) (nI c) (nI i) M = kh (nI (j + 1)) M2 ∧ f_X10_leaves_4 N n9 (nI j) (nI c) (nI i) R = some (0, R2) ∧ PK S nb nl nr tn dn M2 R2 ∧ R2 0 = R 0 := by
  intro k
  induction k with
  | zero =>
    intro i n8 n9 c M R H hr hi h8 h9 hc
    obtain ⟨n8, rfl⟩ : ∃ z, n8 = z + 1 := ⟨n8 - 1, by omega⟩
    obtain ⟨n9, rfl⟩ : ∃ z, n9 = z + 1 := ⟨n9 - 1, by omega⟩
    have H0 := H
    obtain ⟨hnb, hnl, hnr, htn, hdn, hop, hdr, hkd, hby, hqu, hbt, hha, hpr, hbx, hbz, hlt, hlo⟩ := H0
    have he : nb ≤ i := by omega
    have e4 : 4 * nI j + 3 = nI (4 * j + 3) := pl4b j 3
    refine ⟨gq_up M 122 (4 * j + 3) (nI c), gq_up R 47 j (nI c), ?_, ?_, ?_, rfl⟩
    · show f_L_passes_98_b N kh (f_L_passes_98 N kh n8) (nI j) (nI c) (nI i) M = _
      unfold f_L_passes_98_b f_L_passes_210
      simp (disch := omega) only [gi4_56, cl4, gq_l_e, hnb.1, nI_leI, he, ↓reduceIte, e4, g_inN, nI_clamp, nI_1]
    · show f_X10_leaves_4_b N (f_X10_leaves_4 N n9) (nI j) (nI c) (nI i) R = _
      unfold f_X10_leaves_4_b
      simp (disch := omega) only [hnb.2.1, nI_leI, he, ↓reduceIte, g_inN, nI_clamp, gq_l_e]
    · refine ⟨hnb, hnl, hnr, htn, hdn, hop, hdr, hkd, hby, hqu, hbt, hha, hpr, hbx, hbz, hlt, fun q hq => ?_⟩
      obtain ⟨a1, a2, a3, a4⟩ := hlo q hq
      by_cases e : q = j
      · subst e
        simp (disch := omega) only [up_no, up_same]
        exact ⟨a1, a2, a3, trivial⟩
      · simp (disch := omega) only [up_no]
        exact ⟨a1, a2, a3, a4⟩
  | succ k ih =>
    intro i n8 n9 c M R H hr hi h8 h9 hc
    obtain ⟨n8, rfl⟩ : ∃ z, n8 = z + 1 := ⟨n8 - 1, by omega⟩
    obtain ⟨n9, rfl⟩ : ∃ z, n9 = z + 1 := ⟨n9 - 1, by omega⟩
    have H0 := H
    obtain ⟨hnb, hnl, hnr, htn, hdn, hop, hdr, hkd, hby, hqu, hbt, hha, hpr, hbx, hbz, hlt, hlo⟩ := H0
    have he : ¬ nb ≤ i := by omega
    have hB := hbx i (by omega)
    have hi40 : i < 40 := by omega
    have e40 : 4 * nI j = nI (4 * j) := pl4z j
    have e42 : nI (4 * j) + 2 = nI (4 * j + 2) := by rw [show (2 : Int32) = nI 2 from rfl, nI_add]
    obtain ⟨a1, a2, a3, a4⟩ := hlo j hr
    have hd := (BX_d hB).1
    have ea5 := (BX_a hB).2.2.2.2.1
    obtain ⟨M2, R2, t1, t2, t3, t4⟩ := ih (i + 1) n8 n9 c _ _ (pk_a0 H (b := i) (by omega)) hr (by omega) (by omega) (by omega) (by omega)
    have no : (¬ R 19 i = 3 ∨ ¬ R 21 i = R 44 j ∨ R 46 j ≤ nI c) → ∃ M2 R2, f_L_passes_98 N kh (n8 + 1) (nI j) (nI c) (nI i) M = kh (nI (j + 1)) M2 ∧ f_X10_leaves_4 N (n9 + 1) (nI j) (nI c) (nI i) R = some (0, R2) ∧ PK S nb nl nr tn dn M2 R2 ∧ R2 0 = R 0 := by
      intro hno
      refine ⟨M2, R2, Eq.trans ?_ t1, Eq.trans ?_ t2, t3, t4⟩
      · show f_L_passes_98_b N kh (f_L_passes_98 N kh n8) (nI j) (nI c) (nI i) M = _
        generalize f_L_passes_98 N kh n8 = G
        unfold f_L_passes_98_b f_L_passes_154 f_L_passes_155 f_L_passes_175 f_L_passes_190
        by_cases c1 : R 19 i = 3
        · by_cases c2 : R 21 i = R 44 j
          · have c3 : R 46 j ≤ nI c := hno.elim (fun z => absurd c1 z) (fun z => z.elim (fun z => absurd c2 z) id)
            simp (maxSteps := 1000000) (disch := omega) only [gi4_56, cl4, gq_l_e, hnb.1, nI_leI, he, ↓reduceIte, b_how hB hi40, c1, g_inN, nI_clamp, hd, e40, a1, eq_true c2, e42, a3, eq_true c3, b_becomes hi40, ea5, Int32.add_zero, nI_1]
          · simp (maxSteps := 1000000) (disch := omega) only [gi4_56, cl4, gq_l_e, hnb.1, nI_leI, he, ↓reduceIte, b_how hB hi40, c1, g_inN, nI_clamp, hd, e40, a1, eq_false c2, b_becomes hi40, ea5, Int32.add_zero, nI_1]
        · simp (maxSteps := 1000000) (disch := omega) only [gi4_56, cl4, gq_l_e, hnb.1, nI_leI, he, ↓reduceIte, b_how hB hi40, eq_false c1, b_becomes hi40, ea5, Int32.add_zero, nI_1]
      · show f_X10_leaves_4_b N (f_X10_leaves_4 N n9) (nI j) (nI c) (nI i) R = _
        unfold f_X10_leaves_4_b f_X10_leaves_57
        by_cases c1 : R 19 i = 3
        · by_cases c2 : R 21 i = R 44 j
          · have c3 : R 46 j ≤ nI c := hno.elim (fun z => absurd c1 z) (fun z => z.elim (fun z => absurd c2 z) id)
            simp (disch := omega) only [hnb.2.1, nI_leI, he, ↓reduceIte, g_inN, nI_clamp, gq_l_e, c1, c2, eq_true c3, nI_1]
          · simp (disch := omega) only [hnb.2.1, nI_leI, he, ↓reduceIte, g_inN, nI_clamp, gq_l_e, c1, eq_false c2, nI_1]
        · simp (disch := omega) only [hnb.2.1, nI_leI, he, ↓reduceIte, g_inN, nI_clamp, gq_l_e, eq_false c1, nI_1]
    by_cases c1 : R 19 i = 3
    · by_cases c2 : R 21 i = R 44 j
      · by_cases c3 : R 46 j ≤ nI c
        · exact no (Or.inr (Or.inr c3))
        · obtain ⟨M2, R2, t1, t2, t3, t4⟩ := ih (i + 1) n8 n9 (c + 1) _ _ (pk_gone H (b := i) (by omega) c1) hr (by omega) (by omega) (by omega) (by omega)
          rw [c1] at ea5
          refine ⟨M2, R2, Eq.trans ?_ t1, Eq.trans ?_ t2, t3, t4⟩
          · show f_L_passes_98_b N kh (f_L_passes_98 N kh n8) (nI j) (nI c) (nI i) M = _
            generalize f_L_passes_98 N kh n8 = G
            unfold f_L_passes_98_b f_L_passes_154 f_L_passes_155 f_L_passes_175 f_L_passes_190
            simp (maxSteps := 1000000) (disch := omega) only [gi4_56, cl4, gq_l_e, hnb.1, nI_leI, he, ↓reduceIte, b_how hB hi40, c1, g_inN, nI_clamp, hd, e40, a1, eq_true c2, e42, a3, eq_false c3, f10, b_becomes hi40, ea5, nI_1]
          · show f_X10_leaves_4_b N (f_X10_leaves_4 N n9) (nI j) (nI c) (nI i) R = _
            unfold f_X10_leaves_4_b f_X10_leaves_57
            simp (disch := omega) only [hnb.2.1, nI_leI, he, ↓reduceIte, g_inN, nI_clamp, gq_l_e, c1, c2, eq_false c3, nI_1]
      · exact no (Or.inr (Or.inl c2))
    · exact no (Or.inl c1)
theorem s2_lorries : ∀ (k i n8 n9 : Nat) (M R : gq_M), 600 ≤ N → PK S nb nl nr tn dn M R → i + k = nr → k < n8 → k < n9 → ∃ M2 R2, f_L_passes_66 N n8 (nI i) M = some (0, M2) ∧ f_X10_passes_81 N n9 (nI i) R = some (0, R2) ∧ PK S nb nl nr tn dn M2 R2 ∧ R2 0 = R 0 := by
  intro k
  induction k with
  | zero =>
    intro i n8 n9 M R hN H hi h8 h9
    obtain ⟨n8, rfl⟩ : ∃ z, n8 = z + 1 := ⟨n8 - 1, by omega⟩
    obtain ⟨n9, rfl⟩ : ∃ z, n9 = z + 1 := ⟨n9 - 1, by omega⟩
    have H0 := H
    obtain ⟨hnb, hnl, hnr, htn, hdn, hop, hdr, hkd, hby, hqu, hbt, hha, hpr, hbx, hbz, hlt, hlo⟩ := H0
    have he : nr ≤ i := by omega
    refine ⟨M, R, ?_, ?_, H, rfl⟩
    · show f_L_passes_66_b N (f_L_passes_66 N n8) (nI i) M = _
      unfold f_L_passes_66_b
      simp (disch := omega) only [gi6_56, cl6, gq_l_e, hnr.1, nI_leI, he, ↓reduceIte]
    · show f_X10_passes_81_b N (f_X10_passes_81 N n9) (nI i) R = _
      unfold f_X10_passes_81_b
      simp (disch := omega) only [hnr.2.1, nI_leI, he, ↓reduceIte]
  | succ k ih =>
    intro i n8 n9 M R hN H hi h8 h9
    obtain ⟨n8, rfl⟩ : ∃ z, n8 = z + 1 := ⟨n8 - 1, by omega⟩
    obtain ⟨n9, rfl⟩ : ∃ z, n9 = z + 1 := ⟨n9 - 1, by omega⟩
    have H0 := H
    obtain ⟨hnb, hnl, hnr, htn, hdn, hop, hdr, hkd, hby, hqu, hbt, hha, hpr, hbx, hbz, hlt, hlo⟩ := H0
    have he : ¬ nr ≤ i := by omega
    obtain ⟨a1, a2, a3, a4⟩ := hlo i (by omega)
    have e40 : 4 * nI i = nI (4 * i) := pl4z i
    have e41 : nI (4 * i) + 1 = nI (4 * i + 1) := nI_1 _
    by_cases c : R 45 i = nI tn
    · obtain ⟨M1, R1, t1, t2, P1, t3⟩ := s2_leaves_l (N := N) (kh := f_L_passes_66 N n8) (j := i) (by omega) nb 0 N N 0 M R H (by omega) (by omega) (by omega) (by omega) (Nat.le_refl _)
      obtain ⟨M2, R2, y1, y2, P2, y3⟩ := ih (i + 1) n8 n9 M1 R1 hN P1 (by omega) (by omega) (by omega)
      have t2' : f_X10_leaves N (nI i) R = some (0, R1) := t2
      refine ⟨M2, R2, ?_, ?_, P2, y3.trans t3⟩
      · show f_L_passes_66_b N (f_L_passes_66 N n8) (nI i) M = _
        unfold f_L_passes_66_b
        simp (disch := omega) only [gi6_56, cl6, gi0_56, cl0, gq_l_e, hnr.1, nI_leI, he, ↓reduceIte, e40, e41, g_inN, nI_clamp, a2, htn.1, c]
        exact t1.trans y1
      · show f_X10_passes_81_b N (f_X10_passes_81 N n9) (nI i) R = _
        unfold f_X10_passes_81_b f_X10_passes_107
        simp (disch := omega) only [hnr.2.1, nI_leI, he, ↓reduceIte, g_inN, nI_clamp, gq_l_e, htn.2.1, c, t2', gq_b_s, nI_1]
        exact y2
    · obtain ⟨M2, R2, y1, y2, P2, y3⟩ := ih (i + 1) n8 n9 M R hN H (by omega) (by omega) (by omega)
      refine ⟨M2, R2, ?_, ?_, P2, y3⟩
      · show f_L_passes_66_b N (f_L_passes_66 N n8) (nI i) M = _
        unfold f_L_passes_66_b f_L_passes_210
        simp (disch := omega) only [gi6_56, cl6, gi0_56, cl0, gq_l_e, hnr.1, nI_leI, he, ↓reduceIte, e40, e41, g_inN, nI_clamp, a2, htn.1, eq_false c, nI_1]
        exact y1
      · show f_X10_passes_81_b N (f_X10_passes_81 N n9) (nI i) R = _
        unfold f_X10_passes_81_b f_X10_passes_107
        simp (disch := omega) only [hnr.2.1, nI_leI, he, ↓reduceIte, g_inN, nI_clamp, gq_l_e, htn.2.1, eq_false c, nI_1]
        exact y2
def IR (nb nl nr tn : Nat) (R : gq_M) : Prop := ∃ C, INVd nb nl nr tn C R
abbrev T0 : Nat → Prop := fun _ => True
set_option maxHeartbeats 2000000 in
theorem s2_halls (hN : 600 ≤ N) : ∀ (k i n8 n9 : Nat) (M R : gq_M), IR nb nl nr tn R → PK T0 nb nl nr tn dn M R → i + k = 3 → k < n8 → k < n9 → ∃ M2 R2, f_L_passes_11 N n8 (nI i) M = f_L_passes_66 N N 0 M2 ∧ f_X10_passes_12 N n9 (nI i) R = f_X10_passes_81 N N 0 R2 ∧ IR nb nl nr tn R2 ∧ PK T0 nb nl nr tn dn M2 R2 ∧ R2 0 = R 0 := by
  intro k
  induction k with
  | zero =>
    intro i n8 n9 M R I H hi h8 h9
    obtain ⟨n8, rfl⟩ : ∃ z, n8 = z + 1 := ⟨n8 - 1, by omega⟩
    obtain ⟨n9, rfl⟩ : ∃ z, n9 = z + 1 := ⟨n9 - 1, by omega⟩
    obtain rfl : i = 3 := by omega
    refine ⟨M, R, ?_, ?_, I, H, rfl⟩
    · show f_L_passes_11_b N (f_L_passes_11 N n8) (nI 3) M = _
      unfold f_L_passes_11_b
      rw [if_pos (show (3 : Int32) ≤ nI 3 by decide)]
    · show f_X10_passes_12_b N (f_X10_passes_12 N n9) (nI 3) R = _
      unfold f_X10_passes_12_b
      rw [if_pos (show (3 : Int32) ≤ nI 3 by decide)]
  | succ k ih =>
    intro i n8 n9 M R I H hi h8 h9
    obtain ⟨n8, rfl⟩ : ∃ z, n8 = z + 1 := ⟨n8 - 1, by omega⟩
    obtain ⟨n9, rfl⟩ : ∃ z, n9 = z + 1 := ⟨n9 - 1, by omega⟩
    have hi3 : i < 3 := by omega
    have he : ¬ (3 : Int32) ≤ nI i := fun h2 => by have := (nI_leI (a := 3) (by omega) (by omega)).mp h2; omega
    obtain ⟨C, I⟩ := I
    have I0 := I
    obtain ⟨IC, -, -, hhl⟩ := I0
    obtain ⟨⟨u1, u2, u3, u4, u5⟩, k2⟩ := pq_ha H i hi3
    have e8 : 8 * nI i = nI (8 * i) := pl8z i
    have e6 : nI (8 * i) + 6 = nI (8 * i + 6) := by rw [show (6 : Int32) = nI 6 from rfl, nI_add]
    have fin : ∀ M1 R1, IR nb nl nr tn R1 → PK T0 nb nl nr tn dn M1 R1 → R1 0 = R 0 → ∃ M2 R2, f_L_passes_11 N n8 (nI (i + 1)) M1 = f_L_passes_66 N N 0 M2 ∧ f_X10_passes_12 N n9 (nI (i + 1)) R1 = f_X10_passes_81 N N 0 R2 ∧ IR nb nl nr tn R2 ∧ PK T0 nb nl nr tn dn M2 R2 ∧ R2 0 = R 0 := fun M1 R1 J P e => by
      obtain ⟨M2, R2, t1, t2, J2, P2, t3⟩ := ih (i + 1) n8 n9 M1 R1 J P (by omega) (by omega) (by omega)
      exact ⟨M2, R2, t1, t2, J2, P2, t3.trans e⟩
    show ∃ M2 R2, f_L_passes_11_b N (f_L_passes_11 N n8) (nI i) M = _ ∧ f_X10_passes_12_b N (f_X10_passes_12 N n9) (nI i) R = _ ∧ _
    unfold f_L_passes_11_b f_L_passes_57 f_X10_passes_12_b f_X10_passes_36 f_X10_passes_73
    rcases u5 with hp | hp
    · simp (disch := omega) only [he, ↓reduceIte, e8, e6, g_inN, gq_l_e, nI_clamp, u3, hp, f01b, d02, d03, nI_1]
      exact fin M R ⟨C, I⟩ H rfl
    · rcases hall_st (hhl i hi3) with hc | hc | hc | hc
      · simp (disch := omega) only [he, ↓reduceIte, e8, e6, g_inN, gq_l_e, nI_clamp, u3, hp, hc, f10, f01b, d02, d03, l_ticks0 (N := N) H hi3 trivial hc, gq_b_s, nI_1]
        exact fin M R ⟨C, I⟩ H rfl
      · obtain ⟨C1, R1, e1, e2, I1, e3⟩ := s_falling (N := N) I hN hi3 hc
        obtain ⟨a, p, q1, q2, q3, q4, q5, q6, q7, -⟩ := hall_at (hhl i hi3) hc
        obtain ⟨M1, R1', t1, t2, P1, t3⟩ := s2_falls (N := N) H hi3 hN trivial hc q1 q2 ((q4 a q1 q3).mpr (Nat.le_refl _)) q3 q5 q6 q7
        have hR : R1' = R1 := by rw [t2] at e2; exact (Prod.mk.inj (Option.some.inj e2)).2
        subst hR
        simp (disch := omega) only [he, ↓reduceIte, e8, e6, g_inN, gq_l_e, nI_clamp, u3, hp, hc, f10, t1, t2, gq_b_s, nI_1]
        exact fin M1 R1' ⟨C1, I1⟩ P1 t3
      · obtain ⟨C1, R1, e1, e2, I1, e3⟩ := s_standing (N := N) I hN hi3 hc
        obtain ⟨a, p, q1, q2, q3, q4, q5, q6, q7, -⟩ := hall_s2 (hhl i hi3) hc
        obtain ⟨-, -, -, -, -, k6, -⟩ := hhl i hi3
        obtain ⟨M1, R1', t1, t2, P1, t3⟩ := s2_stands (N := N) H hi3 hN trivial hc q1 q2 q5 q7 (k6 a q1 (decide_eq_true ⟨q3, (q4 a q1 q3).mpr (Nat.le_refl _)⟩))
        have hR : R1' = R1 := by rw [t2] at e2; exact (Prod.mk.inj (Option.some.inj e2)).2
        subst hR
        simp (disch := omega) only [he, ↓reduceIte, e8, e6, g_inN, gq_l_e, nI_clamp, u3, hp, hc, f10, d21, t1, t2, gq_b_s, nI_1]
        exact fin M1 R1' ⟨C1, I1⟩ P1 t3
      · obtain ⟨C1, R1, e1, e2, I1, e3⟩ := s_taking (N := N) I hN hi3 hc
        obtain ⟨a, p, w, q1, q2, q3, q4, q5, q6, q7, w1, hw, w3⟩ := hall_s3 (hhl i hi3) hc
        obtain ⟨-, -, -, -, -, k6, -⟩ := hhl i hi3
        obtain ⟨M1, R1', t1, t2, P1, t3⟩ := s2_waits (N := N) H hi3 hN trivial hc q1 q2 ((q4 a q1 q3).mpr (Nat.le_refl _)) q3 q5 q6 q7 hw w3 (k6 a q1 (decide_eq_true ⟨q3, (q4 a q1 q3).mpr (Nat.le_refl _)⟩))
        have hR : R1' = R1 := by rw [t2] at e2; exact (Prod.mk.inj (Option.some.inj e2)).2
        subst hR
        simp (disch := omega) only [he, ↓reduceIte, e8, e6, g_inN, gq_l_e, nI_clamp, u3, hp, hc, f10, d31, d32, t1, t2, gq_b_s, nI_1]
        exact fin M1 R1' ⟨C1, I1⟩ P1 t3
theorem pk_now (H : PK S nb nl nr tn dn M R) (ht : tn + 1 ≤ 3000) : PK S nb nl nr (tn + 1) dn (gq_up M 119 0 (nI (tn + 1))) (gq_up R 0 0 (nI (tn + 1))) := by
  obtain ⟨hnb, hnl, hnr, htn, hdn, hop, hdr, hkd, hby, hqu, hbt, hha, hpr, hbx, hbz, hlt, hlo⟩ := H
  have x1 : gq_up M 119 0 (nI (tn + 1)) 119 4 = nI nb ∧ gq_up R 0 0 (nI (tn + 1)) 0 16 = nI nb ∧ nb ≤ 40 := by simp (disch := omega) only [up_no]; exact hnb
  have x2 : gq_up M 119 0 (nI (tn + 1)) 119 5 = nI nl ∧ gq_up R 0 0 (nI (tn + 1)) 0 31 = nI nl ∧ nl ≤ nb := by simp (disch := omega) only [up_no]; exact hnl
  have x3 : gq_up M 119 0 (nI (tn + 1)) 119 6 = nI nr ∧ gq_up R 0 0 (nI (tn + 1)) 0 49 = nI nr ∧ nr ≤ 10 := by simp (disch := omega) only [up_no]; exact hnr
  have x4 : gq_up M 119 0 (nI (tn + 1)) 119 1 = nI dn ∧ gq_up R 0 0 (nI (tn + 1)) 0 1 = nI dn ∧ dn ≤ 100 := by simp (disch := omega) only [up_no]; exact hdn
  have x5 : gq_up M 119 0 (nI (tn + 1)) 119 2 = gq_up R 0 0 (nI (tn + 1)) 0 2 ∧ bit (gq_up R 0 0 (nI (tn + 1)) 0 2) := by simp (disch := omega) only [up_no]; exact hop
  have x6 : gq_up M 119 0 (nI (tn + 1)) 119 3 = gq_up R 0 0 (nI (tn + 1)) 0 3 := by simp (disch := omega) only [up_no]; exact hdr
  exact ⟨x1, x2, x3, ⟨up_same _ _ _ _, up_same _ _ _ _, ht⟩, x4, x5, x6, (fun j hj => by simp (disch := omega) only [up_no]; exact hkd j hj), (fun j hj => by simp (disch := omega) only [up_no]; exact hby j hj), hqu, hbt, hha, hpr, hbx, hbz, hlt, hlo⟩
theorem s2_passes (hN : 600 ≤ N) (I : IR nb nl nr tn R) (H : PK T0 nb nl nr tn dn M R) (ht : tn + 1 ≤ 3000) : ∃ M2 R2, f_L_passes N M = some (0, M2) ∧ f_X10_passes N R = some (0, R2) ∧ IR nb nl nr (tn + 1) R2 ∧ PK T0 nb nl nr (tn + 1) dn M2 R2 := by
  obtain ⟨C, I⟩ := I
  have H0 := H
  obtain ⟨hnb, hnl, hnr, htn, hdn, hop, hdr, hkd, hby, hqu, hbt, hha, hpr, hbx, hbz, hlt, hlo⟩ := H0
  have I1 := s_now I (by omega)
  obtain ⟨M1, R1, t1, t2, ⟨C1, J1⟩, P1, t3⟩ := s2_halls (N := N) hN 3 0 N N _ _ ⟨_, I1⟩ (pk_now H ht) rfl (by omega) (by omega)
  obtain ⟨M2, R2, y1, y2, P2, y3⟩ := s2_lorries (N := N) nr 0 N N M1 R1 hN P1 (by omega) (by omega) (by omega)
  obtain ⟨C3, R3, z1, z2, J3, -⟩ := s_lorries (N := N) hN nr 0 N N C1 R1 J1 (by omega) (by omega) (by omega)
  have hR : R2 = R3 := by rw [y2] at z2; exact (Prod.mk.inj (Option.some.inj z2)).2
  subst hR
  refine ⟨M2, R2, ?_, ?_, ⟨C3, J3⟩, P2⟩
  · unfold f_L_passes
    rw [gi0_56, cl0, gq_l_e, htn.1, gi0_56, nI_1, gq_l_e]
    exact t1.trans y1
  · unfold f_X10_passes
    rw [gq_l_e, htn.2.1, nI_1]
    exact t2.trans y2
end

