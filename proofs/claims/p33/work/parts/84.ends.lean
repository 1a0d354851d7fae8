/-! a lot is done; boxes are withdrawn -/
theorem b_becomes {β : Type} {N b : Nat} {v : Int32} {M : gq_M} {F : Int32 → gq_M → Option β} (hb : b < 40) : gq_b (f_L_becomes N (nI b) v M) F = F 0 (gq_up M 109 b (M 109 b + 2048 * (v - (M 109 b / 2048 - M 109 b / 2048 / 8 * 8)))) := by
  unfold f_L_becomes f_L_how
  rw [g_inN hb (by omega), gq_l_e, gq_g_t (ix_nI hb (by omega)), gq_l_e, gq_b_s, gq_g_t (ix_nI hb (by omega)), gq_l_e, nI_clamp (by omega)]
  rfl
theorem b_isLeft {β : Type} {N b l : Nat} {M R : gq_M} {F : Int32 → gq_M → Option β} (h : BX M R b) (hb : b < 40) : gq_b (f_L_isLeft N (nI b) (nI l) M) F = F (bI (isO R l b = true)) M := by rw [l_isLeft h hb]; rfl
section
variable {S : Nat → Prop} {N h nb nl nr tn dn : Nat} {M R : gq_M}
set_option maxHeartbeats 1000000 in
theorem s2_ends {a : Nat} (H : PK S nb nl nr tn dn M R) (hh : h < 3) (hN : 600 ≤ N) (ha : a < nl) (hat : R 36 h = nI a) (hdz : R 32 a = 0) (hlh : R 31 a = nI h) (hMa : M 115 (8 * h + 1) = nI a) : ∃ M2 R2, f_L_done N (nI h) M = some (0, M2) ∧ f_X10_ends N (nI h) R = some (0, R2) ∧ PK (fun q => S q ∨ q = h) nb nl nr tn dn M2 R2 ∧ R2 0 = R 0 ∧ R2 19 = R 19 ∧ R2 26 = R 26 := by
  have H0 := H
  obtain ⟨hnb, hnl, hnr, htn, hdn, hop, hdr, hkd, hby, hqu, hbt, hha, hpr, hbx, hbz, hlt, hlo⟩ := H0
  have hl : nl ≤ 40 := by omega
  have H1 : PK (fun q => S q ∧ q ≠ h) nb nl nr tn dn (gq_up M 114 a (M 114 a + 8192)) (gq_up R 32 a 1) := by
    refine ⟨hnb, hnl, hnr, htn, hdn, hop, hdr, hkd, hby, hqu, hbt, fun q hq => ⟨(hha q hq).1, fun hs => ?_⟩, hpr, hbx, hbz, fun k hk => ?_, hlo⟩
    · refine HA_cg ((hha q hq).2 hs.1) (fun i h1 h2 => ?_) (fun b h1 h2 h3 => ?_) (Nat.le_refl _) (fun b h1 h2 h3 => ?_)
      · simp (disch := omega) only [up_no]
      · simp (disch := omega) only [up_no]
      · have hne : b ≠ a := by
          intro e
          rw [e, hlh] at h3
          exact hs.2 ((nI_j (by omega) (by omega)).mp h3).symm
        exact ⟨(up_no (by omega)).trans h2, h3⟩
    · by_cases e : k = a
      · subst e
        obtain ⟨bo, ki, si, fr, hal, dnl, q1, q2, q3⟩ := hlt k hk
        have hd0 : dnl = 0 := by
          have := q2.2.2.2.2.2
          rw [hdz] at this
          exact ((nI_j (a := 0) (by omega) (by omega)).mp this).symm
        subst hd0
        refine ⟨bo, ki, si, fr, hal, 1, by omega, ⟨q2.1, q2.2.1, q2.2.2.1, q2.2.2.2.1, q2.2.2.2.2.1, up_same _ _ _ _⟩, ?_⟩
        rw [up_same, q3, show (8192 : Int32) = nI 8192 from rfl, nI_add]
      · exact LT_cg (hlt k hk) (up_no (by omega)) (fun b h1 h2 => up_no (by omega))
  obtain ⟨M2, R2, e1, e2, P2, e3, e4, e5⟩ := s2_comes (N := N) H1 hh hN
  refine ⟨M2, R2, ?_, ?_, pk_S P2 (fun q _ hs => ?_), e3, e4, e5⟩
  · unfold f_L_done
    have e8 : 8 * nI h + 1 = nI (8 * h + 1) := by rw [pl8z]; exact nI_1 _
    rw [e8, g_inN (by omega) (by omega), gq_l_e, nI_clamp (by omega), hMa, g_inN (by omega) (by omega), gq_l_e, g_inN (by omega) (by omega), gq_l_e, nI_clamp (by omega), e1, gq_b_s]
  · unfold f_X10_ends
    rw [g_inN hh (by omega), gq_l_e, nI_clamp (by omega), hat, g_inN (by omega) (by omega), gq_l_e, nI_clamp (by omega), e2, gq_b_s]
  · by_cases e : q = h
    · exact Or.inr e
    · exact Or.inl ⟨hs.resolve_right e, e⟩

theorem nI_ad {n m : Nat} {x : Int32} (hx : x = nI m) : nI n + x = nI (n + m) := by rw [hx, nI_add]
theorem hne_b {b j bo : Nat} (h : j ≠ bo) : True := trivial
def wdM (b bo : Nat) (x y z : Int32) (d1 d2 : Int32) (M : gq_M) : gq_M := gq_up (gq_up (gq_up (gq_up M 121 bo x) 121 (16 + bo) y) 109 b (M 109 b + 2048 * (z - 2))) 109 b (M 109 b + 2048 * (z - 2) + d1)
theorem wdM_fr {b bo : Nat} {x y z d1 d2 : Int32} : ∀ a, a ≠ 109 → a ≠ 121 → wdM b bo x y z d1 d2 M a = M a := fun a h1 h2 => by unfold wdM; simp (disch := omega) only [up_ne]
set_option maxHeartbeats 2000000 in
/-- one box is withdrawn -/
theorem s2_wd {b l : Nat} (H : PK S nb nl nr tn dn M R) (hb : b < nb) (ho : isO R l b = true) : ∃ M2 R2, (∀ (kh : Int32 → Int32 → Int32 → gq_M → Option (Int32 × gq_M)) (acc : Int32), f_L_withdraws_6_b N kh (nI l) acc (nI b) M = kh (nI l) (acc + 1) (nI (b + 1)) M2) ∧ f_X10_withdraws N (nI b) R = some (0, R2) ∧ PK S nb nl nr tn dn M2 R2 ∧ R2 0 = R 0 ∧ (∀ j, j ≠ b → R2 19 j = R 19 j) ∧ R2 26 = R 26 ∧ (∀ a, 27 ≤ a → R2 a = R a) ∧ (∀ a, a ≠ 109 → a ≠ 121 → M2 a = M a) := by
  have H0 := H
  obtain ⟨hnb, hnl, hnr, htn, hdn, hop, hdr, hkd, hby, hqu, hbt, hha, hpr, hbx, hbz, hlt, hlo⟩ := H0
  have hB := hbx b hb
  have hb40 : b < 40 := by omega
  obtain ⟨hlo', hs⟩ := of_decide_eq_true ho
  obtain ⟨ea1, ea2, ea3, ea4, ea5, ea6, ea7⟩ := BX_a hB
  obtain ⟨ee1, ee2⟩ := BX_e hB
  obtain ⟨bo, ki, si, fr, st, wc, cl, kl, re, so, h1, h2, h3, h4, h5, h6⟩ := id hB
  obtain ⟨g1, g2, g3, g4, g5, g6, g7, g8, g9⟩ := h2
  rw [hs] at g5 ea5
  have hst : st = 2 := ((nI_j (a := 2) (by omega) (by omega)).mp g5).symm
  subst hst
  obtain ⟨k1, k2, k3, k4⟩ := hbt bo h1.1
  have e16 : 16 + nI bo = nI (16 + bo) := by rw [show (16 : Int32) = nI 16 from rfl, nI_add]
  have hnbM := hnb.1
  have hle : ¬ nb ≤ b := by omega
  have hot : bI (isO R l b = true) = 1 := bI_t ho
  have base : ∀ (M2 R2 : gq_M) (st2 wc2 fr2 : Nat), st2 < 8 → wc2 < 2 → 1 ≤ fr2 → fr2 ≤ 9 → (∀ a, 110 ≤ a → a ≤ 113 → M2 a = M a) → (∀ j, j ≠ b → M2 109 j = M 109 j) → M2 109 b = nI (bo + 8 * ki + 32 * si + 128 * fr2 + 2048 * st2 + 16384 * wc2 + 32768 * cl) → (∀ a, 13 ≤ a → a ≤ 26 → a ≠ 16 → a ≠ 19 → a ≠ 20 → R2 a = R a) → (∀ a, a = 16 ∨ a = 19 ∨ a = 20 → ∀ j, j ≠ b → R2 a j = R a j) → R2 16 b = nI fr2 → R2 19 b = nI st2 → R2 20 b = nI wc2 → ∀ j, j < nb → BX M2 R2 j := by
    intro M2 R2 st2 wc2 fr2 q1 q2 q3 q4 m1 m2 m3 r1 r2 r3 r4 r5 j hj
    by_cases e : j = b
    · subst e
      refine ⟨bo, ki, si, fr2, st2, wc2, cl, kl, re, so, by omega, ⟨?_, ?_, ?_, r3, r4, r5, ?_, ?_, ?_⟩, m3, ?_, ?_, ?_⟩
      · rw [r1 13 (by omega) (by omega) (by omega) (by omega) (by omega)]; exact g1
      · rw [r1 14 (by omega) (by omega) (by omega) (by omega) (by omega)]; exact g2
      · rw [r1 15 (by omega) (by omega) (by omega) (by omega) (by omega)]; exact g3
      · rw [r1 25 (by omega) (by omega) (by omega) (by omega) (by omega)]; exact g7
      · rw [r1 17 (by omega) (by omega) (by omega) (by omega) (by omega)]; exact g8
      · rw [r1 18 (by omega) (by omega) (by omega) (by omega) (by omega)]; exact g9
      · rw [m1 110 (by omega) (by omega)]; exact h4
      · rw [m1 111 (by omega) (by omega), r1 26 (by omega) (by omega) (by omega) (by omega) (by omega)]; exact h5
      · rw [m1 112 (by omega) (by omega), m1 113 (by omega) (by omega), r1 21 (by omega) (by omega) (by omega) (by omega) (by omega), r1 22 (by omega) (by omega) (by omega) (by omega) (by omega), r1 23 (by omega) (by omega) (by omega) (by omega) (by omega), r1 24 (by omega) (by omega) (by omega) (by omega) (by omega)]
        exact h6
    · refine BX_cg (hbx j hj) (fun a q q' => ?_) (fun a q q' => ?_)
      · by_cases ea : a = 109
        · subst ea; exact m2 j e
        · rw [m1 a (by omega) q']
      · by_cases ea : a = 16 ∨ a = 19 ∨ a = 20
        · exact r2 a ea j e
        · rw [r1 a q q' (by omega) (by omega) (by omega)]
  by_cases c1 : R 3 bo < R 17 b
  · by_cases c2 : R 20 b = 0
    · by_cases c3 : R 16 b ≤ 1
      · refine ⟨wdM b bo (R 3 bo - 0) (R 5 bo + 0) 7 0 0 M, gq_up R 19 b 7, fun kh acc => ?_, ?_, ?_, rfl, fun j hj => up_no (by omega), rfl, fun a ha => up_ne (by omega), wdM_fr⟩
        · unfold f_L_withdraws_6_b wdM
          simp (disch := omega) only [gi4_56, cl4, gq_l_e, gq_b_s, b_isLeft hB hb40, hot, g_inN, nI_clamp, up_no, up_same, ↓reduceIte, b_becomes hb40, ea1, ea4, ea5, ea6, ee1, g1, k1, k3, e16, hs, hnbM, nI_leI, hle, nI_1, f10, f01b, f_L_withdraws_195, f_L_withdraws_190, f_L_withdraws_170, f_L_withdraws_144, f_L_withdraws_119, f_L_withdraws_100, f_L_withdraws_99, f_L_withdraws_60, eq_true c1, eq_true c2, eq_true c3]
        · unfold f_X10_withdraws f_X10_withdraws_120
          simp (disch := omega) only [g_inN, nI_clamp, gq_l_e, ↓reduceIte, g1, eq_true c1, eq_true c2, eq_true c3]
        · refine ⟨hnb, hnl, hnr, htn, hdn, hop, hdr, hkd, hby, hqu, fun j hj => ?_, hha, hpr, base _ _ 7 wc fr (by omega) (by omega) (by omega) (by omega) (fun a q q' => ?_) (fun j hj => ?_) ?_ (fun a q q' u1 u2 u3 => up_ne u2) (fun a q j hj => up_no (by omega)) g4 (up_same _ _ _ _) g6, hbz, hlt, hlo⟩
          · obtain ⟨p1, p2, p3, p4⟩ := hbt j hj
            unfold wdM
            by_cases e : j = bo
            · subst e
              simp (disch := omega) only [up_no, up_same]
              exact ⟨by rw [Int32.sub_zero], p2, by rw [Int32.add_zero], p4⟩
            · simp (disch := omega) only [up_no]
              exact ⟨p1, p2, p3, p4⟩
          · unfold wdM; simp (disch := omega) only [up_ne]
          · unfold wdM; simp (disch := omega) only [up_no]
          · unfold wdM
            rw [up_same, h3, nI_ad (x := 2048 * (7 - 2)) (m := 10240) (by decide), nI_ad (x := 0) (m := 0) rfl]
            congr 1; omega
      · refine ⟨wdM b bo (R 3 bo - 0) (R 5 bo + 0) 6 16256 0 M, gq_up (gq_up (gq_up R 19 b 6) 20 b 1) 16 b (R 16 b - 1), fun kh acc => ?_, ?_, ?_, rfl, fun j hj => ?_, rfl, fun a ha => ?_, wdM_fr⟩
        · unfold f_L_withdraws_6_b wdM
          simp (disch := omega) only [gi4_56, cl4, gq_l_e, gq_b_s, b_isLeft hB hb40, hot, g_inN, nI_clamp, up_no, up_same, ↓reduceIte, b_becomes hb40, ea1, ea4, ea5, ea6, ee1, g1, k1, k3, e16, hs, hnbM, nI_leI, hle, nI_1, f10, f01b, f_L_withdraws_195, f_L_withdraws_190, f_L_withdraws_170, f_L_withdraws_144, f_L_withdraws_119, f_L_withdraws_100, f_L_withdraws_99, f_L_withdraws_60, eq_true c1, eq_true c2, eq_false c3]
        · unfold f_X10_withdraws f_X10_withdraws_120
          simp (disch := omega) only [g_inN, nI_clamp, gq_l_e, ↓reduceIte, g1, eq_true c1, eq_true c2, eq_false c3, up_no]
        · have hw0 : wc = 0 := by
            rw [g6] at c2
            exact (nI_j (b := 0) (by omega) (by omega)).mp c2
          have hf1 : 1 < fr := by
            rw [g4] at c3
            rw [show (1 : Int32) = nI 1 from rfl, nI_leI (by omega) (by omega)] at c3
            omega
          subst hw0
          refine ⟨hnb, hnl, hnr, htn, hdn, hop, hdr, hkd, hby, hqu, fun j hj => ?_, hha, hpr, base _ _ 6 1 (fr - 1) (by omega) (by omega) (by omega) (by omega) (fun a q q' => ?_) (fun j hj => ?_) ?_ (fun a q q' u1 u2 u3 => ?_) (fun a q j hj => ?_) ?_ ?_ ?_, hbz, hlt, hlo⟩
          · obtain ⟨p1, p2, p3, p4⟩ := hbt j hj
            unfold wdM
            by_cases e : j = bo
            · subst e
              simp (disch := omega) only [up_no, up_same]
              exact ⟨by rw [Int32.sub_zero], p2, by rw [Int32.add_zero], p4⟩
            · simp (disch := omega) only [up_no]
              exact ⟨p1, p2, p3, p4⟩
          · unfold wdM; simp (disch := omega) only [up_ne]
          · unfold wdM; simp (disch := omega) only [up_no]
          · unfold wdM
            rw [up_same, h3, nI_ad (x := 2048 * (6 - 2)) (m := 8192) (by decide), nI_ad (x := 16256) (m := 16256) rfl]
            congr 1; omega
          · simp (disch := omega) only [up_ne]
          · simp (disch := omega) only [up_no]
          · rw [up_same, g4, show (1 : Int32) = nI 1 from rfl, nI_sub (by omega)]
          · simp (disch := omega) only [up_no, up_same]; rfl
          · simp (disch := omega) only [up_no, up_same]; rfl
        · simp (disch := omega) only [up_no]
        · simp (disch := omega) only [up_ne]
    · refine ⟨wdM b bo (R 3 bo - 0) (R 5 bo + 0) 7 0 0 M, gq_up R 19 b 7, fun kh acc => ?_, ?_, ?_, rfl, fun j hj => up_no (by omega), rfl, fun a ha => up_ne (by omega), wdM_fr⟩
      · unfold f_L_withdraws_6_b wdM
        simp (disch := omega) only [gi4_56, cl4, gq_l_e, gq_b_s, b_isLeft hB hb40, hot, g_inN, nI_clamp, up_no, up_same, ↓reduceIte, b_becomes hb40, ea1, ea4, ea5, ea6, ee1, g1, k1, k3, e16, hs, hnbM, nI_leI, hle, nI_1, f10, f01b, f_L_withdraws_195, f_L_withdraws_190, f_L_withdraws_170, f_L_withdraws_144, f_L_withdraws_119, f_L_withdraws_100, f_L_withdraws_99, f_L_withdraws_60, eq_true c1, eq_false c2]
      · unfold f_X10_withdraws f_X10_withdraws_120
        simp (disch := omega) only [g_inN, nI_clamp, gq_l_e, ↓reduceIte, g1, eq_true c1, eq_false c2]
      · refine ⟨hnb, hnl, hnr, htn, hdn, hop, hdr, hkd, hby, hqu, fun j hj => ?_, hha, hpr, base _ _ 7 wc fr (by omega) (by omega) (by omega) (by omega) (fun a q q' => ?_) (fun j hj => ?_) ?_ (fun a q q' u1 u2 u3 => up_ne u2) (fun a q j hj => up_no (by omega)) g4 (up_same _ _ _ _) g6, hbz, hlt, hlo⟩
        · obtain ⟨p1, p2, p3, p4⟩ := hbt j hj
          unfold wdM
          by_cases e : j = bo
          · subst e
            simp (disch := omega) only [up_no, up_same]
            exact ⟨by rw [Int32.sub_zero], p2, by rw [Int32.add_zero], p4⟩
          · simp (disch := omega) only [up_no]
            exact ⟨p1, p2, p3, p4⟩
        · unfold wdM; simp (disch := omega) only [up_ne]
        · unfold wdM; simp (disch := omega) only [up_no]
        · unfold wdM
          rw [up_same, h3, nI_ad (x := 2048 * (7 - 2)) (m := 10240) (by decide), nI_ad (x := 0) (m := 0) rfl]
          congr 1; omega
  · refine ⟨wdM b bo (R 3 bo - R 17 b) (R 5 bo + 20 * R 17 b) 5 0 0 M, gq_up (gq_up (gq_up R 19 b 5) 3 bo (R 3 bo - R 17 b)) 5 bo (R 5 bo + 20 * R 17 b), fun kh acc => ?_, ?_, ?_, rfl, fun j hj => ?_, rfl, fun a ha => ?_, wdM_fr⟩
    · unfold f_L_withdraws_6_b wdM
      simp (disch := omega) only [gi4_56, cl4, gq_l_e, gq_b_s, b_isLeft hB hb40, hot, g_inN, nI_clamp, up_no, up_same, ↓reduceIte, b_becomes hb40, ea1, ea4, ea5, ea6, ee1, g1, k1, k3, e16, hs, hnbM, nI_leI, hle, nI_1, f10, f01b, f_L_withdraws_195, f_L_withdraws_190, f_L_withdraws_170, f_L_withdraws_144, f_L_withdraws_119, f_L_withdraws_100, f_L_withdraws_99, f_L_withdraws_60, eq_false c1]
    · unfold f_X10_withdraws
      simp (disch := omega) only [g_inN, nI_clamp, gq_l_e, ↓reduceIte, g1, eq_false c1, up_no]
    · refine ⟨hnb, hnl, hnr, htn, hdn, hop, hdr, hkd, hby, hqu, fun j hj => ?_, hha, hpr, base _ _ 5 wc fr (by omega) (by omega) (by omega) (by omega) (fun a q q' => ?_) (fun j hj => ?_) ?_ (fun a q q' u1 u2 u3 => ?_) (fun a q j hj => ?_) g4 ?_ g6, hbz, hlt, hlo⟩
      · obtain ⟨p1, p2, p3, p4⟩ := hbt j hj
        unfold wdM
        by_cases e : j = bo
        · subst e
          simp (disch := omega) only [up_no, up_same]
          exact ⟨trivial, p2, trivial, p4⟩
        · simp (disch := omega) only [up_no]
          exact ⟨p1, p2, p3, p4⟩
      · unfold wdM; simp (disch := omega) only [up_ne]
      · unfold wdM; simp (disch := omega) only [up_no]
      · unfold wdM
        rw [up_same, h3, nI_ad (x := 2048 * (5 - 2)) (m := 6144) (by decide), nI_ad (x := 0) (m := 0) rfl]
        congr 1; omega
      · simp (disch := omega) only [up_ne]
      · simp (disch := omega) only [up_no]
      · simp (disch := omega) only [up_no, up_same]; rfl
    · simp (disch := omega) only [up_no]
    · simp (disch := omega) only [up_ne]
end

