/-! a falling clock -/
section
variable {S : Nat → Prop} {N h nb nl nr tn dn : Nat} {M R : gq_M}
/-- only a hall's own cells change -/
theorem pk_hall {M2 R2 : gq_M} (H : PK S nb nl nr tn dn M R) (S2 : Nat → Prop) (hM : ∀ a, a ≠ 115 → M2 a = M a) (hM2 : ∀ i, ¬ (8 * h ≤ i ∧ i < 8 * h + 8) → M2 115 i = M 115 i) (hR : ∀ a, a < 35 ∨ 39 < a → R2 a = R a) (hR2 : ∀ a, 35 ≤ a → a ≤ 39 → ∀ j, j ≠ h → R2 a j = R a j) (hS : ∀ q, q < 3 → q ≠ h → S2 q → S q) (h1 : HS M2 R2 h) (h2 : S2 h → HA nl M2 R2 h) : PK S2 nb nl nr tn dn M2 R2 := by
  obtain ⟨hnb, hnl, hnr, htn, hdn, hop, hdr, hkd, hby, hqu, hbt, hha, hpr, hbx, hbz, hlt, hlo⟩ := H
  have m1 := hM 119 (by omega)
  have m2 := hM 120 (by omega)
  have m3 := hM 121 (by omega)
  have m4 := hM 122 (by omega)
  have r := fun a ha => hR a (Or.inl ha)
  have r' := fun a ha => hR a (Or.inr ha)
  refine ⟨?_, ?_, ?_, ?_, ?_, ?_, ?_, fun j hj => ?_, fun j hj => ?_, fun j hj => ?_, fun j hj => ?_, fun q hq => ?_, fun j hj => ?_, fun b hb => ?_, fun b h1 h2 => ?_, fun k hk => ?_, fun k hk => ?_⟩
  · rw [m1, r 0 (by omega)]; exact hnb
  · rw [m1, r 0 (by omega)]; exact hnl
  · rw [m1, r 0 (by omega)]; exact hnr
  · rw [m1, r 0 (by omega)]; exact htn
  · rw [m1, r 0 (by omega)]; exact hdn
  · rw [m1, r 0 (by omega)]; exact hop
  · rw [m1, r 0 (by omega)]; exact hdr
  · rw [m1, r 6 (by omega), r 7 (by omega), r 8 (by omega)]; exact hkd j hj
  · rw [m1, r 9 (by omega), r 10 (by omega), r 11 (by omega), r 12 (by omega)]; exact hby j hj
  · rw [m2, r 1 (by omega), r 2 (by omega)]; exact hqu j hj
  · rw [m3, r 3 (by omega), r 4 (by omega), r 5 (by omega)]; exact hbt j hj
  · by_cases e : q = h
    · rw [e]; exact ⟨h1, h2⟩
    · obtain ⟨k1, k2⟩ := hha q hq
      refine ⟨HS_cg k1 (fun i h1 h2 => hM2 _ (by omega)) (fun a h1 => ?_), fun hs => HA_cg (k2 (hS q hq e hs)) (fun i h1 h2 => hM2 _ (by omega)) (fun a h1 h2 h3 => hR2 a (by omega) (by omega) q e) (Nat.le_refl _) (fun a h1 h2 h3 => ⟨by rw [r 32 (by omega)]; exact h2, by rw [r 31 (by omega)]; exact h3⟩)⟩
      rcases h1 with rfl | rfl | rfl
      · rw [r 33 (by omega)]
      · rw [r 34 (by omega)]
      · exact hR2 38 (by omega) (by omega) q e
  · exact PR_cg (hpr j hj) (fun a h1 h2 => by rw [hM a (by omega)]) (fun a h1 h2 => by rw [r' a (by omega)])
  · exact BX_cg (hbx b hb) (fun a h1 h2 => by rw [hM a (by omega)]) (fun a h1 h2 => by rw [r a (by omega)])
  · rw [hM 112 (by omega), hM 113 (by omega)]; exact hbz b h1 h2
  · exact LT_cg (hlt k hk) (by rw [hM 114 (by omega)]) (fun a h1 h2 => by rw [r a (by omega)])
  · rw [m4, r' 44 (by omega), r' 45 (by omega), r' 46 (by omega), r' 47 (by omega)]; exact hlo k hk
set_option maxHeartbeats 4000000 in
theorem s2_falls {a p : Nat} (H : PK S nb nl nr tn dn M R) (hh : h < 3) (hN : 600 ≤ N) (hs : S h) (hc : R 35 h = 1) (ha : a < nl) (hat : R 36 h = nI a) (hdz : R 32 a = 0) (hlh : R 31 a = nI h) (hp : R 37 h = nI p) (hp1 : 1 ≤ p) (hp2 : p ≤ 10000) : ∃ M2 R2, f_L_ticks N (nI h) M = some (0, M2) ∧ f_X10_falls N (nI h) R = some (0, R2) ∧ PK S nb nl nr tn dn M2 R2 ∧ R2 0 = R 0 := by
  obtain ⟨M1, e1, H1⟩ := s2_hears (N := N) H hh hN
  have er := r_hears (N := N) (R := R) hh hN
  have hMc : M 115 (8 * h) = 1 := (((pq_ha H h hh).2 hs).1).trans hc
  have hx : ∀ x, x ≠ 43 → hrR (8 * h) (8 * h + 8) R x = R x := fun x hx => if_neg hx
  generalize hR1 : hrR (8 * h) (8 * h + 8) R = R1 at H1 er hx
  obtain ⟨k1, k2⟩ := pq_ha H1 h hh
  obtain ⟨q1, q2, q3, q4, q5, q6, q7⟩ := k2 hs
  obtain ⟨u1, u2, u3, ⟨st, st1, st2, st3⟩, u5⟩ := k1
  have H9 := H1
  obtain ⟨hnb, hnl, hnr, htn, hdn, hop, hdr, hkd, hby, hqu, hbt, hha, hpr, hbx, hbz, hlt, hlo⟩ := H9
  have e8 : 8 * nI h = nI (8 * h) := pl8z h
  have ex1 : nI (8 * h) + 1 = nI (8 * h + 1) := nI_1 _
  have ex2 : nI (8 * h) + 2 = nI (8 * h + 2) := by rw [show (2 : Int32) = nI 2 from rfl, nI_add]
  have ex5 : nI (8 * h) + 5 = nI (8 * h + 5) := by rw [show (5 : Int32) = nI 5 from rfl, nI_add]
  by_cases c : (rg (8 * h) 8).any (newH R) = true
  · rw [if_pos c] at e1 er
    have emx := l_mx_l (N := N) (M := M1) (b0 := 8 * h) (by omega) 8 0 N 0 (by omega) (by omega)
    have hmx : mx (fun j => M1 119 (32 + j)) (rg 0 8) 0 = mx (R1 10) (rg 0 8) 0 := mx_congr fun b hb => (hby b (by have := (rg_m.mp hb).2; omega)).2.1
    have hrm := r_mx (N := N) (M := gq_up R1 35 h 2) hN
    have hrm2 : (gq_up R1 35 h 2) 10 = R1 10 := up_ne (by omega)
    rw [hrm2] at hrm
    refine ⟨gq_up (gq_up M1 115 (8 * h) 2) 115 (8 * h + 3) (nI tn + mx (R1 10) (rg 0 8) 0), gq_up (gq_up R1 35 h 2) 38 h (nI tn + mx (R1 10) (rg 0 8) 0), ?_, ?_, ?_, ?_⟩
    · unfold f_L_ticks
      simp (disch := omega) only [e8, g_inN, nI_clamp, gq_l_e, hMc, ↓reduceIte, e1, gq_b_s, f10]
      rw [hmx, htn.1] at emx
      exact emx
    · unfold f_X10_falls
      rw [er, gq_b_s, if_neg (by decide), g_inN hh (by omega), gq_l_e, nI_clamp (by omega), hrm, gq_b_s, g_inN hh (by omega), gq_l_e]
      rw [show (gq_up R1 35 h 2) 0 0 = nI tn from htn.2.1]
    · refine pk_hall (h := h) H1 S (fun a ha => ?_) (fun i hi => ?_) (fun a ha => ?_) (fun a h1 h2 j hj => ?_) (fun q _ _ z => z) ⟨?_, ?_, ?_, ?_, ?_⟩ (fun _ => ⟨?_, ?_, ?_, ?_, ?_, ?_, ?_⟩)
      · simp (disch := omega) only [up_ne]
      · simp (disch := omega) only [up_no]
      · simp (disch := omega) only [up_ne]
      · simp (disch := omega) only [up_no]
      · simp (disch := omega) only [up_no, up_same]
      · simp (disch := omega) only [up_no]; exact u2
      · simp (disch := omega) only [up_no]; exact u3
      · simp (disch := omega) only [up_no]; exact ⟨st, st1, st2, st3⟩
      · simp (disch := omega) only [up_no]; exact u5
      · simp (disch := omega) only [up_no, up_same]
      · simp (disch := omega) only [up_no]; exact q2
      · simp (disch := omega) only [up_no]; exact q3
      · simp (disch := omega) only [up_no]; exact q4
      · simp (disch := omega) only [up_no]; exact q5
      · simp (disch := omega) only [up_no]; exact q6
      · simp (disch := omega) only [up_no]; exact q7
    · rw [show (gq_up (gq_up R1 35 h 2) 38 h (nI tn + mx (R1 10) (rg 0 8) 0)) 0 = R1 0 by simp (disch := omega) only [up_ne]]
      exact hx 0 (by omega)
  · rw [if_neg c] at e1 er
    obtain ⟨bo, ki, si, fr, hal, dnl, w1, w2, w3⟩ := hlt a ha
    obtain ⟨l1, l2, l3, l4, l5, l6⟩ := LT_l (hlt a ha)
    rw [w2.2.1] at l2
    rw [w2.2.2.1] at l3
    obtain ⟨g1, g2, g3, g4, ⟨mn, mn1, mn2, mn3⟩, -⟩ := hkd ki w1.2.1
    rw [mn3] at g2
    have hat1 : R1 36 h = nI a := by rw [hx 36 (by omega)]; exact hat
    have hp3 : R1 37 h = nI p := by rw [hx 37 (by omega)]; exact hp
    rw [hat1] at q2
    rw [hp3] at q3
    rw [st3] at u2
    have e12 : 12 + nI ki = nI (12 + ki) := by rw [show (12 : Int32) = nI 12 from rfl, nI_add]
    have hv : nI mn * (10 + nI si) / 10 = nI (mn * (10 + si) / 10) := by
      rw [show (10 : Int32) = nI 10 from rfl, nI_add, nI_mul, nI_div (by
        have : mn * (10 + si) ≤ 10000 * 12 := Nat.mul_le_mul (by omega) (by omega)
        omega) (by omega)]
    have hv2 : mn * (10 + si) / 10 < 100000000 := by
      have : mn * (10 + si) ≤ 10000 * 12 := Nat.mul_le_mul (by omega) (by omega)
      omega
    have hv3 : 1 ≤ mn * (10 + si) / 10 := by
      have : 1 * (10 + 0) ≤ mn * (10 + si) := Nat.mul_le_mul (by omega) (by omega)
      omega
    have hcmp := le_sub (v := mn * (10 + si) / 10) (p := p) (s := st) hv2 hp2 (by omega)
    have bL : f_L_ticks N (nI h) M = if nI (mn * (10 + si) / 10) ≤ nI p - nI st then some (0, gq_up M1 115 (8 * h + 2) (nI p - nI st)) else gq_b (f_L_withdraws N (nI a) (gq_up M1 115 (8 * h + 2) (nI p - nI st))) fun v65 M67 => gq_b (f_L_done N (nI h) M67) fun v68 M70 => some (0, M70) := by
      unfold f_L_ticks f_L_ticks_195
      simp (disch := omega) only [e8, ex1, ex2, ex5, g_inN, nI_clamp, gq_l_e, hMc, ↓reduceIte, e1, gq_b_s, q2, q3, u2, up_no, up_same, l2, l3, e12, g2, hv]
    have bR : f_X10_falls N (nI h) R = if nI (mn * (10 + si) / 10) ≤ nI p - nI st then some (0, gq_up R1 37 h (nI p - nI st)) else gq_b (f_X10_withdrawsAll N (nI a) (gq_up R1 37 h (nI p - nI st))) fun v22 M23 => gq_b (f_X10_ends N (nI h) M23) fun v25 M26 => some (0, M26) := by
      unfold f_X10_falls
      simp (disch := omega) only [er, gq_b_s, ↓reduceIte, g_inN, nI_clamp, gq_l_e, hat1, hp3, st3, up_no, up_same, w2.2.1, mn3, w2.2.2.1, hv]
    have HP : ∀ S2 : Nat → Prop, (∀ q, S2 q → S q) → (S2 h → nI (mn * (10 + si) / 10) ≤ nI p - nI st) → PK S2 nb nl nr tn dn (gq_up M1 115 (8 * h + 2) (nI p - nI st)) (gq_up R1 37 h (nI p - nI st)) := by
      intro S2 hs2 hcc
      refine pk_hall (h := h) H1 S2 (fun a ha => up_ne ha) (fun i hi => ?_) (fun a ha => up_ne (by omega)) (fun a h1 h2 j hj => up_no (by omega)) (fun q _ _ z => hs2 q z) ⟨?_, ?_, ?_, ?_, ?_⟩ (fun z => ⟨?_, ?_, ?_, ?_, ?_, ?_, ?_⟩)
      · simp (disch := omega) only [up_no]
      · simp (disch := omega) only [up_no]; exact u1
      · simp (disch := omega) only [up_no]; rw [st3]; exact u2
      · simp (disch := omega) only [up_no]; exact u3
      · simp (disch := omega) only [up_no]; exact ⟨st, st1, st2, st3⟩
      · simp (disch := omega) only [up_no]; exact u5
      · simp (disch := omega) only [up_no]; exact q1
      · simp (disch := omega) only [up_no]; rw [hat1]; exact q2
      · simp (disch := omega) only [up_no, up_same]
      · simp (disch := omega) only [up_no]; exact q4
      · simp (disch := omega) only [up_no]; exact q5
      · simp (disch := omega) only [up_no]; exact q6
      · simp (disch := omega) only [up_same]
        have := hcmp.mp (hcc z)
        exact ⟨p - st, by omega, by omega, nI_sub (by omega)⟩
    rw [bL, bR]
    by_cases cc : nI (mn * (10 + si) / 10) ≤ nI p - nI st
    · rw [if_pos cc, if_pos cc]
      refine ⟨_, _, rfl, rfl, HP S (fun _ z => z) (fun _ => cc), ?_⟩
      rw [up_ne (by omega)]
      exact hx 0 (by omega)
    · rw [if_neg cc, if_neg cc]
      obtain ⟨v, M3, R3, t1, t2, P3, t3, t4, t5, t6⟩ := s2_wdAll (N := N) (l := a) (HP (fun q => S q ∧ q ≠ h) (fun q z => z.1) (fun z => absurd rfl z.2)) hN
      have y36 : R3 36 h = nI a := by rw [t5 36 (by omega), up_ne (by omega)]; exact hat1
      have y32 : R3 32 a = 0 := by rw [t5 32 (by omega), up_ne (by omega), hx 32 (by omega)]; exact hdz
      have y31 : R3 31 a = nI h := by rw [t5 31 (by omega), up_ne (by omega), hx 31 (by omega)]; exact hlh
      have yM : M3 115 (8 * h + 1) = nI a := by rw [t6 115 (by omega) (by omega)]; simp (disch := omega) only [up_no]; exact q2
      obtain ⟨M4, R4, z1, z2, P4, z3, -, -⟩ := s2_ends (N := N) P3 hh hN ha y36 y32 y31 yM
      refine ⟨M4, R4, ?_, ?_, pk_S P4 (fun q _ z => ?_), ?_⟩
      · rw [t1, gq_b_s, z1, gq_b_s]
      · rw [t2, gq_b_s, z2, gq_b_s]
      · by_cases e : q = h
        · exact Or.inr e
        · exact Or.inl ⟨z, e⟩
      · rw [z3, t3, up_ne (by omega)]
        exact hx 0 (by omega)
end

