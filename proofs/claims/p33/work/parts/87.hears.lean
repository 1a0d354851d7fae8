/-! presses that are heard; a falling clock -/
section
variable {S : Nat → Prop} {N h nb nl nr tn dn : Nat} {M R : gq_M}
theorem nI_lt0 {n : Nat} (h : n < 2 ^ 31) : ¬ nI n < 0 := by
  rw [Int32.lt_iff_toInt_lt, nI_toInt h]
  have : (0 : Int32).toInt = 0 := rfl
  omega
theorem bit_k {b : Int32} (hb : bit b) {β : Type} {F : Int32 → β} : (if b = 0 then F 0 else F 1) = F b := by
  rcases hb with rfl | rfl
  · exact if_pos rfl
  · exact if_neg (by decide)
set_option maxHeartbeats 2000000 in
theorem l_hears_s {i : Nat} {acc : Int32} {kh : Int32 → Int32 → Int32 → gq_M → Option (Int32 × gq_M)} (hh : h < 3) (h1 : 8 * h ≤ i) (h2 : i < 8 * h + 8) (hb : bit acc) (ht : M 119 0 = R 0 0) (hP : PR M R i) : ∃ v, f_L_hears_10_b N kh (nI h) acc (nI i) M = kh (nI h) (if newH R i = true then 1 else acc) (nI (i + 1)) (gq_up M 118 i v) ∧ PR (gq_up M 118 i v) (if newH R i = true then gq_up R 43 i 1 else R) i := by
  have hb1 : (if acc = 0 then kh (nI h) 0 (nI (i + 1)) (gq_up M 118 i (M 118 i + 0)) else kh (nI h) 1 (nI (i + 1)) (gq_up M 118 i (M 118 i + 0))) = kh (nI h) acc (nI (i + 1)) (gq_up M 118 i (M 118 i + 0)) := bit_k (F := fun x => kh (nI h) x (nI (i + 1)) (gq_up M 118 i (M 118 i + 0))) hb
  have hlt : ¬ 8 * h + 8 ≤ i := by omega
  rcases hP with ⟨p1, p2, p3⟩ | ⟨t, p, b1, b2, b3, p1, p2, p3, p4, p5⟩
  · have hn : newH R i = false := decide_eq_false (fun z => z.1 p1)
    refine ⟨M 118 i + 0, ?_, ?_⟩
    · unfold f_L_hears_10_b f_L_hears_53 f_L_hears_54 f_L_hears_72 f_L_hears_84 f_L_hears_89
      simp (disch := omega) only [pl8c, nI_leI, hlt, ↓reduceIte, g_inN, nI_clamp, gq_l_e, p3, show ((-1 : Int32) < 0) = True by decide, hn, Bool.false_eq_true, nI_1]
      exact hb1
    · rw [if_neg (by rw [hn]; decide)]
      exact Or.inl ⟨p1, p2, (congrFun (up_ne (by omega)) i).trans p3⟩
  · have hp0 : ¬ nI t < 0 := nI_lt0 (by omega)
    have hn1 : ¬ R 40 i = -1 := by rw [p1]; exact nI_m1 (by omega)
    rcases p5 with ⟨p5, p6⟩ | ⟨p5, p6⟩
    · have hk : ¬ (65536 : Int32) ≤ nI p := by
        rw [show (65536 : Int32) = nI 65536 from rfl, nI_leI (by omega) (by omega)]
        omega
      by_cases c : R 0 0 < R 41 i
      · have hn : newH R i = false := decide_eq_false (fun z => z.2.2 c)
        refine ⟨M 118 i + 0, ?_, ?_⟩
        · unfold f_L_hears_10_b f_L_hears_53 f_L_hears_54 f_L_hears_72 f_L_hears_84 f_L_hears_89
          simp (disch := omega) only [pl8c, nI_leI, hlt, ↓reduceIte, g_inN, nI_clamp, gq_l_e, p2, p3, p6, eq_false hp0, eq_false hk, gi0_56, cl0, ht, eq_true c, hn, Bool.false_eq_true, nI_1]
          rw [p6] at hb1
          exact hb1
        · rw [if_neg (by rw [hn]; decide)]
          refine Or.inr ⟨t, p, b1, b2, b3, p1, (congrFun (up_ne (by omega)) i).trans p2, (congrFun (up_ne (by omega)) i).trans p3, p4, Or.inl ⟨p5, ?_⟩⟩
          rw [up_same, p6]; exact Int32.add_zero _
      · have hn : newH R i = true := decide_eq_true ⟨hn1, p5, c⟩
        refine ⟨M 118 i + 65536, ?_, ?_⟩
        · unfold f_L_hears_10_b f_L_hears_53 f_L_hears_54 f_L_hears_72 f_L_hears_84 f_L_hears_89
          by_cases ca : acc = 0
          · simp (disch := omega) only [pl8c, nI_leI, hlt, ↓reduceIte, g_inN, nI_clamp, gq_l_e, p2, p3, p6, eq_false hp0, eq_false hk, gi0_56, cl0, ht, eq_false c, hn, ca, f10, nI_1]
          · simp (disch := omega) only [pl8c, nI_leI, hlt, ↓reduceIte, g_inN, nI_clamp, gq_l_e, p2, p3, p6, eq_false hp0, eq_false hk, gi0_56, cl0, ht, eq_false c, hn, ca, f10, nI_1]
        · rw [if_pos hn]
          refine Or.inr ⟨t, p, b1, b2, b3, (congrFun (up_ne (by omega)) i).trans p1, (congrFun (up_ne (by omega)) i).trans p2, ?_, (congrFun (up_ne (by omega)) i).trans p4, Or.inr ⟨up_same _ _ _ _, ?_⟩⟩
          · exact (congrFun (up_ne (by omega)) i).trans (p3.trans (congrFun (up_ne (by omega)) i).symm)
          · rw [up_same, p6, show (65536 : Int32) = nI 65536 from rfl, nI_add]
    · have hk : (65536 : Int32) ≤ nI (p + 65536) := by
        rw [show (65536 : Int32) = nI 65536 from rfl, nI_leI (by omega) (by omega)]
        omega
      have hn : newH R i = false := decide_eq_false (fun z => by rw [p5] at z; exact absurd z.2.1 (by decide))
      refine ⟨M 118 i + 0, ?_, ?_⟩
      · unfold f_L_hears_10_b f_L_hears_53 f_L_hears_54 f_L_hears_72 f_L_hears_84 f_L_hears_89
        simp (disch := omega) only [pl8c, nI_leI, hlt, ↓reduceIte, g_inN, nI_clamp, gq_l_e, p2, p3, p6, eq_false hp0, eq_true hk, hn, Bool.false_eq_true, nI_1]
        rw [p6] at hb1
        exact hb1
      · rw [if_neg (by rw [hn]; decide)]
        refine Or.inr ⟨t, p, b1, b2, b3, p1, (congrFun (up_ne (by omega)) i).trans p2, (congrFun (up_ne (by omega)) i).trans p3, p4, Or.inr ⟨p5, ?_⟩⟩
        rw [up_same, p6]; exact Int32.add_zero _
theorem l_hears_l (hh : h < 3) : ∀ (k i n9 : Nat) (acc : Int32) (M R : gq_M), bit acc → i + k = 8 * h + 8 → 8 * h ≤ i → k < n9 → M 119 0 = R 0 0 → (∀ j, j < 24 → PR M R j) → ∃ M2, f_L_hears_10 N n9 (nI h) acc (nI i) M = some (if (rg i k).any (newH R) = true then 1 else acc, M2) ∧ (∀ a, a ≠ 118 → M2 a = M a) ∧ ∀ j, j < 24 → PR M2 (hrR i (8 * h + 8) R) j := by
  intro k
  induction k with
  | zero =>
    intro i n9 acc M R hb hi h8 h9 ht hP
    obtain ⟨n9, rfl⟩ : ∃ z, n9 = z + 1 := ⟨n9 - 1, by omega⟩
    refine ⟨M, ?_, fun a _ => rfl, ?_⟩
    · show f_L_hears_10_b N (f_L_hears_10 N n9) (nI h) acc (nI i) M = _
      have he : 8 * h + 8 ≤ i := by omega
      unfold f_L_hears_10_b
      simp (disch := omega) only [pl8c, nI_leI, he, ↓reduceIte, g_bit hb]
      rfl
    · rw [hr_0 (by omega)]; exact hP
  | succ k ih =>
    intro i n9 acc M R hb hi h8 h9 ht hP
    obtain ⟨n9, rfl⟩ : ∃ z, n9 = z + 1 := ⟨n9 - 1, by omega⟩
    obtain ⟨v, e1, e2⟩ := l_hears_s (N := N) (kh := f_L_hears_10 N n9) hh h8 (by omega) hb ht (hP i (by omega))
    have hP2 : ∀ j, j < 24 → PR (gq_up M 118 i v) (if newH R i = true then gq_up R 43 i 1 else R) j := by
      intro j hj
      by_cases e : j = i
      · subst e; exact e2
      · refine PR_cg (hP j hj) (fun a h1 h2 => up_no (by omega)) (fun a h1 h2 => ?_)
        by_cases c : newH R i = true
        · rw [if_pos c]; exact up_no (by omega)
        · rw [if_neg c]
    have hb2 : bit (if newH R i = true then 1 else acc) := by
      by_cases c : newH R i = true
      · rw [if_pos c]; exact Or.inr rfl
      · rw [if_neg c]; exact hb
    have ht2 : (gq_up M 118 i v) 119 0 = (if newH R i = true then gq_up R 43 i 1 else R) 0 0 := by
      by_cases c : newH R i = true
      · rw [if_pos c]; exact ht
      · rw [if_neg c]; exact ht
    obtain ⟨M2, t1, t2, t3⟩ := ih (i + 1) n9 _ _ _ hb2 (by omega) (by omega) (by omega) ht2 hP2
    refine ⟨M2, ?_, fun a ha => (t2 a ha).trans (up_ne ha), ?_⟩
    · show f_L_hears_10_b N (f_L_hears_10 N n9) (nI h) acc (nI i) M = _
      rw [e1, t1, rg_s, List.any_cons]
      by_cases c : newH R i = true
      · rw [if_pos c, c, Bool.true_or, if_pos rfl]
        by_cases c2 : (rg (i + 1) k).any (newH (gq_up R 43 i 1)) = true
        · rw [if_pos c2]
        · rw [if_neg c2]
      · rw [if_neg c, if_neg c, Bool.eq_false_iff.mpr c, Bool.false_or]
    · by_cases c : newH R i = true
      · rw [if_pos c, hr_s1 (by omega) c] at t3; exact t3
      · rw [if_neg c, hr_s0 (Bool.eq_false_iff.mpr c)] at t3; exact t3
theorem pk_fr {M2 R2 : gq_M} (H : PK S nb nl nr tn dn M R) (hM : ∀ a, 109 ≤ a → a ≤ 122 → a < 116 ∨ 118 < a → M2 a = M a) (hR : ∀ a, a < 40 ∨ 43 < a → R2 a = R a) (hP : ∀ j, j < 24 → PR M2 R2 j) : PK S nb nl nr tn dn M2 R2 := by
  obtain ⟨hnb, hnl, hnr, htn, hdn, hop, hdr, hkd, hby, hqu, hbt, hha, hpr, hbx, hbz, hlt, hlo⟩ := H
  have m1 := hM 119 (by omega) (by omega) (by omega)
  have m2 := hM 120 (by omega) (by omega) (by omega)
  have m3 := hM 121 (by omega) (by omega) (by omega)
  have m4 := hM 122 (by omega) (by omega) (by omega)
  have r := fun a ha => hR a (Or.inl ha)
  have r' := fun a ha => hR a (Or.inr ha)
  refine ⟨?_, ?_, ?_, ?_, ?_, ?_, ?_, fun j hj => ?_, fun j hj => ?_, fun j hj => ?_, fun j hj => ?_, fun q hq => ?_, hP, fun b hb => ?_, fun b h1 h2 => ?_, fun k hk => ?_, fun k hk => ?_⟩
  · rw [m1, r 0 (by omega)]; exact hnb
  · rw [m1, r 0 (by omega)]; exact hnl
  · rw [m1, r 0 (by omega)]; exact hnr
  · rw [m1, r 0 (by omega)]; exact htn
  · rw [m1, r 0 (by omega)]; exact hdn
  · rw [m1, r 0 (by omega)]; exact hop
  · rw [m1, r 0 (by omega)]; exact hdr
  · rw [m1, r 6 (by omega), r 7 (by omega), r 8 (by omega)]; exact hkd j hj
  · rw [m1, r 9 (by omega), r 10 (by omega), r 11 (by omega), r 12 (by omega)]; exact hby j hj
  · rw [m2, r 1 (by omega), r 2 (by omega)]; exact hqu j hj
  · rw [m3, r 3 (by omega), r 4 (by omega), r 5 (by omega)]; exact hbt j hj
  · obtain ⟨k1, k2⟩ := hha q hq
    refine ⟨HS_cg k1 (fun i h1 h2 => by rw [hM 115 (by omega) (by omega) (by omega)]) (fun a h1 => by rw [r a (by omega)]), fun hs => HA_cg (k2 hs) (fun i h1 h2 => by rw [hM 115 (by omega) (by omega) (by omega)]) (fun a h1 h2 h3 => by rw [r a (by omega)]) (Nat.le_refl _) (fun a h1 h2 h3 => ⟨by rw [r 32 (by omega)]; exact h2, by rw [r 31 (by omega)]; exact h3⟩)⟩
  · exact BX_cg (hbx b hb) (fun a h1 h2 => by rw [hM a (by omega) (by omega) (by omega)]) (fun a h1 h2 => by rw [r a (by omega)])
  · rw [hM 112 (by omega) (by omega) (by omega), hM 113 (by omega) (by omega) (by omega)]; exact hbz b h1 h2
  · exact LT_cg (hlt k hk) (by rw [hM 114 (by omega) (by omega) (by omega)]) (fun a h1 h2 => by rw [r a (by omega)])
  · rw [m4, r' 44 (by omega), r' 45 (by omega), r' 46 (by omega), r' 47 (by omega)]; exact hlo k hk
theorem s2_hears (H : PK S nb nl nr tn dn M R) (hh : h < 3) (hN : 600 ≤ N) : ∃ M2, f_L_hears N (nI h) M = some (if (rg (8 * h) 8).any (newH R) = true then 1 else 0, M2) ∧ PK S nb nl nr tn dn M2 (hrR (8 * h) (8 * h + 8) R) := by
  have H0 := H
  obtain ⟨hnb, hnl, hnr, htn, hdn, hop, hdr, hkd, hby, hqu, hbt, hha, hpr, hbx, hbz, hlt, hlo⟩ := H0
  obtain ⟨M2, e1, e2, e3⟩ := l_hears_l (N := N) hh 8 (8 * h) N 0 M R (Or.inl rfl) rfl (Nat.le_refl _) (by omega) (htn.1.trans htn.2.1.symm) hpr
  refine ⟨M2, ?_, pk_fr H (fun a h1 h2 h3 => e2 a (by omega)) (fun a ha => if_neg (by omega)) e3⟩
  unfold f_L_hears
  rw [pl8z]
  exact e1
-- the longest delay
theorem l_mx_l {b0 : Nat} (hb0 : b0 + 3 < 24) : ∀ (k i n9 : Nat) (acc : Int32), i + k = 8 → k < n9 → f_L_ticks_38 N n9 (nI b0) acc (nI i) M = some (0, gq_up (gq_up M 115 b0 2) 115 (b0 + 3) (M 119 0 + mx (fun j => M 119 (32 + j)) (rg i k) acc)) := by
  intro k
  induction k with
  | zero =>
    intro i n9 acc hi h9
    obtain ⟨n9, rfl⟩ : ∃ z, n9 = z + 1 := ⟨n9 - 1, by omega⟩
    obtain rfl : i = 8 := by omega
    have e3 : nI b0 + 3 = nI (b0 + 3) := by rw [show (3 : Int32) = nI 3 from rfl, nI_add]
    show f_L_ticks_38_b N (f_L_ticks_38 N n9) (nI b0) acc (nI 8) M = _
    unfold f_L_ticks_38_b
    rw [if_pos (show (8 : Int32) ≤ nI 8 by decide)]
    simp (disch := omega) only [g_inN, nI_clamp, gq_l_e, gi0_56, cl0, e3, up_no]
    rfl
  | succ k ih =>
    intro i n9 acc hi h9
    obtain ⟨n9, rfl⟩ : ∃ z, n9 = z + 1 := ⟨n9 - 1, by omega⟩
    have e32 : 32 + nI i = nI (32 + i) := by rw [show (32 : Int32) = nI 32 from rfl, nI_add]
    show f_L_ticks_38_b N (f_L_ticks_38 N n9) (nI b0) acc (nI i) M = _
    unfold f_L_ticks_38_b f_L_ticks_71
    rw [if_neg (fun h2 => by have := (nI_leI (a := 8) (by omega) (by omega)).mp h2; omega), e32, g_inN (by omega) (by omega), gq_l_e, nI_clamp (by omega), g_inN (by omega) (by omega), gq_l_e, nI_1, ih (i + 1) n9 _ (by omega) (by omega), ih (i + 1) n9 _ (by omega) (by omega), rg_s]
    by_cases c : M 119 (32 + i) ≤ acc
    · rw [if_pos c]
      show _ = some (0, gq_up (gq_up M 115 b0 2) 115 (b0 + 3) (M 119 0 + mx _ (rg (i + 1) k) (if acc < M 119 (32 + i) then M 119 (32 + i) else acc)))
      rw [if_neg (Int32.not_lt.mpr c)]
    · rw [if_neg c]
      show _ = some (0, gq_up (gq_up M 115 b0 2) 115 (b0 + 3) (M 119 0 + mx _ (rg (i + 1) k) (if acc < M 119 (32 + i) then M 119 (32 + i) else acc)))
      rw [if_pos (Int32.not_le.mp c)]
theorem le_sub {v p s : Nat} (hv : v < 100000000) (hp : p ≤ 10000) (hs : s ≤ 10000) : nI v ≤ nI p - nI s ↔ v + s ≤ p := by
  rw [Int32.le_iff_toInt_le, ti_sub (by rw [nI_toInt (by omega), nI_toInt (by omega)]; omega) (by rw [nI_toInt (by omega), nI_toInt (by omega)]; omega), nI_toInt (by omega), nI_toInt (by omega), nI_toInt (by omega)]
  omega
end

