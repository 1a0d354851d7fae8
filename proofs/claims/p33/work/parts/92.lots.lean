/-! a boat's lots -/
section
variable {S : Nat → Prop} {N h nb nl nr tn dn : Nat} {M R : gq_M}
def bxk (R : gq_M) (b : Nat) : Nat := (R 14 b).toNatClampNeg
def bxs (R : gq_M) (b : Nat) : Nat := (R 15 b).toNatClampNeg
def bxf (R : gq_M) (b : Nat) : Nat := (R 16 b).toNatClampNeg
def vlR (R : gq_M) (b : Nat) : Nat := bxk R b * 100 + bxs R b * 10 + (9 - bxf R b)
def rkR (R : gq_M) (b : Nat) : Nat := bxk R b * 27 + bxs R b * 9 + (9 - bxf R b)
def vln (n : Nat) : Nat := n / 27 * 100 + n / 9 % 3 * 10 + n % 9
theorem BX_n {b : Nat} (hB : BX M R b) : R 14 b = nI (bxk R b) ∧ bxk R b < 4 ∧ R 15 b = nI (bxs R b) ∧ bxs R b < 3 ∧ R 16 b = nI (bxf R b) ∧ 1 ≤ bxf R b ∧ bxf R b ≤ 9 := by
  obtain ⟨bo, ki, si, fr, st, wc, cl, kl, re, so, h1, h2, -⟩ := hB
  unfold bxk bxs bxf
  rw [h2.2.1, h2.2.2.1, h2.2.2.2.1, nI_clamp (by omega), nI_clamp (by omega), nI_clamp (by omega)]
  exact ⟨rfl, by omega, rfl, by omega, rfl, by omega, by omega⟩
theorem its_e {b : Nat} (hB : BX M R b) : ((M 109 b / 8 - M 109 b / 8 / 4 * 4) * 100 + (M 109 b / 32 - M 109 b / 32 / 4 * 4) * 10 + 9) - (M 109 b / 128 - M 109 b / 128 / 16 * 16) = nI (vlR R b) := by
  obtain ⟨-, e2, e3, e4, -⟩ := BX_a hB
  obtain ⟨k1, k2, k3, k4, k5, k6, k7⟩ := BX_n hB
  rw [e2, e3, e4, k1, k3, k5, show (100 : Int32) = nI 100 from rfl, show (10 : Int32) = nI 10 from rfl, show (9 : Int32) = nI 9 from rfl, nI_mul, nI_mul, nI_add, nI_add, nI_sub (by omega)]
  unfold vlR
  congr 1
  omega
theorem vl_lt {b : Nat} (hB : BX M R b) : vlR R b < 1000 ∧ rkR R b < 108 ∧ ∀ n, n < 108 → ((R 14 b = nI (n / 27) ∧ R 15 b = nI (n / 9 % 3) ∧ R 16 b = nI (9 - n % 9)) ↔ rkR R b = n) ∧ (vlR R b = vln n ↔ rkR R b = n) ∧ (n ≤ rkR R b → vln n ≤ vlR R b) := by
  obtain ⟨k1, k2, k3, k4, k5, k6, k7⟩ := BX_n hB
  unfold vlR rkR vln
  refine ⟨by omega, by omega, fun n hn => ⟨?_, ?_, ?_⟩⟩
  · rw [k1, k3, k5, nI_j (by omega) (by omega), nI_j (by omega) (by omega), nI_j (by omega) (by omega)]
    omega
  · omega
  · omega
def mnf (W : Nat → Bool) (v : Nat → Nat) : List Nat → Nat → Nat
  | [], a => a
  | b :: t, a => mnf W v t (if W b = true ∧ v b < a then v b else a)
theorem mnf_le {W : Nat → Bool} {v : Nat → Nat} : ∀ {L : List Nat} {a : Nat}, mnf W v L a ≤ a := by
  intro L
  induction L with
  | nil => intro a; exact Nat.le_refl _
  | cons b t ih =>
    intro a
    show mnf W v t _ ≤ a
    refine Nat.le_trans ih ?_
    split
    · omega
    · exact Nat.le_refl _
theorem mnf_z {W : Nat → Bool} {v : Nat → Nat} : ∀ {L : List Nat} {a : Nat}, (∀ b, b ∈ L → W b = true → a ≤ v b) → mnf W v L a = a := by
  intro L
  induction L with
  | nil => intro a _; rfl
  | cons b t ih =>
    intro a hh
    show mnf W v t _ = a
    rw [if_neg (fun z => by have := hh b List.mem_cons_self z.1; omega)]
    exact ih (fun x hx => hh x (List.mem_cons_of_mem _ hx))
theorem mnf_m {W : Nat → Bool} {v : Nat → Nat} {m : Nat} : ∀ {L : List Nat} {a : Nat}, (∀ b, b ∈ L → W b = true → m ≤ v b) → m ≤ a → (a = m ∨ ∃ b, b ∈ L ∧ W b = true ∧ v b = m) → mnf W v L a = m := by
  intro L
  induction L with
  | nil =>
    intro a _ _ hh
    rcases hh with hh | ⟨b, hb, -⟩
    · exact hh
    · cases hb
  | cons b t ih =>
    intro a h1 h2 h3
    show mnf W v t _ = m
    refine ih (fun x hx => h1 x (List.mem_cons_of_mem _ hx)) ?_ ?_
    · split
      · next c => exact h1 b List.mem_cons_self c.1
      · exact h2
    · by_cases c : W b = true ∧ v b < a
      · rw [if_pos c]
        rcases h3 with h3 | ⟨x, hx, hw, hv⟩
        · have := h1 b List.mem_cons_self c.1
          omega
        · rcases List.mem_cons.mp hx with e | hx
          · subst e; exact Or.inl hv
          · exact Or.inr ⟨x, hx, hw, hv⟩
      · rw [if_neg c]
        rcases h3 with h3 | ⟨x, hx, hw, hv⟩
        · exact Or.inl h3
        · rcases List.mem_cons.mp hx with e | hx
          · subst e
            refine Or.inl ?_
            have : ¬ v x < a := fun z => c ⟨hw, z⟩
            omega
          · exact Or.inr ⟨x, hx, hw, hv⟩
set_option maxHeartbeats 2000000 in
theorem l_min_l {g : Nat} {lastv : Int32} {kh : Int32 → Int32 → Int32 → gq_M → Option (Int32 × gq_M)} (hM : M 119 4 = nI nb) (hb : nb ≤ 40) (hg : g < 8) (hB : ∀ b, b < nb → BX M R b) (hlast : ∀ b, b < nb → wb (R 19) (R 13) g b = true → ¬ nI (vlR R b) ≤ lastv) : ∀ (k i n9 acc : Nat), i + k = nb → k < n9 → acc ≤ 1000 → f_L_lots_19 N kh n9 (nI g) lastv (nI acc) (nI i) M = f_L_lots_132 N kh (nI g) (nI (mnf (wb (R 19) (R 13) g) (vlR R) (rg i k) acc)) (if 1000 ≤ mnf (wb (R 19) (R 13) g) (vlR R) (rg i k) acc then 0 else 1) M := by
  intro k
  induction k with
  | zero =>
    intro i n9 acc hi h9 ha
    obtain ⟨n9, rfl⟩ : ∃ z, n9 = z + 1 := ⟨n9 - 1, by omega⟩
    have he : nb ≤ i := by omega
    show f_L_lots_19_b N kh (f_L_lots_19 N kh n9) (nI g) lastv (nI acc) (nI i) M = f_L_lots_132 N kh (nI g) (nI acc) (if 1000 ≤ acc then 0 else 1) M
    unfold f_L_lots_19_b
    rw [gi4_56, cl4, gq_l_e, hM, if_pos (nI_le he (by omega)), show (1000 : Int32) = nI 1000 from rfl]
    by_cases c : 1000 ≤ acc
    · rw [if_pos (nI_le c (by omega)), if_pos c]
    · rw [if_neg (fun z => c ((nI_leI (by omega) (by omega)).mp z)), if_neg c]
  | succ k ih =>
    intro i n9 acc hi h9 ha
    obtain ⟨n9, rfl⟩ : ∃ z, n9 = z + 1 := ⟨n9 - 1, by omega⟩
    have he : ¬ nb ≤ i := by omega
    have hBi := hB i (by omega)
    have hi40 : i < 40 := by omega
    have e1 := (BX_a hBi).1
    have ei := its_e hBi
    have hv := (vl_lt hBi).1
    rw [rg_s]
    show f_L_lots_19_b N kh (f_L_lots_19 N kh n9) (nI g) lastv (nI acc) (nI i) M = f_L_lots_132 N kh (nI g) (nI (mnf (wb (R 19) (R 13) g) (vlR R) (rg (i + 1) k) (if wb (R 19) (R 13) g i = true ∧ vlR R i < acc then vlR R i else acc))) (if 1000 ≤ mnf (wb (R 19) (R 13) g) (vlR R) (rg (i + 1) k) (if wb (R 19) (R 13) g i = true ∧ vlR R i < acc then vlR R i else acc) then 0 else 1) M
    obtain ⟨x, hx⟩ : ∃ x, x = (if wb (R 19) (R 13) g i = true ∧ vlR R i < acc then vlR R i else acc) := ⟨_, rfl⟩
    rw [← hx]
    have hx1 : x ≤ 1000 := by rw [hx]; split <;> omega
    rw [← ih (i + 1) n9 x (by omega) (by omega) hx1]
    have hts : ∀ {F : Int32 → gq_M → Option (Int32 × gq_M)}, gq_b (f_L_isToSell N (nI i) M) F = F (bI (R 19 i = 0 ∨ R 19 i = 6)) M := fun {F} => by rw [l_toSell hBi hi40]; rfl
    generalize f_L_lots_19 N kh n9 = G
    unfold f_L_lots_19_b f_L_lots_109 f_L_lots_111
    by_cases c1 : R 19 i = 0 ∨ R 19 i = 6
    · by_cases c2 : R 13 i = nI g
      · have hw : wb (R 19) (R 13) g i = true := decide_eq_true ⟨c1, c2⟩
        have hl := hlast i (by omega) hw
        by_cases c3 : vlR R i < acc
        · have c3' : ¬ acc ≤ vlR R i := by omega
          rw [if_pos ⟨hw, c3⟩] at hx
          subst hx
          simp (maxSteps := 1000000) (disch := omega) only [gi4_56, cl4, gq_l_e, hM, nI_leI, he, ↓reduceIte, g_inN, nI_clamp, hts, bI_t c1, f10, e1, c2, ei, eq_false hl, eq_false c3', nI_1]
        · have c3' : acc ≤ vlR R i := by omega
          rw [if_neg (fun z => c3 z.2)] at hx
          subst hx
          simp (maxSteps := 1000000) (disch := omega) only [gi4_56, cl4, gq_l_e, hM, nI_leI, he, ↓reduceIte, g_inN, nI_clamp, hts, bI_t c1, f10, e1, c2, ei, eq_false hl, eq_true c3', nI_1]
      · have hw : ¬ wb (R 19) (R 13) g i = true := fun z => c2 (of_decide_eq_true z).2
        rw [if_neg (fun z => hw z.1)] at hx
        subst hx
        simp (maxSteps := 1000000) (disch := omega) only [gi4_56, cl4, gq_l_e, hM, nI_leI, he, ↓reduceIte, g_inN, nI_clamp, hts, bI_t c1, f10, e1, eq_false c2, nI_1]
    · have hw : ¬ wb (R 19) (R 13) g i = true := fun z => c1 (of_decide_eq_true z).1
      rw [if_neg (fun z => hw z.1)] at hx
      subst hx
      simp (maxSteps := 1000000) (disch := omega) only [gi4_56, cl4, gq_l_e, hM, nI_leI, he, ↓reduceIte, g_inN, nI_clamp, hts, bI_f c1, nI_1]
theorem pk_off {b c : Nat} (H : PK S nb nl nr tn dn M R) (hb : b < nb) : PK S nb nl nr tn dn (gq_up (gq_up M 109 b (M 109 b + 2048 * (2 - R 19 b))) 111 b (nI c)) (gq_up (gq_up R 19 b 2) 26 b (nI c)) := by
  obtain ⟨hnb, hnl, hnr, htn, hdn, hop, hdr, hkd, hby, hqu, hbt, hha, hpr, hbx, hbz, hlt, hlo⟩ := H
  refine ⟨hnb, hnl, hnr, htn, hdn, hop, hdr, hkd, hby, hqu, hbt, hha, hpr, fun j hj => ?_, hbz, hlt, hlo⟩
  by_cases e : j = b
  · subst e
    obtain ⟨bo, ki, si, fr, st, wc, cl, kl, re, so, h1, h2, h3, h4, h5, h6⟩ := hbx j hj
    obtain ⟨g1, g2, g3, g4, g5, g6, g7, g8, g9⟩ := h2
    refine ⟨bo, ki, si, fr, 2, wc, cl, kl, re, so, by omega, ⟨g1, g2, g3, g4, ?_, g6, g7, g8, g9⟩, ?_, h4, ?_, h6⟩
    · simp (disch := omega) only [up_no, up_same]; rfl
    · simp (disch := omega) only [up_no, up_same]
      rw [g5, h3, show (2 : Int32) = nI 2 from rfl, show (2048 : Int32) = nI 2048 from rfl]
      have : nI (bo + 8 * ki + 32 * si + 128 * fr + 2048 * st + 16384 * wc + 32768 * cl) + nI 2048 * (nI 2 - nI st) + nI (2048 * st) = nI (bo + 8 * ki + 32 * si + 128 * fr + 2048 * 2 + 16384 * wc + 32768 * cl) + nI (2048 * st) := by
        have e1 : nI 2048 * (nI 2 - nI st) + nI (2048 * st) = nI (2048 * 2) := by
          rw [← nI_mul, ← nI_mul]; grind
        rw [Int32.add_assoc, e1, nI_add, nI_add]
        congr 1; omega
      grind
    · simp (disch := omega) only [up_no, up_same]
  · exact BX_cg (hbx j hj) (fun a h1 h2 => by simp (disch := omega) only [up_no]) (fun a h1 h2 => by simp (disch := omega) only [up_no])
set_option maxHeartbeats 2000000 in
theorem l_off_l {g n c : Nat} {kh : Int32 → Int32 → Int32 → gq_M → Option (Int32 × gq_M)} (hg : g < 8) (hn : n < 108) (hc : c < 40) : ∀ (k i n9 : Nat) (M R : gq_M), PK S nb c nr tn dn M R → i + k = nb → k < n9 → ∃ M2, f_L_lots_137 N kh n9 (nI g) 1 (nI (vln n)) (nI i) M = f_L_lots_240 N kh (nI g) 1 (nI (vln n)) M2 ∧ PK S nb c nr tn dn M2 (mkP i nb c (pR R g (n / 27) (n / 9 % 3) (9 - n % 9)) R) := by
  intro k
  induction k with
  | zero =>
    intro i n9 M R H hi h9
    obtain ⟨n9, rfl⟩ : ∃ z, n9 = z + 1 := ⟨n9 - 1, by omega⟩
    have hnb := pq_nb H
    have hb := hnb.2.2
    have he : nb ≤ i := by omega
    refine ⟨M, ?_, ?_⟩
    · show f_L_lots_137_b N kh (f_L_lots_137 N kh n9) (nI g) 1 (nI (vln n)) (nI i) M = _
      unfold f_L_lots_137_b
      rw [gi4_56, cl4, gq_l_e, hnb.1, if_pos (nI_le he (by omega))]
    · rw [mkP_0 he]; exact H
  | succ k ih =>
    intro i n9 M R H hi h9
    obtain ⟨n9, rfl⟩ : ∃ z, n9 = z + 1 := ⟨n9 - 1, by omega⟩
    have H0 := H
    obtain ⟨hnb, hnl, hnr, htn, hdn, hop, hdr, hkd, hby, hqu, hbt, hha, hpr, hbx, hbz, hlt, hlo⟩ := H0
    have he : ¬ nb ≤ i := by omega
    have hBi := hbx i (by omega)
    have hi40 : i < 40 := by omega
    have e1 := (BX_a hBi).1
    have ea5 := (BX_a hBi).2.2.2.2.1
    have ei := its_e hBi
    obtain ⟨hv, hr, hvn⟩ := vl_lt hBi
    obtain ⟨w1, w2, -⟩ := hvn n hn
    have hvl : vln n < 1000 := by unfold vln; omega
    have hts : ∀ {F : Int32 → gq_M → Option (Int32 × gq_M)}, gq_b (f_L_isToSell N (nI i) M) F = F (bI (R 19 i = 0 ∨ R 19 i = 6)) M := fun {F} => by rw [l_toSell hBi hi40]; rfl
    by_cases cP : pR R g (n / 27) (n / 9 % 3) (9 - n % 9) i = true
    · obtain ⟨p1, p2, p3⟩ := of_decide_eq_true cP
      have hve : vlR R i = vln n := w2.mpr (w1.mp p3)
      obtain ⟨M2, t1, t2⟩ := ih (i + 1) n9 _ _ (pk_off (c := c) H (b := i) (by omega)) (by omega) (by omega)
      refine ⟨M2, Eq.trans ?_ t1, ?_⟩
      · show f_L_lots_137_b N kh (f_L_lots_137 N kh n9) (nI g) 1 (nI (vln n)) (nI i) M = _
        generalize f_L_lots_137 N kh n9 = G
        unfold f_L_lots_137_b f_L_lots_234
        rw [hve] at ei
        simp (maxSteps := 1000000) (disch := omega) only [gi4_56, cl4, gi5_56, cl5, gq_l_e, hnb.1, nI_leI, he, ↓reduceIte, f10, g_inN, nI_clamp, hts, bI_t p1, e1, p2, ei, b_becomes hi40, ea5, up_no, hnl.1, nI_1]
      · rw [mkP_s (P := pR R g (n / 27) (n / 9 % 3) (9 - n % 9)) (by omega) cP (fun b hb => by
          unfold pR
          rw [show (gq_up (gq_up R 19 i 2) 26 i (nI c)) 19 b = R 19 b from upd_n (f := R 19) (j := i) (v := 2) (k := b) (by omega)]
          rfl)] at t2
        exact t2
    · obtain ⟨M2, t1, t2⟩ := ih (i + 1) n9 M R H (by omega) (by omega)
      rw [mkP_n cP] at t2
      refine ⟨M2, Eq.trans ?_ t1, t2⟩
      show f_L_lots_137_b N kh (f_L_lots_137 N kh n9) (nI g) 1 (nI (vln n)) (nI i) M = _
      generalize f_L_lots_137 N kh n9 = G
      unfold f_L_lots_137_b f_L_lots_234
      by_cases c1 : R 19 i = 0 ∨ R 19 i = 6
      · by_cases c2 : R 13 i = nI g
        · have c3 : ¬ nI (vlR R i) = nI (vln n) := fun z => cP (decide_eq_true ⟨c1, c2, w1.mpr (w2.mp ((nI_j (by omega) (by omega)).mp z))⟩)
          simp (maxSteps := 1000000) (disch := omega) only [gi4_56, cl4, gi5_56, cl5, gq_l_e, hnb.1, nI_leI, he, ↓reduceIte, f10, g_inN, nI_clamp, hts, bI_t c1, e1, c2, ei, eq_false c3, nI_1]
        · simp (maxSteps := 1000000) (disch := omega) only [gi4_56, cl4, gi5_56, cl5, gq_l_e, hnb.1, nI_leI, he, ↓reduceIte, f10, g_inN, nI_clamp, hts, bI_t c1, e1, eq_false c2, nI_1]
      · simp (maxSteps := 1000000) (disch := omega) only [gi4_56, cl4, gi5_56, cl5, gq_l_e, hnb.1, nI_leI, he, ↓reduceIte, f10, g_inN, nI_clamp, hts, bI_f c1, nI_1]
end

