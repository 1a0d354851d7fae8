/-! a standing clock: who is first -/
section
variable {S : Nat → Prop} {N h nb nl nr tn dn : Nat} {M R : gq_M}
def kpt (h : Nat) (R : gq_M) (j : Nat) : Nat := (R 42 (8 * h + j)).toNatClampNeg
def tck (h : Nat) (R : gq_M) (j : Nat) : Nat := (R 40 (8 * h + j)).toNatClampNeg
def cnd (h : Nat) (kk : Int32) (R : gq_M) (j : Nat) : Bool := decide (¬ R 43 (8 * h + j) = 0 ∧ kk * R 42 (8 * h + j) ≤ R 9 j - R 11 j)
def bet (h : Nat) (R : gq_M) (b j : Nat) : Prop := kpt h R j < kpt h R b ∨ (kpt h R j = kpt h R b ∧ (tck h R b < tck h R j ∨ (tck h R b = tck h R j ∧ b < j)))
def MXs (h : Nat) (kk : Int32) (R : gq_M) (P : Nat → Prop) (o : Option Nat) : Prop := (o = none → ∀ j, P j → cnd h kk R j = false) ∧ ∀ b, o = some b → P b ∧ cnd h kk R b = true ∧ ∀ j, P j → cnd h kk R j = true → j ≠ b → bet h R b j
theorem MXs_u {kk : Int32} {P : Nat → Prop} {o q : Option Nat} (h1 : MXs h kk R P o) (h2 : MXs h kk R P q) : o = q := by
  cases o with
  | none =>
    cases q with
    | none => rfl
    | some c =>
      obtain ⟨g1, g2, -⟩ := h2.2 c rfl
      have := h1.1 rfl c g1
      rw [g2] at this
      cases this
  | some b =>
    obtain ⟨g1, g2, g3⟩ := h1.2 b rfl
    cases q with
    | none =>
      have := h2.1 rfl b g1
      rw [g2] at this
      cases this
    | some c =>
      obtain ⟨f1, f2, f3⟩ := h2.2 c rfl
      by_cases e : c = b
      · rw [e]
      · have x1 := g3 c f1 f2 e
        have x2 := f3 b g1 g2 (fun z => e z.symm)
        unfold bet at x1 x2
        omega
def stU (h : Nat) (kk : Int32) (R : gq_M) (j : Nat) (o : Option Nat) : Option Nat := if cnd h kk R j = true then (match o with | none => some j | some b => if kpt h R b < kpt h R j ∨ (kpt h R j = kpt h R b ∧ tck h R j < tck h R b) then some j else some b) else o
def stD (h : Nat) (kk : Int32) (R : gq_M) (j : Nat) (o : Option Nat) : Option Nat := if cnd h kk R j = true then (match o with | none => some j | some b => if kpt h R b < kpt h R j ∨ (kpt h R j = kpt h R b ∧ tck h R j ≤ tck h R b) then some j else some b) else o
theorem MXs_U {kk : Int32} {j : Nat} {o : Option Nat} (H : MXs h kk R (fun x => x < j) o) : MXs h kk R (fun x => x < j + 1) (stU h kk R j o) := by
  unfold stU
  by_cases c : cnd h kk R j = true
  · rw [if_pos c]
    cases o with
    | none =>
      refine ⟨fun z => (by cases z), fun b hb => ?_⟩
      cases hb
      refine ⟨Nat.lt_succ_self _, c, fun x hx hc hne => ?_⟩
      have := H.1 rfl x (by omega)
      rw [hc] at this; cases this
    | some b =>
      obtain ⟨g1, g2, g3⟩ := H.2 b rfl
      dsimp only
      by_cases c2 : kpt h R b < kpt h R j ∨ (kpt h R j = kpt h R b ∧ tck h R j < tck h R b)
      · rw [if_pos c2]
        refine ⟨fun z => (by cases z), fun b2 hb => ?_⟩
        cases hb
        refine ⟨Nat.lt_succ_self _, c, fun x hx hc hne => ?_⟩
        by_cases e : x = b
        · subst e; unfold bet; omega
        · have := g3 x (by omega) hc e
          unfold bet at this ⊢
          omega
      · rw [if_neg c2]
        refine ⟨fun z => (by cases z), fun b2 hb => ?_⟩
        cases hb
        refine ⟨by omega, g2, fun x hx hc hne => ?_⟩
        by_cases e : x = j
        · subst e; unfold bet; omega
        · exact g3 x (by omega) hc hne
  · rw [if_neg c]
    refine ⟨fun z x hx => ?_, fun b hb => ?_⟩
    · by_cases e : x = j
      · rw [e]; exact Bool.eq_false_iff.mpr c
      · exact H.1 z x (by omega)
    · obtain ⟨g1, g2, g3⟩ := H.2 b hb
      refine ⟨by omega, g2, fun x hx hc hne => ?_⟩
      by_cases e : x = j
      · rw [e] at hc; exact absurd hc c
      · exact g3 x (by omega) hc hne
theorem MXs_D {kk : Int32} {j : Nat} {o : Option Nat} (hj : j < 8) (H : MXs h kk R (fun x => j + 1 ≤ x ∧ x < 8) o) : MXs h kk R (fun x => j ≤ x ∧ x < 8) (stD h kk R j o) := by
  unfold stD
  by_cases c : cnd h kk R j = true
  · rw [if_pos c]
    cases o with
    | none =>
      refine ⟨fun z => (by cases z), fun b hb => ?_⟩
      cases hb
      refine ⟨⟨Nat.le_refl _, hj⟩, c, fun x hx hc hne => ?_⟩
      have := H.1 rfl x (by omega)
      rw [hc] at this; cases this
    | some b =>
      obtain ⟨g1, g2, g3⟩ := H.2 b rfl
      dsimp only
      by_cases c2 : kpt h R b < kpt h R j ∨ (kpt h R j = kpt h R b ∧ tck h R j ≤ tck h R b)
      · rw [if_pos c2]
        refine ⟨fun z => (by cases z), fun b2 hb => ?_⟩
        cases hb
        refine ⟨⟨Nat.le_refl _, hj⟩, c, fun x hx hc hne => ?_⟩
        by_cases e : x = b
        · subst e; unfold bet; omega
        · have := g3 x (by omega) hc e
          unfold bet at this ⊢
          omega
      · rw [if_neg c2]
        refine ⟨fun z => (by cases z), fun b2 hb => ?_⟩
        cases hb
        refine ⟨by omega, g2, fun x hx hc hne => ?_⟩
        by_cases e : x = j
        · subst e; unfold bet; omega
        · exact g3 x (by omega) hc hne
  · rw [if_neg c]
    refine ⟨fun z x hx => ?_, fun b hb => ?_⟩
    · by_cases e : x = j
      · rw [e]; exact Bool.eq_false_iff.mpr c
      · exact H.1 z x (by omega)
    · obtain ⟨g1, g2, g3⟩ := H.2 b hb
      refine ⟨by omega, g2, fun x hx hc hne => ?_⟩
      by_cases e : x = j
      · rw [e] at hc; exact absurd hc c
      · exact g3 x (by omega) hc hne
def foU (h : Nat) (kk : Int32) (R : gq_M) : List Nat → Option Nat → Option Nat
  | [], o => o
  | j :: t, o => foU h kk R t (stU h kk R j o)
def foD (h : Nat) (kk : Int32) (R : gq_M) : Nat → Option Nat → Option Nat
  | 0, o => o
  | j + 1, o => foD h kk R j (stD h kk R j o)
theorem foU_s {kk : Int32} : ∀ (k i : Nat) (o : Option Nat), i + k = 8 → MXs h kk R (fun x => x < i) o → MXs h kk R (fun x => x < 8) (foU h kk R (rg i k) o) := by
  intro k
  induction k with
  | zero => intro i o hi H; rw [show i = 8 by omega] at H; exact H
  | succ k ih => intro i o hi H; rw [rg_s]; exact ih (i + 1) _ (by omega) (MXs_U H)
theorem foD_s {kk : Int32} : ∀ (i : Nat) (o : Option Nat), i ≤ 8 → MXs h kk R (fun x => i ≤ x ∧ x < 8) o → MXs h kk R (fun x => 0 ≤ x ∧ x < 8) (foD h kk R i o) := by
  intro i
  induction i with
  | zero => intro o hi H; exact H
  | succ i ih => intro o hi H; exact ih _ (by omega) (MXs_D (by omega) H)
theorem foUD {kk : Int32} : foU h kk R (rg 0 8) none = foD h kk R 8 none := by
  have h1 := foU_s (h := h) (kk := kk) (R := R) 8 0 none rfl ⟨fun _ j hj => absurd hj (Nat.not_lt_zero _), fun b hb => by cases hb⟩
  have h2 := foD_s (h := h) (kk := kk) (R := R) 8 none (Nat.le_refl _) ⟨fun _ j hj => absurd hj.2 (by omega), fun b hb => by cases hb⟩
  have h3 : (fun x => 0 ≤ x ∧ x < 8) = (fun x : Nat => x < 8) := by
    funext x
    exact propext ⟨fun z => z.2, fun z => ⟨Nat.zero_le _, z⟩⟩
  rw [h3] at h2
  exact MXs_u h1 h2
/-- who is heard, in numbers -/
theorem PR_n {j : Nat} (hP : PR M R (8 * h + j)) (hc : ¬ R 43 (8 * h + j) = 0) : kpt h R j ≤ 10000 ∧ tck h R j ≤ 3000 ∧ R 42 (8 * h + j) = nI (kpt h R j) ∧ R 40 (8 * h + j) = nI (tck h R j) ∧ M 116 (8 * h + j) = nI (tck h R j) ∧ M 118 (8 * h + j) = nI (kpt h R j + 65536) ∧ 1 ≤ kpt h R j := by
  rcases hP with ⟨p1, p2, p3⟩ | ⟨t, p, b1, b2, b3, p1, p2, p3, p4, p5⟩
  · exact absurd p2 hc
  · rcases p5 with ⟨p5, -⟩ | ⟨p5, p6⟩
    · exact absurd p5 hc
    · have e1 : kpt h R j = p := by unfold kpt; rw [p4, nI_clamp (by omega)]
      have e2 : tck h R j = t := by unfold tck; rw [p1, nI_clamp (by omega)]
      rw [e1, e2]
      exact ⟨b3, b1, p4, p1, p2, p6, b2⟩
def okh (h : Nat) (R : gq_M) (o : Option Nat) : Prop := ∀ b, o = some b → b < 8 ∧ ¬ R 43 (8 * h + b) = 0
theorem okh_U {kk : Int32} {j : Nat} {o : Option Nat} (hj : j < 8) (H : okh h R o) : okh h R (stU h kk R j o) := by
  intro b hb
  unfold stU at hb
  by_cases c : cnd h kk R j = true
  · rw [if_pos c] at hb
    have cj := (of_decide_eq_true c).1
    cases o with
    | none => cases hb; exact ⟨hj, cj⟩
    | some b2 =>
      dsimp only at hb
      split at hb
      · cases hb; exact ⟨hj, cj⟩
      · cases hb; exact H b rfl
  · rw [if_neg c] at hb; exact H b hb
theorem okh_D {kk : Int32} {j : Nat} {o : Option Nat} (hj : j < 8) (H : okh h R o) : okh h R (stD h kk R j o) := by
  intro b hb
  unfold stD at hb
  by_cases c : cnd h kk R j = true
  · rw [if_pos c] at hb
    have cj := (of_decide_eq_true c).1
    cases o with
    | none => cases hb; exact ⟨hj, cj⟩
    | some b2 =>
      dsimp only at hb
      split at hb
      · cases hb; exact ⟨hj, cj⟩
      · cases hb; exact H b rfl
  · rw [if_neg c] at hb; exact H b hb
set_option maxHeartbeats 2000000 in
theorem r_sel_l {kk : Int32} (hh : h < 3) (hP : ∀ j, j < 24 → PR M R j) (F : Int32 → Int32 → Int32 → Int32 → gq_M → Option (Int32 × gq_M)) : ∀ (k i n9 : Nat) (o : Option Nat), i + k = 8 → k < n9 → okh h R o → f_X10_stands_44 N n9 (nI h) kk (enR h o) (nI (8 * h + i)) R = f_X10_stands_44_b N F (nI h) kk (enR h (foU h kk R (rg i k) o)) (nI (8 * h + 8)) R := by
  intro k
  induction k with
  | zero =>
    intro i n9 o hi h9 ho
    obtain ⟨n9, rfl⟩ : ∃ z, n9 = z + 1 := ⟨n9 - 1, by omega⟩
    obtain rfl : i = 8 := by omega
    show f_X10_stands_44_b N (f_X10_stands_44 N n9) (nI h) kk (enR h o) (nI (8 * h + 8)) R = f_X10_stands_44_b N F (nI h) kk (enR h o) (nI (8 * h + 8)) R
    unfold f_X10_stands_44_b
    rw [pl8c, if_pos (Int32.le_refl _), if_pos (Int32.le_refl _)]
  | succ k ih =>
    intro i n9 o hi h9 ho
    obtain ⟨n9, rfl⟩ : ∃ z, n9 = z + 1 := ⟨n9 - 1, by omega⟩
    rw [rg_s]
    show _ = f_X10_stands_44_b N F (nI h) kk (enR h (foU h kk R (rg (i + 1) k) (stU h kk R i o))) (nI (8 * h + 8)) R
    rw [← ih (i + 1) n9 _ (by omega) (by omega) (okh_U (by omega) ho)]
    show f_X10_stands_44_b N (f_X10_stands_44 N n9) (nI h) kk (enR h o) (nI (8 * h + i)) R = _
    have he : ¬ 8 * h + 8 ≤ 8 * h + i := by omega
    have hm8 := mod8 (h := h) (w := i) hh (by omega)
    have e1 : nI (8 * h + i) + 1 = nI (8 * h + (i + 1)) := nI_1 _
    generalize f_X10_stands_44 N n9 = G
    unfold f_X10_stands_44_b f_X10_stands_91 f_X10_stands_92 f_X10_stands_114 f_X10_stands_119 f_X10_stands_120
    by_cases c1 : R 43 (8 * h + i) = 0
    · have hc : cnd h kk R i = false := decide_eq_false (fun z => z.1 c1)
      have hst : stU h kk R i o = o := by unfold stU; rw [hc]; rfl
      simp (disch := omega) only [pl8c, nI_leI, he, ↓reduceIte, g_inN, nI_clamp, gq_l_e, c1, hst, e1]
    · by_cases c2 : kk * R 42 (8 * h + i) ≤ R 9 i - R 11 i
      · have hc : cnd h kk R i = true := decide_eq_true ⟨c1, c2⟩
        cases o with
        | none =>
          have hst : stU h kk R i none = some i := by unfold stU; rw [hc]; rfl
          simp (disch := omega) only [pl8c, nI_leI, he, ↓reduceIte, g_inN, nI_clamp, gq_l_e, c1, hm8, b_canPay, bI_t c2, f10, enR, hst, e1]
        | some b =>
          obtain ⟨hb8, hbh⟩ := ho b rfl
          obtain ⟨x1, x2, x3, x4, -, -, -⟩ := PR_n (hP (8 * h + i) (by omega)) c1
          obtain ⟨y1, y2, y3, y4, -, -, -⟩ := PR_n (hP (8 * h + b) (by omega)) hbh
          have hbb : ∀ {F2 : Int32 → gq_M → Option (Int32 × gq_M)}, gq_b (f_X10_isBefore N (nI (8 * h + i)) (nI (8 * h + b)) R) F2 = F2 (bI (kpt h R b < kpt h R i ∨ kpt h R i = kpt h R b ∧ tck h R i < tck h R b)) R := b_before (by omega) (by omega) x3 y3 x4 y4 (by omega) (by omega) (by omega) (by omega)
          have hnm : ¬ nI (8 * h + b) = -1 := nI_m1 (by omega)
          by_cases c3 : kpt h R b < kpt h R i ∨ kpt h R i = kpt h R b ∧ tck h R i < tck h R b
          · have hst : stU h kk R i (some b) = some i := by unfold stU; rw [hc]; exact if_pos c3
            simp (disch := omega) only [pl8c, nI_leI, he, ↓reduceIte, g_inN, nI_clamp, gq_l_e, c1, hm8, b_canPay, bI_t c2, f10, enR, hst, e1, hnm, hbb, bI_t c3]
          · have hst : stU h kk R i (some b) = some b := by unfold stU; rw [hc]; exact if_neg c3
            simp (disch := omega) only [pl8c, nI_leI, he, ↓reduceIte, g_inN, nI_clamp, gq_l_e, c1, hm8, b_canPay, bI_t c2, f10, enR, hst, e1, hnm, hbb, bI_f c3]
      · have hc : cnd h kk R i = false := decide_eq_false (fun z => c2 z.2)
        have hst : stU h kk R i o = o := by unfold stU; rw [hc]; rfl
        simp (disch := omega) only [pl8c, nI_leI, he, ↓reduceIte, g_inN, nI_clamp, gq_l_e, c1, hm8, b_canPay, bI_f c2, hst, e1]
set_option maxHeartbeats 4000000 in
theorem l_sel_l {kk : Int32} (hh : h < 3) (hP : ∀ j, j < 24 → PR M R j) (hG : ∀ j, j < 8 → M 119 (24 + j) = R 9 j ∧ M 119 (40 + j) = R 11 j) (F : Int32 → Int32 → Int32 → Int32 → Int32 → gq_M → Option (Int32 × gq_M)) : ∀ (i n9 : Nat) (o : Option Nat), i ≤ 8 → i < n9 → okh h R o → f_L_ticks_265 N n9 (nI h) (nI (8 * h)) kk (enC o) (nI i - 1) M = f_L_ticks_265_b N F (nI h) (nI (8 * h)) kk (enC (foD h kk R i o)) (-1) M := by
  intro i
  induction i with
  | zero =>
    intro n9 o hi h9 ho
    obtain ⟨n9, rfl⟩ : ∃ z, n9 = z + 1 := ⟨n9 - 1, by omega⟩
    show f_L_ticks_265_b N (f_L_ticks_265 N n9) (nI h) (nI (8 * h)) kk (enC o) (-1) M = f_L_ticks_265_b N F (nI h) (nI (8 * h)) kk (enC o) (-1) M
    unfold f_L_ticks_265_b
    rw [if_pos (show (-1 : Int32) < 0 by decide), if_pos (show (-1 : Int32) < 0 by decide)]
  | succ i ih =>
    intro n9 o hi h9 ho
    obtain ⟨n9, rfl⟩ : ∃ z, n9 = z + 1 := ⟨n9 - 1, by omega⟩
    show _ = f_L_ticks_265_b N F (nI h) (nI (8 * h)) kk (enC (foD h kk R i (stD h kk R i o))) (-1) M
    rw [← ih n9 _ (by omega) (by omega) (okh_D (by omega) ho), nI_pred]
    show f_L_ticks_265_b N (f_L_ticks_265 N n9) (nI h) (nI (8 * h)) kk (enC o) (nI i) M = _
    have hi0 : ¬ nI i < 0 := nI_lt0 (by omega)
    have e1 : nI i + (-1) = nI i - 1 := by rw [Int32.sub_eq_add_neg]
    have e8 : nI (8 * h) + nI i = nI (8 * h + i) := nI_add _ _
    have e24 : 24 + nI i = nI (24 + i) := by rw [show (24 : Int32) = nI 24 from rfl, nI_add]
    have e40 : 40 + nI i = nI (40 + i) := by rw [show (40 : Int32) = nI 40 from rfl, nI_add]
    obtain ⟨g1, g2⟩ := hG i (by omega)
    generalize f_L_ticks_265 N n9 = G
    unfold f_L_ticks_265_b f_L_ticks_330 f_L_ticks_331 f_L_ticks_391 f_L_ticks_395 f_L_ticks_396 f_L_ticks_410
    by_cases c1 : R 43 (8 * h + i) = 0
    · have hc : cnd h kk R i = false := decide_eq_false (fun z => z.1 c1)
      have hst : stD h kk R i o = o := by unfold stD; rw [hc]; rfl
      rcases hP (8 * h + i) (by omega) with ⟨p1, p2, p3⟩ | ⟨t, p, b1, b2, b3, p1, p2, p3, p4, p5⟩
      · simp (maxSteps := 1000000) (disch := omega) only [eq_false hi0, ↓reduceIte, e8, ↓g_inN, g_inN, nI_clamp, ↓gq_l_e, gq_l_e, p3, show ((-1 : Int32) < 0) = True by decide, hst, e1]
      · rcases p5 with ⟨p5, p6⟩ | ⟨p5, p6⟩
        · have hk : nI p ≤ 65535 := by
            rw [show (65535 : Int32) = nI 65535 from rfl, nI_leI (by omega) (by omega)]
            omega
          have hp0 : ¬ nI t < 0 := nI_lt0 (by omega)
          simp (maxSteps := 1000000) (disch := omega) only [eq_false hi0, ↓reduceIte, e8, ↓g_inN, g_inN, nI_clamp, ↓gq_l_e, gq_l_e, p2, eq_false hp0, p6, eq_true hk, hst, e1]
        · rw [c1] at p5; exact absurd p5 (by decide)
    · obtain ⟨x1, x2, x3, x4, x5, x6, x7⟩ := PR_n (hP (8 * h + i) (by omega)) c1
      have hp0 : ¬ nI (tck h R i) < 0 := nI_lt0 (by omega)
      have hk : ¬ nI (kpt h R i + 65536) ≤ 65535 := by
        rw [show (65535 : Int32) = nI 65535 from rfl, nI_leI (by omega) (by omega)]
        omega
      have hmod : nI (kpt h R i + 65536) - nI (kpt h R i + 65536) / 65536 * 65536 = R 42 (8 * h + i) := by
        rw [x3]
        exact (rd1 (b := 65536) (by omega) (by omega)).trans (congrArg nI (by omega))
      by_cases c2 : kk * R 42 (8 * h + i) ≤ R 9 i - R 11 i
      · have hc : cnd h kk R i = true := decide_eq_true ⟨c1, c2⟩
        have c2' : ¬ R 9 i - R 11 i < kk * R 42 (8 * h + i) := Int32.not_lt.mpr c2
        cases o with
        | none =>
          have hst : stD h kk R i none = some i := by unfold stD; rw [hc]; rfl
          simp (maxSteps := 1000000) (disch := omega) only [eq_false hi0, ↓reduceIte, e8, ↓g_inN, g_inN, nI_clamp, ↓gq_l_e, gq_l_e, x5, eq_false hp0, x6, eq_false hk, e24, e40, g1, g2, hmod, eq_false c2', f10, enC, show ((-1 : Int32) < 0) = True by decide, hst, e1]
        | some b =>
          obtain ⟨hb8, hbh⟩ := ho b rfl
          obtain ⟨y1, y2, y3, y4, y5, y6, -⟩ := PR_n (hP (8 * h + b) (by omega)) hbh
          have hb0 : ¬ nI b < 0 := nI_lt0 (by omega)
          have e8b : nI (8 * h) + nI b = nI (8 * h + b) := nI_add _ _
          by_cases d1 : kpt h R b < kpt h R i
          · have hst : stD h kk R i (some b) = some i := by unfold stD; rw [hc]; exact if_pos (Or.inl d1)
            have d1' : nI (kpt h R b + 65536) < nI (kpt h R i + 65536) := (nI_ltI (by omega) (by omega)).mpr (by omega)
            simp (maxSteps := 1000000) (disch := omega) only [eq_false hi0, ↓reduceIte, e8, ↓g_inN, g_inN, nI_clamp, ↓gq_l_e, gq_l_e, x5, eq_false hp0, x6, eq_false hk, e24, e40, g1, g2, hmod, eq_false c2', f10, enC, eq_false hb0, e8b, y6, eq_true d1', hst, e1]
          · have d1' : ¬ nI (kpt h R b + 65536) < nI (kpt h R i + 65536) := fun z => d1 (by have := (nI_ltI (by omega) (by omega)).mp z; omega)
            by_cases d2 : kpt h R i = kpt h R b
            · have d2' : nI (kpt h R i + 65536) = nI (kpt h R b + 65536) := by rw [d2]
              by_cases d3 : tck h R i ≤ tck h R b
              · have hst : stD h kk R i (some b) = some i := by unfold stD; rw [hc]; exact if_pos (Or.inr ⟨d2, d3⟩)
                have d3' : ¬ nI (tck h R b) < nI (tck h R i) := fun z => by have := (nI_ltI (by omega) (by omega)).mp z; omega
                simp (maxSteps := 1000000) (disch := omega) only [eq_false hi0, ↓reduceIte, e8, ↓g_inN, g_inN, nI_clamp, ↓gq_l_e, gq_l_e, x5, eq_false hp0, x6, eq_false hk, e24, e40, g1, g2, hmod, eq_false c2', f10, enC, eq_false hb0, e8b, y6, eq_false d1', eq_true d2', y5, eq_false d3', hst, e1]
              · have hst : stD h kk R i (some b) = some b := by unfold stD; rw [hc]; exact if_neg (show ¬ (kpt h R b < kpt h R i ∨ (kpt h R i = kpt h R b ∧ tck h R i ≤ tck h R b)) by omega)
                have d3' : nI (tck h R b) < nI (tck h R i) := (nI_ltI (by omega) (by omega)).mpr (by omega)
                simp (maxSteps := 1000000) (disch := omega) only [eq_false hi0, ↓reduceIte, e8, ↓g_inN, g_inN, nI_clamp, ↓gq_l_e, gq_l_e, x5, eq_false hp0, x6, eq_false hk, e24, e40, g1, g2, hmod, eq_false c2', f10, enC, eq_false hb0, e8b, y6, eq_false d1', eq_true d2', y5, eq_true d3', hst, e1]
            · have hst : stD h kk R i (some b) = some b := by unfold stD; rw [hc]; exact if_neg (show ¬ (kpt h R b < kpt h R i ∨ (kpt h R i = kpt h R b ∧ tck h R i ≤ tck h R b)) by omega)
              have d2' : ¬ nI (kpt h R i + 65536) = nI (kpt h R b + 65536) := fun z => d2 (by have := (nI_j (by omega) (by omega)).mp z; omega)
              simp (maxSteps := 1000000) (disch := omega) only [eq_false hi0, ↓reduceIte, e8, ↓g_inN, g_inN, nI_clamp, ↓gq_l_e, gq_l_e, x5, eq_false hp0, x6, eq_false hk, e24, e40, g1, g2, hmod, eq_false c2', f10, enC, eq_false hb0, e8b, y6, eq_false d1', eq_false d2', hst, e1]
      · have hc : cnd h kk R i = false := decide_eq_false (fun z => c2 z.2)
        have hst : stD h kk R i o = o := by unfold stD; rw [hc]; rfl
        have c2' : R 9 i - R 11 i < kk * R 42 (8 * h + i) := Int32.not_le.mp c2
        simp (maxSteps := 1000000) (disch := omega) only [eq_false hi0, ↓reduceIte, e8, ↓g_inN, g_inN, nI_clamp, ↓gq_l_e, gq_l_e, x5, eq_false hp0, x6, eq_false hk, e24, e40, g1, g2, hmod, eq_true c2', hst, e1]
end

