/-! pure: the first box of a lot; who is ahead -/
theorem r_firstOf_l {N l nb : Nat} {M : gq_M} (hl : nb ≤ 150) : ∀ (k n9 : Nat) (v : Int32), k ≤ nb → k < n9 → f_X10_firstOf_9 N n9 (nI l) v (nI k - 1) M = some (hd ((rg 0 k).filter (isO M l)) v, M) := by
  intro k
  induction k with
  | zero =>
    intro n9 v hk h9
    obtain ⟨n9, rfl⟩ : ∃ z, n9 = z + 1 := ⟨n9 - 1, by omega⟩
    show f_X10_firstOf_9_b N (f_X10_firstOf_9 N n9) (nI l) v (nI 0 - 1) M = _
    unfold f_X10_firstOf_9_b
    rw [if_pos (show (nI 0 - 1 : Int32) < 0 by decide)]
    rfl
  | succ k ih =>
    intro n9 v hk h9
    obtain ⟨n9, rfl⟩ : ∃ z, n9 = z + 1 := ⟨n9 - 1, by omega⟩
    have hp : ¬ nI k < 0 := nI_pos (by omega)
    have hm : nI k + -1 = nI k - 1 := (Int32.sub_eq_add_neg _ _).symm
    rw [nI_pred, rg_c, List.filter_append, Nat.zero_add, List.filter_cons]
    show f_X10_firstOf_9_b N (f_X10_firstOf_9 N n9) (nI l) v (nI k) M = _
    have step : f_X10_firstOf_9_b N (f_X10_firstOf_9 N n9) (nI l) v (nI k) M = f_X10_firstOf_9 N n9 (nI l) (if isO M l k = true then nI k else v) (nI k - 1) M := by
      generalize f_X10_firstOf_9 N n9 = F2
      unfold f_X10_firstOf_9_b f_X10_firstOf_37 f_X10_firstOf_38 isO
      by_cases c1 : M 26 k = nI l
      · by_cases c2 : M 19 k = 2
        · simp (disch := omega) only [hp, ↓reduceIte, ↓g_inN, ↓gq_l_e, nI_clamp, c1, c2, and_self, decide_true, hm]
        · simp (disch := omega) only [hp, ↓reduceIte, ↓g_inN, ↓gq_l_e, nI_clamp, c1, c2, and_false, decide_false, hm, Bool.false_eq_true]
      · simp (disch := omega) only [hp, ↓reduceIte, ↓g_inN, ↓gq_l_e, nI_clamp, c1, false_and, decide_false, hm, Bool.false_eq_true]
    rw [step, ih n9 _ (by omega) (by omega)]
    by_cases c : isO M l k = true
    · rw [if_pos c, if_pos c, List.filter_nil, hd_app1]
    · rw [if_neg c, if_neg c, List.filter_nil, List.append_nil]
theorem r_firstOf {N l nb : Nat} {M : gq_M} (hM : M 0 16 = nI nb) (hl : nb ≤ 150) (hN : 600 ≤ N) : f_X10_firstOf N (nI l) M = some (hd (offl nb (M 26) (M 19) l) (-1), M) := by
  unfold f_X10_firstOf
  rw [hM]
  exact r_firstOf_l hl nb N (-1) (Nat.le_refl _) (by omega)
theorem mod8 {h w : Nat} (hh : h < 3) (hw : w < 8) : nI (8 * h + w) - nI (8 * h + w) / 8 * 8 = nI w := by
  rw [show (8 : Int32) = nI 8 from rfl, nI_div (by omega) (by omega), nI_mul, nI_sub (by omega)]
  congr 1
  omega
theorem df_pos {a b : Nat} (ha : a < 1000000) (hb : b < 1000000) : (0 < nI a - nI b) = (b < a) := by
  apply propext
  rw [Int32.lt_iff_toInt_lt, ti_sub (by rw [nI_toInt (by omega), nI_toInt (by omega)]; omega) (by rw [nI_toInt (by omega), nI_toInt (by omega)]; omega), nI_toInt (by omega), nI_toInt (by omega), show (0 : Int32).toInt = 0 from rfl]
  omega
theorem df_zero {a b : Nat} (ha : a < 1000000) (hb : b < 1000000) : (nI a - nI b = 0) = (a = b) := by
  apply propext
  rw [← Int32.toInt_inj, ti_sub (by rw [nI_toInt (by omega), nI_toInt (by omega)]; omega) (by rw [nI_toInt (by omega), nI_toInt (by omega)]; omega), nI_toInt (by omega), nI_toInt (by omega), show (0 : Int32).toInt = 0 from rfl]
  omega
theorem df_nn {a b : Nat} (ha : a < 1000000) (hb : b < 1000000) : (0 ≤ nI a - nI b) = (b ≤ a) := by
  apply propext
  rw [Int32.le_iff_toInt_le, ti_sub (by rw [nI_toInt (by omega), nI_toInt (by omega)]; omega) (by rw [nI_toInt (by omega), nI_toInt (by omega)]; omega), nI_toInt (by omega), nI_toInt (by omega), show (0 : Int32).toInt = 0 from rfl]
  omega
theorem b_place {β : Type} {N h j : Nat} {M : gq_M} {F : Int32 → gq_M → Option β} : gq_b (f_X7_placeOf N (nI h) (nI j) M) F = F (nI (8 * h + j)) M := by
  unfold f_X7_placeOf
  rw [gq_b_s, pl8]
theorem b_price {β : Type} {N h j : Nat} {M : gq_M} {F : Int32 → gq_M → Option β} (hh : h < 3) (hj : j < 8) : gq_b (f_X7_priceOf N (nI h) (nI j) M) F = F (M 95 (8 * h + j)) M := by
  unfold f_X7_priceOf
  rw [b_place, b_atN (by omega) (by omega), gq_b_s]
theorem b_ahead {β : Type} {N h j b p q t u : Nat} {M : gq_M} {F : Int32 → gq_M → Option β} (hh : h < 3) (hj : j < 8) (hb : b < 8) (h1 : M 95 (8 * h + j) = nI p) (h2 : M 95 (8 * h + b) = nI q) (h3 : M 97 (8 * h + j) = nI t) (h4 : M 97 (8 * h + b) = nI u) (hp : p ≤ 10000) (hq : q ≤ 10000) (ht : t ≤ 100000) (hu : u ≤ 100000) : gq_b (f_X7_isAhead N (nI h) (nI j) (nI b) M) F = F (bI (q < p ∨ p = q ∧ t < u)) M := by
  have y1 : (0 < nI p - nI q) ↔ (q < p) := iff_of_eq (df_pos (by omega) (by omega))
  have y2 : (nI p - nI q = 0) ↔ (p = q) := iff_of_eq (df_zero (by omega) (by omega))
  have y3 : (0 ≤ nI t - nI u) ↔ (u ≤ t) := iff_of_eq (df_nn (by omega) (by omega))
  unfold f_X7_isAhead f_X7_isAhead_57 f_X7_isAhead_61 f_X7_isAhead_62
  rw [b_price hh hj, b_price hh hb, b_place, b_atN (by omega) (by omega), b_place, b_atN (by omega) (by omega), h1, h2, h3, h4]
  generalize nI p - nI q = V at *
  generalize nI t - nI u = W at *
  by_cases c1 : q < p
  · rw [bI_t (Or.inl c1), if_pos (y1.mpr c1), g_bb1, gq_b_s]
  · rw [if_neg (fun hz => c1 (y1.mp hz))]
    by_cases c2 : p = q
    · rw [if_pos (y2.mpr c2)]
      by_cases c3 : u ≤ t
      · rw [bI_f (by omega), if_pos (y3.mpr c3), g_bb0, gq_b_s]
      · rw [bI_t (by omega), if_neg (fun hz => c3 (y3.mp hz)), g_bb1, gq_b_s]
    · rw [bI_f (by omega), if_neg (fun hz => c2 (y2.mp hz)), g_bb0, gq_b_s]
theorem b_before {β : Type} {N j b p q t u : Nat} {M : gq_M} {F : Int32 → gq_M → Option β} (hj : j < 24) (hb : b < 24) (h1 : M 42 j = nI p) (h2 : M 42 b = nI q) (h3 : M 40 j = nI t) (h4 : M 40 b = nI u) (hp : p ≤ 10000) (hq : q ≤ 10000) (ht : t ≤ 100000) (hu : u ≤ 100000) : gq_b (f_X10_isBefore N (nI j) (nI b) M) F = F (bI (q < p ∨ p = q ∧ t < u)) M := by
  unfold f_X10_isBefore f_X10_isBefore_56 f_X10_isBefore_35
  simp (disch := omega) only [↓g_inN, ↓gq_l_e, nI_clamp, h1, h2, h3, h4, g_bb0, g_bb1, nI_eq, nI_leI]
  by_cases c2 : p = q
  · rw [if_pos c2]
    by_cases c3 : u ≤ t
    · rw [if_pos c3, bI_f (by omega)]; rfl
    · rw [if_neg c3, bI_t (by omega)]; rfl
  · rw [if_neg c2]
    by_cases c1 : p ≤ q
    · rw [if_pos c1, bI_f (by omega)]; rfl
    · rw [if_neg c1, bI_t (by omega)]; rfl
theorem b_canPay {β : Type} {N j : Nat} {v : Int32} {M : gq_M} {F : Int32 → gq_M → Option β} (hj : j < 8) : gq_b (f_X10_canPay N (nI j) v M) F = F (bI (v ≤ M 9 j - M 11 j)) M := by
  unfold f_X10_canPay f_X10_canPay_22
  simp (disch := omega) only [↓g_inN, ↓gq_l_e, nI_clamp, g_bb0, g_bb1]
  by_cases c : v ≤ M 9 j - M 11 j
  · rw [if_neg (Int32.not_lt.mpr c), bI_t c]; rfl
  · rw [if_pos (Int32.not_le.mp c), bI_f c]; rfl
/-- a press as it stands when the presses that have come are heard -/
def PH (h tn : Nat) (C R : gq_M) (j : Nat) : Prop := (C 99 (8 * h + j) = -1 ∧ R 43 (8 * h + j) = 0) ∨ ∃ t c p : Nat, R 40 (8 * h + j) = nI t ∧ t ≤ 100000 ∧ C 97 (8 * h + j) = nI t ∧ C 99 (8 * h + j) = nI c ∧ c ≤ 100009 ∧ R 42 (8 * h + j) = nI p ∧ 1 ≤ p ∧ p ≤ 10000 ∧ C 95 (8 * h + j) = nI p ∧ (R 43 (8 * h + j) = 1 ∧ c ≤ tn ∨ R 43 (8 * h + j) = 0 ∧ ¬ c ≤ tn)
/-- one that has been heard -/
def PG (h : Nat) (C R : gq_M) (j : Nat) : Prop := ∃ t p : Nat, R 40 (8 * h + j) = nI t ∧ t ≤ 100000 ∧ C 97 (8 * h + j) = nI t ∧ R 42 (8 * h + j) = nI p ∧ 1 ≤ p ∧ p ≤ 10000 ∧ C 95 (8 * h + j) = nI p
def enC : Option Nat → Int32
  | none => -1
  | some b => nI b
def enR (h : Nat) : Option Nat → Int32
  | none => -1
  | some b => nI (8 * h + b)
def okb (h : Nat) (C R : gq_M) (o : Option Nat) : Prop := ∀ b, o = some b → b < 8 ∧ PG h C R b
set_option maxHeartbeats 1000000 in
theorem w_loop {N h nb nl nr tn : Nat} {kk : Int32} {C R : gq_M} (H : CORE nb nl nr tn C R) (hh : h < 3) (hP : ∀ j, j < 8 → PH h tn C R j) (F : Int32 → Int32 → Int32 → Int32 → gq_M → Option (Int32 × gq_M)) : ∀ (k i n8 n9 : Nat) (o : Option Nat), i + k = 8 → k < n8 → k < n9 → okb h C R o → ∃ o2, okb h C R o2 ∧ f_X9_findWinner_35 N n8 (nI h) kk (enC o) (nI i) C = some (enC o2, C) ∧ f_X10_stands_44 N n9 (nI h) kk (enR h o) (nI (8 * h + i)) R = f_X10_stands_44_b N F (nI h) kk (enR h o2) (nI (8 * h + 8)) R := by
  intro k
  obtain ⟨hnb, hnl, hnr, htn, hda, hop, hdr, hqu, hai, hid, hac, hlk, hla, hks, hkm, hkh, hbg, hbd, hbo, hbl, hbb, hst, hpw, hxb, hxk, hxr, hxs, hxf, hxl, hxc, hxi, hxp, hsu, hmo, hsb, hlo, hlb, hlf, hlh, hld, hlr, hcl⟩ := H
  have ht5 := htn.2.2
  induction k with
  | zero =>
    intro i n8 n9 o hi h8 h9 ho
    obtain ⟨n8, rfl⟩ : ∃ z, n8 = z + 1 := ⟨n8 - 1, by omega⟩
    obtain ⟨n9, rfl⟩ : ∃ z, n9 = z + 1 := ⟨n9 - 1, by omega⟩
    obtain rfl : i = 8 := by omega
    refine ⟨o, ho, ?_, ?_⟩
    · show f_X9_findWinner_35_b N (f_X9_findWinner_35 N n8) (nI h) kk (enC o) (nI 8) C = _
      unfold f_X9_findWinner_35_b
      rw [if_pos (show (8 : Int32) ≤ nI 8 by decide)]
    · show f_X10_stands_44_b N (f_X10_stands_44 N n9) (nI h) kk (enR h o) (nI (8 * h + 8)) R = _
      unfold f_X10_stands_44_b
      have he : 8 * h + 8 ≤ 8 * h + 8 := Nat.le_refl _
      simp (disch := omega) only [pl8c, nI_leI, he, ↓reduceIte]
  | succ k ih =>
    intro i n8 n9 o hi h8 h9 ho
    obtain ⟨n8, rfl⟩ : ∃ z, n8 = z + 1 := ⟨n8 - 1, by omega⟩
    obtain ⟨n9, rfl⟩ : ∃ z, n9 = z + 1 := ⟨n9 - 1, by omega⟩
    have hi8 : i < 8 := by omega
    have hc1 : ∀ F2, f_X9_findWinner_35_b N F2 (nI h) kk (enC o) (nI i) C = if hdC h (nI tn) C i = true then (if kk * C 95 (8 * h + i) ≤ C 25 i - C 29 i then (if enC o = -1 then F2 (nI h) kk (nI i) (nI (i + 1)) C else gq_b (f_X7_isAhead N (nI h) (nI i) (enC o) C) fun v M => if v = 0 then F2 (nI h) kk (enC o) (nI (i + 1)) M else F2 (nI h) kk (nI i) (nI (i + 1)) M) else F2 (nI h) kk (enC o) (nI (i + 1)) C) else F2 (nI h) kk (enC o) (nI (i + 1)) C := by
      intro F2
      have he : ¬ (8 : Int32) ≤ nI i := fun h2 => by have := (nI_leI (a := 8) (by omega) (by omega)).mp h2; omega
      unfold f_X9_findWinner_35_b f_X9_findWinner_111 f_X9_findWinner_108 f_X9_findWinner_111 f_X7_priceOf f_X2_leftOf f_X7_placeOf
      simp (disch := omega) only [he, ↓reduceIte, htn.1, b_isHeard, bI_z, ite_not, ↓gq_b_s, pl8, ↓b_atN, nI_1]
    have hc2 : ∀ F2, f_X10_stands_44_b N F2 (nI h) kk (enR h o) (nI (8 * h + i)) R = if R 43 (8 * h + i) = 0 then F2 (nI h) kk (enR h o) (nI (8 * h + (i + 1))) R else (if kk * R 42 (8 * h + i) ≤ R 9 i - R 11 i then (if enR h o = -1 then F2 (nI h) kk (nI (8 * h + i)) (nI (8 * h + (i + 1))) R else gq_b (f_X10_isBefore N (nI (8 * h + i)) (enR h o) R) fun v M => if v = 0 then F2 (nI h) kk (enR h o) (nI (8 * h + (i + 1))) M else F2 (nI h) kk (nI (8 * h + i)) (nI (8 * h + (i + 1))) M) else F2 (nI h) kk (enR h o) (nI (8 * h + (i + 1))) R) := by
      intro F2
      have he : ¬ 8 * h + 8 ≤ 8 * h + i := by omega
      unfold f_X10_stands_44_b f_X10_stands_91 f_X10_stands_92 f_X10_stands_119 f_X10_stands_114 f_X10_stands_120
      simp (disch := omega) only [pl8c, nI_leI, he, ↓reduceIte, g_inN, ↓gq_l_e, nI_clamp, mod8, b_canPay, bI_z, ite_not, f10, nI_1, Nat.add_assoc]
    show ∃ o2, okb h C R o2 ∧ f_X9_findWinner_35_b N (f_X9_findWinner_35 N n8) (nI h) kk (enC o) (nI i) C = _ ∧ f_X10_stands_44_b N (f_X10_stands_44 N n9) (nI h) kk (enR h o) (nI (8 * h + i)) R = _
    rw [hc1, hc2]
    rcases hP i hi8 with ⟨e1, e2⟩ | ⟨t, c, p, e1, e2, e3, e4, e5, e6, e7, e8, e9, ⟨e10, e11⟩ | ⟨e10, e11⟩⟩
    · rw [if_pos e2, if_neg (by unfold hdC; rw [e1]; simp)]
      exact ih (i + 1) n8 n9 o (by omega) (by omega) (by omega) ho
    · have g1 : hdC h (nI tn) C i = true := decide_eq_true ⟨by rw [e4]; exact nI_m1 (by omega), by rw [e4]; exact nI_nlt e11 (by omega)⟩
      have g2 : ¬ R 43 (8 * h + i) = 0 := by rw [e10]; decide
      have gP : PG h C R i := ⟨t, p, e1, e2, e3, e6, e7, e8, e9⟩
      have hoi : okb h C R (some i) := fun b hb => by cases hb; exact ⟨hi8, gP⟩
      rw [if_pos g1, if_neg g2, hbg i hi8, hbo i hi8, e9, e6]
      by_cases c1 : kk * nI p ≤ R 9 i - R 11 i
      · rw [if_pos c1, if_pos c1]
        cases o with
        | none =>
          rw [if_pos (show enC none = -1 from rfl), if_pos (show enR h none = -1 from rfl)]
          exact ih (i + 1) n8 n9 (some i) (by omega) (by omega) (by omega) hoi
        | some b =>
          obtain ⟨hb8, u, q, f1, f2, f3, f4, f5, f6, f7⟩ := ho b rfl
          rw [if_neg (show ¬ enC (some b) = -1 from nI_m1 (by omega)), if_neg (show ¬ enR h (some b) = -1 from nI_m1 (by omega))]
          show ∃ o2, okb h C R o2 ∧ gq_b (f_X7_isAhead N (nI h) (nI i) (nI b) C) _ = _ ∧ gq_b (f_X10_isBefore N (nI (8 * h + i)) (nI (8 * h + b)) R) _ = _
          rw [b_ahead hh hi8 hb8 e9 f7 e3 f3 e8 f6 e2 f2, b_before (by omega) (by omega) e6 f4 e1 f1 e8 f6 e2 f2]
          by_cases c2 : q < p ∨ p = q ∧ t < u
          · rw [if_neg (fun hz => bI_z.mp hz c2), if_neg (fun hz => bI_z.mp hz c2)]
            exact ih (i + 1) n8 n9 (some i) (by omega) (by omega) (by omega) hoi
          · rw [if_pos (bI_z.mpr c2), if_pos (bI_z.mpr c2)]
            exact ih (i + 1) n8 n9 (some b) (by omega) (by omega) (by omega) ho
      · rw [if_neg c1, if_neg c1]
        exact ih (i + 1) n8 n9 o (by omega) (by omega) (by omega) ho
    · rw [if_pos e10, if_neg (fun hz => by
        have h9 := (of_decide_eq_true hz).2
        rw [e4, nI_ltI (by omega) (by omega)] at h9
        omega)]
      exact ih (i + 1) n8 n9 o (by omega) (by omega) (by omega) ho

