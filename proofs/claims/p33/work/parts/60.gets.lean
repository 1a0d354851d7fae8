/-! pure: what the first boxes cost; many are sold; the hall goes on behind a sale -/
theorem m_cost_l {N h a f m : Nat} {C : gq_M} (hh : h < 3) (ha : a < 150) (hm : m ≤ 150) (hf : C 69 a = nI f) : ∀ (T : List Nat) (n n9 : Nat) (acc : Int32), (∀ i b, T[i]? = some b → C 73 (f + n + i) = nI b ∧ b < 150) → n + T.length = m → f + n + T.length ≤ 150 → T.length < n9 → f_X9_costOfFirst_18 N n9 (nI h) (nI m) (nI a) acc (nI n) C = some ((acc + lsum T (C 40)) * C 82 h, C) := by
  intro T
  induction T with
  | nil =>
    intro n n9 acc ho hn hl h9
    obtain ⟨n9, rfl⟩ : ∃ z, n9 = z + 1 := ⟨n9 - 1, by have := h9; simp at this; omega⟩
    have he : m ≤ n := by simp at hn; omega
    show f_X9_costOfFirst_18_b N (f_X9_costOfFirst_18 N n9) (nI h) (nI m) (nI a) acc (nI n) C = _
    unfold f_X9_costOfFirst_18_b
    simp (disch := omega) only [nI_leI, he, ↓reduceIte, ↓b_atN]
    rw [show acc + lsum [] (C 40) = acc from Int32.add_zero acc]
  | cons b t ih =>
    intro n n9 acc ho hn hl h9
    rw [List.length_cons] at hn hl h9
    obtain ⟨n9, rfl⟩ : ∃ z, n9 = z + 1 := ⟨n9 - 1, by omega⟩
    have he : ¬ m ≤ n := by omega
    obtain ⟨hob, hb⟩ := ho 0 b rfl
    have hob' : C 73 (f + n) = nI b := hob
    show f_X9_costOfFirst_18_b N (f_X9_costOfFirst_18 N n9) (nI h) (nI m) (nI a) acc (nI n) C = _
    unfold f_X9_costOfFirst_18_b f_X6_boxAt
    simp (disch := omega) only [nI_leI, he, ↓reduceIte, ↓b_atN, hf, nI_add, hob', ↓gq_b_s, nI_1]
    rw [ih (n + 1) n9 _ (fun i c hi => by
      have := ho (i + 1) c hi
      rwa [show f + n + (i + 1) = f + (n + 1) + i by omega] at this) (by omega) (by omega) (by omega)]
    rw [Int32.add_assoc]
    rfl
theorem r_cost_l {N l m nb : Nat} {v : Int32} {M : gq_M} (hM : M 0 16 = nI nb) (hb : nb ≤ 150) (hm : m ≤ 150) : ∀ (k i n9 c : Nat) (acc : Int32), i + k = nb → k < n9 → c ≤ m → f_X10_costOf_9 N n9 (nI l) (nI m) v acc (nI c) (nI i) M = some (acc + lsum (((rg i k).filter (isO M l)).take (m - c)) (fun b => M 17 b * v), M) := by
  intro k
  induction k with
  | zero =>
    intro i n9 c acc hi h9 hc
    obtain ⟨n9, rfl⟩ : ∃ z, n9 = z + 1 := ⟨n9 - 1, by omega⟩
    have he : nb ≤ i := by omega
    show f_X10_costOf_9_b N (f_X10_costOf_9 N n9) (nI l) (nI m) v acc (nI c) (nI i) M = _
    unfold f_X10_costOf_9_b
    simp (disch := omega) only [hM, nI_leI, he, ↓reduceIte]
    rw [show (rg i 0).filter (isO M l) = [] from rfl, List.take_nil]
    exact congrArg (fun x => some (x, M)) (Int32.add_zero acc).symm
  | succ k ih =>
    intro i n9 c acc hi h9 hc
    obtain ⟨n9, rfl⟩ : ∃ z, n9 = z + 1 := ⟨n9 - 1, by omega⟩
    have he : ¬ nb ≤ i := by omega
    have step : f_X10_costOf_9_b N (f_X10_costOf_9 N n9) (nI l) (nI m) v acc (nI c) (nI i) M = if isO M l i = true ∧ ¬ m ≤ c then f_X10_costOf_9 N n9 (nI l) (nI m) v (acc + M 17 i * v) (nI (c + 1)) (nI (i + 1)) M else f_X10_costOf_9 N n9 (nI l) (nI m) v acc (nI c) (nI (i + 1)) M := by
      generalize f_X10_costOf_9 N n9 = F
      unfold f_X10_costOf_9_b f_X10_costOf_50 f_X10_costOf_51 f_X10_costOf_73 f_X10_costOf_88 isO
      by_cases c1 : M 26 i = nI l
      · by_cases c2 : M 19 i = 2
        · by_cases c3 : m ≤ c
          · simp (disch := omega) only [hM, nI_leI, he, ↓reduceIte, ↓g_inN, ↓gq_l_e, nI_clamp, c1, c2, c3, and_self, decide_true, not_true_eq_false, and_false, Int32.add_zero, nI_1]
          · simp (disch := omega) only [hM, nI_leI, he, ↓reduceIte, ↓g_inN, ↓gq_l_e, nI_clamp, c1, c2, c3, and_self, decide_true, not_false_eq_true, f10, nI_1]
        · simp (disch := omega) only [hM, nI_leI, he, ↓reduceIte, ↓g_inN, ↓gq_l_e, nI_clamp, c1, c2, and_false, decide_false, Bool.false_eq_true, false_and, Int32.add_zero, nI_1]
      · simp (disch := omega) only [hM, nI_leI, he, ↓reduceIte, ↓g_inN, ↓gq_l_e, nI_clamp, c1, false_and, decide_false, Bool.false_eq_true, Int32.add_zero, nI_1]
    show f_X10_costOf_9_b N (f_X10_costOf_9 N n9) (nI l) (nI m) v acc (nI c) (nI i) M = _
    rw [step, rg_s, List.filter_cons]
    by_cases c1 : isO M l i = true
    · rw [if_pos c1]
      by_cases c3 : m ≤ c
      · rw [if_neg (fun hz => hz.2 c3), ih (i + 1) n9 c acc (by omega) (by omega) hc, show m - c = 0 by omega, List.take_zero, List.take_zero]
      · rw [if_pos ⟨c1, c3⟩, ih (i + 1) n9 (c + 1) _ (by omega) (by omega) (by omega), show m - c = (m - (c + 1)) + 1 by omega, List.take_succ_cons, Int32.add_assoc]
        rfl
    · rw [if_neg (fun hz => c1 hz.1), if_neg c1]
      exact ih (i + 1) n9 c acc (by omega) (by omega) hc
theorem lsum_mul {f : Nat → Int32} {v : Int32} : ∀ {L : List Nat}, lsum L (fun b => f b * v) = lsum L f * v := by
  intro L
  induction L with
  | nil => exact (Int32.zero_mul).symm
  | cons a t ih => show f a * v + lsum t (fun b => f b * v) = (f a + lsum t f) * v; rw [ih]; grind
theorem r_cost {N l m nb : Nat} {v : Int32} {M : gq_M} (hM : M 0 16 = nI nb) (hb : nb ≤ 150) (hm : m ≤ 150) (hN : 600 ≤ N) : f_X10_costOf N (nI l) (nI m) v M = some (lsum ((offl nb (M 26) (M 19) l).take m) (M 17) * v, M) := by
  unfold f_X10_costOf
  rw [← lsum_mul, show f_X10_costOf_9 N N (nI l) (nI m) v 0 0 0 M = _ from r_cost_l (v := v) hM hb hm nb 0 N 0 0 (by omega) (by omega) (Nat.zero_le _), Int32.zero_add]
  rfl
theorem m_cost {N h a m nb nl nr tn : Nat} {C R : gq_M} (H : CORE nb nl nr tn C R) (hN : 600 ≤ N) (hh : h < 3) (ha : a < nl) (hC : C 80 h = nI a) (hg : K_seg1 (C 69) (C 71) (C 73) a (offl nb (R 26) (R 19) a)) (hm : m ≤ (offl nb (R 26) (R 19) a).length) : f_X9_costOfFirst N (nI h) (nI m) C = some (lsum ((offl nb (R 26) (R 19) a).take m) (R 17) * C 82 h, C) := by
  obtain ⟨hnb, hnl, hnr, htn, hda, hop, hdr, hqu, hai, hid, hac, hlk, hla, hks, hkm, hkh, hbg, hbd, hbo, hbl, hbb, hst, hpw, hxb, hxk, hxr, hxs, hxf, hxl, hxc, hxi, hxp, hsu, hmo, hsb, hlo, hlb, hlf, hlh, hld, hlr, hcl⟩ := H
  have hb150 := hnb.2.2
  have hl150 := hnl.2.2
  have hlen := offl_len nb a (R 26) (R 19)
  obtain ⟨f, g1, g2, g3, g4⟩ := hg
  have hmem : ∀ b, b ∈ (offl nb (R 26) (R 19) a).take m → b < nb := fun b hb => by
    have h1 : b ∈ offl nb (R 26) (R 19) a := List.mem_of_mem_take hb
    have := (rg_m.mp (List.mem_filter.mp h1).1).2
    omega
  have hl : ((offl nb (R 26) (R 19) a).take m).length = m := by rw [List.length_take]; omega
  unfold f_X9_costOfFirst
  rw [b_atN hh (by omega), hC, show f_X9_costOfFirst_18 N N (nI h) (nI m) (nI a) 0 0 C = _ from m_cost_l (N := N) (h := h) (a := a) (f := f) (m := m) hh (by omega) (by omega) g1 ((offl nb (R 26) (R 19) a).take m) 0 N 0 (fun i b hi => by
    have hi2 : i < m := by
      have := List.getElem?_eq_some_iff.mp hi
      obtain ⟨h1, -⟩ := this
      omega
    rw [List.getElem?_take_of_lt hi2] at hi
    have hb1 : b ∈ offl nb (R 26) (R 19) a := List.mem_of_getElem? hi
    have := (rg_m.mp (List.mem_filter.mp hb1).1).2
    exact ⟨g4 i b hi, by omega⟩) (by omega) (by omega) (by omega), Int32.zero_add, lsum_congr (g := R 17) fun b hb => hxk.1 b (hmem b hb)]
theorem gets_exit {N h m : Nat} {R : gq_M} (F G : Int32 → Int32 → Int32 → gq_M → Option (Int32 × gq_M)) : f_X10_gets_2_b N F (nI h) (nI m) (nI m) R = f_X10_gets_2_b N G (nI h) (nI m) (nI m) R := by
  unfold f_X10_gets_2_b
  rw [if_pos (Int32.le_refl _), if_pos (Int32.le_refl _)]
theorem s_sells {N a f h m nb nl nr p tn w : Nat} (hw : w < 8) (hp1 : 1 ≤ p) (hp2 : p ≤ 10000) (hh : h < 3) (hm : m ≤ 150) (ha : a < 150) (G : Int32 → Int32 → Int32 → gq_M → Option (Int32 × gq_M)) : ∀ (k n n8 n9 : Nat) (T : List Nat) (C R : gq_M), n + k = m → k < n8 → k < n9 → CORE nb nl nr tn C R → C 69 a = nI f → (∀ i b, T[i]? = some b → C 73 (f + n + i) = nI b) → f + n + T.length ≤ 150 → offl nb (R 26) (R 19) a = T → k ≤ T.length → R 36 h = nI a → R 39 h = nI w → R 37 h = nI p → 600 ≤ N → ∃ C2 R2, f_X9_sellFirst_41 N n8 (nI m) (nI a) (nI w) (nI p) (nI n) C = some (0, gq_up C2 69 a (nI (f + m))) ∧ f_X10_gets_2 N n9 (nI h) (nI m) (nI n) R = f_X10_gets_2_b N G (nI h) (nI m) (nI m) R2 ∧ CORE nb nl nr tn C2 R2 ∧ offl nb (R2 26) (R2 19) a = T.drop k ∧ (∀ l, l < 150 → l ≠ a → offl nb (R2 26) (R2 19) l = offl nb (R 26) (R 19) l) ∧ fr fsC C C2 ∧ fr fsR R R2 := by
  intro k
  induction k with
  | zero =>
    intro n n8 n9 T C R hn h8 h9 H hf ho hlen hT hk hat hwin hsh hN
    obtain ⟨n8, rfl⟩ : ∃ z, n8 = z + 1 := ⟨n8 - 1, by omega⟩
    obtain ⟨n9, rfl⟩ : ∃ z, n9 = z + 1 := ⟨n9 - 1, by omega⟩
    obtain rfl : n = m := by omega
    refine ⟨C, R, ?_, gets_exit _ _, H, by rw [hT]; rfl, fun l _ _ => rfl, fr_rf _ _, fr_rf _ _⟩
    show f_X9_sellFirst_41_b N (f_X9_sellFirst_41 N n8) (nI n) (nI a) (nI w) (nI p) (nI n) C = _
    unfold f_X9_sellFirst_41_b
    rw [if_pos (Int32.le_refl _), b_addN ha (by omega), hf, nI_add]
  | succ k ih =>
    intro n n8 n9 T C R hn h8 h9 H hf ho hlen hT hk hat hwin hsh hN
    obtain ⟨n8, rfl⟩ : ∃ z, n8 = z + 1 := ⟨n8 - 1, by omega⟩
    obtain ⟨n9, rfl⟩ : ∃ z, n9 = z + 1 := ⟨n9 - 1, by omega⟩
    cases T with
    | nil => simp at hk
    | cons b t =>
      rw [List.length_cons] at hlen hk
      have hbm : b ∈ offl nb (R 26) (R 19) a := by rw [hT]; exact List.mem_cons_self
      obtain ⟨hb1, hb2⟩ := List.mem_filter.mp hbm
      obtain ⟨hb3, hb4⟩ := of_decide_eq_true hb2
      have hb5 := (rg_m.mp hb1).2
      have hnb := core_nb H
      have hfo : f_X10_firstOf N (nI a) R = some (nI b, R) := by
        rw [r_firstOf (M := R) hnb.2.1 hnb.2.2 hN, hT]
        rfl
      obtain ⟨C1, R1, e1, e2, H1, hst, f1, f2⟩ := s_sell (N := N) (f_X9_sellFirst_41 N n8) (f_X10_gets_2 N n9) H (by omega) hb4 hw hp1 hp2 hh (show n < m by omega) hm ha (by omega) hf (ho 0 b rfl) hat hwin hsh hfo
      have hlo : R1 26 = R 26 := f2 26 (by decide)
      have hT1 : offl nb (R1 26) (R1 19) a = t := by
        rw [hlo, hst]
        exact offl_hd hT (by decide)
      obtain ⟨C2, R2, t1, t2, H2, t3, t4, f3, f4⟩ := ih (n + 1) n8 n9 t C1 R1 (by omega) (by omega) (by omega) H1 ((congrFun (f1 69 (by decide)) a).trans hf) (fun i c hi => by
        rw [f1 73 (by decide), show f + (n + 1) + i = f + n + (i + 1) by omega]
        exact ho (i + 1) c hi) (by omega) hT1 (by omega) ((congrFun (f2 36 (by decide)) h).trans hat) ((congrFun (f2 39 (by decide)) h).trans hwin) ((congrFun (f2 37 (by decide)) h).trans hsh) hN
      refine ⟨C2, R2, ?_, ?_, H2, t3, fun l hl hn2 => ?_, fr_tr f1 f3, fr_tr f2 f4⟩
      · exact e1.trans t1
      · exact e2.trans t2
      · rw [t4 l hl hn2, hlo, hst]
        exact offl_no hb3 hl ha hn2
theorem s_post {N h a m p nb nl nr tn : Nat} {C R : gq_M} (G : Int32 → Int32 → Int32 → gq_M → Option (Int32 × gq_M)) (H : CORE nb nl nr tn C R) (hN : 600 ≤ N) (hh : h < 3) (ha : a < nl) (hC : C 80 h = nI a) (hR : R 36 h = nI a) (hlq : R 31 a = nI h) (hiff : ∀ l, l < nl → R 31 l = nI h → (R 32 l = 0 ↔ a ≤ l)) (hcnt : C 86 h = nI (cnt (rg 0 nl) (isNd (R 31) (R 32) h))) (hne : ∀ l, l < nl → l ≠ a → isNd (R 31) (R 32) h l = true → offl nb (R 26) (R 19) l ≠ []) (hpC : C 82 h = nI p) (hpR : R 37 h = nI p) (hp1 : 1 ≤ p) (hp2 : p ≤ 10000) (hg : K_seg1 (C 69) (C 71) (C 73) a (offl nb (R 26) (R 19) a)) : ∃ C2 R2, f_X9_goOn N (nI h) C = some (0, C2) ∧ f_X10_gets_2_b N G (nI h) (nI m) (nI m) R = some (0, R2) ∧ CORE nb nl nr tn C2 R2 ∧ K_hall h nb nl tn C2 R2 ∧ oth h nb nl tn C R C2 R2 ∧ fr (86 :: fbC) C C2 ∧ fr (32 :: fbR) R R2 := by
  have hnb := core_nb H
  have hnl := core_nl H
  have hlen := offl_len nb a (R 26) (R 19)
  obtain ⟨f, g1, g2, g3, g4⟩ := hg
  have hlo := r_leftOf (N := N) (M := R) (nb := nb) (l := a) hnb.2.1 hnb.2.2 hN
  cases hL : offl nb (R 26) (R 19) a with
  | nil =>
    rw [hL] at g2 hlo
    obtain ⟨C2, R2, t1, t2, H2, K2, O2, f1, f2⟩ := s_ends (N := N) H hN hh ha hC hR hlq hiff hcnt hne (g2.trans g1.symm)
    refine ⟨C2, R2, t1, ?_, H2, K2, O2, f1, f2⟩
    unfold f_X10_gets_2_b
    have h0 : nI ([] : List Nat).length = 0 := rfl
    rw [if_pos (Int32.le_refl _), g_inN hh (by omega), gq_l_e, nI_clamp (by omega), hR, hlo, gq_b_s, if_pos h0, t2, gq_b_s]
  | cons b t =>
    have hz : ¬ nI (offl nb (R 26) (R 19) a).length = 0 := nI_ne0 (by rw [hL, List.length_cons]; omega) (by omega)
    obtain ⟨C2, R2, t1, t2, H2, K2, O2, f1, f2⟩ := s_again (N := N) H hN hh ha hC hR hlq hiff hcnt (fun l hl hd => by
      by_cases hla2 : l = a
      · subst hla2; rw [hL]; exact List.cons_ne_nil _ _
      · exact hne l hl hla2 hd) hpC hpR hp1 hp2
    refine ⟨C2, R2, ?_, ?_, H2, K2, O2, fr_sub f1 fun a ha => List.mem_cons_of_mem _ ha, fr_sub f2 fun a ha => List.mem_cons_of_mem _ ha⟩
    · unfold f_X9_goOn f_X6_left f_X9_goOn_49
      have hsub : nI (f + (offl nb (R 26) (R 19) a).length) - nI f = nI (offl nb (R 26) (R 19) a).length := by rw [nI_sub (Nat.le_add_right _ _), Nat.add_sub_cancel_left]
      simp (disch := omega) only [↓b_atN, hC, g1, g2, ↓gq_b_s, hsub, hz, ↓reduceIte, t1]
    · unfold f_X10_gets_2_b
      rw [if_pos (Int32.le_refl _), g_inN hh (by omega), gq_l_e, nI_clamp (by omega), hR, hlo, gq_b_s, if_neg hz, g_inN hh (by omega), gq_l_e, g_inN hh (by omega), gq_l_e, t2, gq_b_s]

