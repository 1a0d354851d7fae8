/-! pure: a hall's next lot, a new round -/
def blk (i n : Nat) (v : Int32) (f : Nat → Int32) : Nat → Int32 := fun j => if i ≤ j ∧ j < n then v else f j
theorem blk_0 {i n : Nat} {v : Int32} {f : Nat → Int32} (h : n ≤ i) : blk i n v f = f := by
  funext j
  exact if_neg (by omega)
theorem blk_up {i n : Nat} {v : Int32} {f : Nat → Int32} (h : i < n) : blk (i + 1) n v (upd f i v) = blk i n v f := by
  funext j
  unfold blk
  by_cases hj : j = i
  · subst hj
    rw [upd_s, if_neg (by omega), if_pos (by omega)]
  · rw [upd_n hj]
    by_cases h2 : i ≤ j ∧ j < n
    · rw [if_pos h2, if_pos (by omega)]
    · rw [if_neg h2, if_neg (by omega)]
theorem blk_in {i n j : Nat} {v : Int32} {f : Nat → Int32} (h : i ≤ j ∧ j < n) : blk i n v f j = v := if_pos h
theorem blk_out {i n j : Nat} {v : Int32} {f : Nat → Int32} (h : ¬ (i ≤ j ∧ j < n)) : blk i n v f j = f j := if_neg h
def fgC (h i : Nat) (M : gq_M) : gq_M := fun a => if a = 99 then blk (8 * h + i) (8 * h + 8) (-1) (M a) else M a
def bgR (h i : Nat) (M : gq_M) : gq_M := fun a => if a = 40 then blk i (8 * h + 8) (-1) (M a) else if a = 43 then blk i (8 * h + 8) 0 (M a) else M a
theorem m_forget_l {N h : Nat} (hh : h < 3) : ∀ (k i n9 : Nat) (M : gq_M), i + k = 8 → k < n9 → f_X7_forget_2 N n9 (nI h) (nI i) M = some (0, fgC h i M) := by
  intro k
  induction k with
  | zero =>
    intro i n9 M hi h9
    obtain ⟨n9, rfl⟩ : ∃ z, n9 = z + 1 := ⟨n9 - 1, by omega⟩
    have he : (8 : Int32) ≤ nI i := (nI_leI (a := 8) (by omega) (by omega)).mpr (by omega)
    show f_X7_forget_2_b N (f_X7_forget_2 N n9) (nI h) (nI i) M = _
    unfold f_X7_forget_2_b
    rw [if_pos he]
    congr 2
    funext a
    unfold fgC
    rw [blk_0 (by omega)]
    split <;> rfl
  | succ k ih =>
    intro i n9 M hi h9
    obtain ⟨n9, rfl⟩ : ∃ z, n9 = z + 1 := ⟨n9 - 1, by omega⟩
    have he : ¬ (8 : Int32) ≤ nI i := fun hh => by have := (nI_leI (a := 8) (by omega) (by omega)).mp hh; omega
    show f_X7_forget_2_b N (f_X7_forget_2 N n9) (nI h) (nI i) M = _
    unfold f_X7_forget_2_b f_X7_placeOf
    simp (disch := omega) only [he, ↓reduceIte, ↓gq_b_s, pl8, ↓b_putN, nI_1]
    rw [ih (i + 1) n9 _ (by omega) (by omega)]
    congr 2
    funext a
    unfold fgC
    by_cases ha : a = 99
    · subst ha
      rw [if_pos rfl, if_pos rfl, up_row, ← Nat.add_assoc, blk_up (by omega)]
    · rw [if_neg ha, if_neg ha, up_ne ha]
theorem m_forget {N h : Nat} {M : gq_M} (hh : h < 3) (hN : 600 ≤ N) : f_X7_forget N (nI h) M = some (0, fgC h 0 M) := m_forget_l hh 8 0 N M (by omega) (by omega)
theorem r_begins_l {N h : Nat} (hh : h < 3) : ∀ (k i n9 : Nat) (M : gq_M), i + k = 8 * h + 8 → k < n9 → f_X10_begins_5 N n9 (nI h) (nI i) M = some (0, bgR h i M) := by
  intro k
  induction k with
  | zero =>
    intro i n9 M hi h9
    obtain ⟨n9, rfl⟩ : ∃ z, n9 = z + 1 := ⟨n9 - 1, by omega⟩
    have he : 8 * h + 8 ≤ i := by omega
    show f_X10_begins_5_b N (f_X10_begins_5 N n9) (nI h) (nI i) M = _
    unfold f_X10_begins_5_b
    simp (disch := omega) only [pl8c, nI_leI, he, ↓reduceIte]
    congr 2
    funext a
    unfold bgR
    rw [blk_0 (by omega), blk_0 (by omega)]
    split
    · rfl
    · split <;> rfl
  | succ k ih =>
    intro i n9 M hi h9
    obtain ⟨n9, rfl⟩ : ∃ z, n9 = z + 1 := ⟨n9 - 1, by omega⟩
    have he : ¬ 8 * h + 8 ≤ i := by omega
    show f_X10_begins_5_b N (f_X10_begins_5 N n9) (nI h) (nI i) M = _
    unfold f_X10_begins_5_b
    simp (disch := omega) only [pl8c, nI_leI, he, ↓reduceIte, g_inN, ↓gq_l_e, nI_clamp, nI_1]
    rw [ih (i + 1) n9 _ (by omega) (by omega)]
    congr 2
    funext a
    unfold bgR
    by_cases ha : a = 40
    · subst ha
      rw [if_pos rfl, if_pos rfl, up_ne (by decide), up_row, blk_up (by omega)]
    · by_cases ha2 : a = 43
      · subst ha2
        rw [if_neg ha, if_neg ha, if_pos rfl, if_pos rfl, up_row, up_ne (by decide), blk_up (by omega)]
      · rw [if_neg ha, if_neg ha, if_neg ha2, if_neg ha2, up_ne ha2, up_ne ha]
theorem r_begins {N h : Nat} {M : gq_M} (hh : h < 3) (hN : 600 ≤ N) : f_X10_begins N (nI h) M = some (0, bgR h (8 * h) M) := by
  unfold f_X10_begins
  rw [pl8z]
  exact r_begins_l hh 8 (8 * h) N M (by omega) (by omega)
theorem m_begin0 {N h : Nat} {M : gq_M} (hh : h < 3) (hN : 600 ≤ N) (h0 : M 80 h = -1) : f_X9_beginRound N (nI h) M = some (0, fgC h 0 (gq_up (gq_up M 78 h 0) 84 h (-1))) := by
  unfold f_X9_beginRound f_X9_beginRound_28
  simp (disch := omega) only [↓b_atN, h0, ↓reduceIte, ↓b_putN, m_forget hh hN, ↓gq_b_s]
theorem m_begin1 {N h : Nat} {M : gq_M} (hh : h < 3) (hN : 600 ≤ N) (h0 : ¬ M 80 h = -1) : f_X9_beginRound N (nI h) M = some (0, fgC h 0 (gq_up (gq_up M 78 h 1) 84 h (-1))) := by
  unfold f_X9_beginRound f_X9_beginRound_28
  simp (disch := omega) only [↓b_atN, h0, ↓reduceIte, ↓b_putN, m_forget hh hN, ↓gq_b_s]
theorem m_bring0 {N h : Nat} {M : gq_M} (hh : h < 3) : f_X9_bringToClock N (nI h) (-1) M = some (0, gq_up (gq_up M 80 h (-1)) 82 h 0) := by
  unfold f_X9_bringToClock f_X9_bringToClock_53
  simp (disch := omega) only [↓b_putN, ↓reduceIte, ↓gq_b_s]
theorem m_bring1 {N h a x : Nat} {M : gq_M} (hh : h < 3) (ha : a < 150) (hx : x < 4) (hr : M 65 a / 27 = nI x) : f_X9_bringToClock N (nI h) (nI a) M = some (0, gq_up (gq_up M 80 h (nI a)) 82 h (M 18 x)) := by
  unfold f_X9_bringToClock f_X9_bringToClock_53 f_X1_kindOf
  have hn : ¬ nI a = -1 := nI_m1 (by omega)
  simp (disch := omega) only [↓b_putN, hn, ↓reduceIte, ↓gq_b_s, ↓b_atN, hr, up_ne, ne_eq, Nat.reduceEqDiff, b_atN, not_false_eq_true]

set_option maxHeartbeats 1000000 in
theorem m_next_l {N h nl : Nat} {M : gq_M} (hM : M 61 7 = nI nl) (hl : nl ≤ 150) : ∀ (k i n9 : Nat), i + k = nl → k < n9 → f_X6_nextIn_4 N n9 (nI h) (nI i) M = some (hd ((rg i k).filter fun l => decide (M 67 l = nI h)) (-1), M) := by
  intro k
  induction k with
  | zero =>
    intro i n9  hi h9
    obtain ⟨n9, rfl⟩ : ∃ z, n9 = z + 1 := ⟨n9 - 1, by omega⟩
    have he : nl ≤ i := by omega
    show f_X6_nextIn_4_b N (f_X6_nextIn_4 N n9) (nI h) (nI i) M = _
    unfold f_X6_nextIn_4_b
    simp (disch := omega) only [he, nI_leI, reduceIte, g_inN, g_bb0, g_bb1, nI_clamp, gq_b_s, gq_l_e, m_atN, m_putN, m_addN, nI_1, f_X6_nextIn, hM]
    rfl
  | succ k ih =>
    intro i n9  hi h9
    obtain ⟨n9, rfl⟩ : ∃ z, n9 = z + 1 := ⟨n9 - 1, by omega⟩
    have he : ¬ nl ≤ i := by omega
    show f_X6_nextIn_4_b N (f_X6_nextIn_4 N n9) (nI h) (nI i) M = _
    unfold f_X6_nextIn_4_b
    by_cases c1 : M 67 i = nI h
    · skip
      simp (disch := omega) only [he, ih (i + 1) n9, nI_leI, reduceIte, g_inN, g_bb0, g_bb1, nI_clamp, gq_b_s, gq_l_e, m_atN, m_putN, m_addN, nI_1, f_X6_nextIn, hM, eq_true c1]
      simp only [rg_s, List.filter_cons, eq_true c1, decide_true, decide_false, reduceIte, hd, Bool.false_eq_true]
    · skip
      simp (disch := omega) only [he, ih (i + 1) n9, nI_leI, reduceIte, g_inN, g_bb0, g_bb1, nI_clamp, gq_b_s, gq_l_e, m_atN, m_putN, m_addN, nI_1, f_X6_nextIn, hM, eq_false c1]
      simp only [rg_s, List.filter_cons, eq_false c1, decide_true, decide_false, reduceIte, hd, Bool.false_eq_true]
theorem up_up {M : gq_M} {k j : Nat} {v w : Int32} : gq_up (gq_up M k j v) k j w = gq_up M k j w := by
  funext a
  by_cases h : a = k
  · subst h
    rw [up_row, up_row, up_row]
    funext i
    by_cases hi : i = j
    · subst hi; rw [upd_s, upd_s]
    · rw [upd_n hi, upd_n hi, upd_n hi]
  · rw [up_ne h, up_ne h, up_ne h]
set_option maxHeartbeats 1000000 in
theorem r_comes_l {N h nl : Nat} {M : gq_M} (hh : h < 3) (hl : nl ≤ 150) (F : Int32 → Int32 → gq_M → Option (Int32 × gq_M)) : ∀ (k n9 : Nat) (v : Int32), k ≤ nl → k < n9 → f_X10_comes_14 N n9 (nI h) (nI k - 1) (gq_up M 36 h v) = f_X10_comes_14_b N F (nI h) (-1) (gq_up M 36 h (hd ((rg 0 k).filter (isNd (M 31) (M 32) h)) v)) := by
  intro k
  induction k with
  | zero =>
    intro n9 v hk h9
    obtain ⟨n9, rfl⟩ : ∃ z, n9 = z + 1 := ⟨n9 - 1, by omega⟩
    show f_X10_comes_14_b N (f_X10_comes_14 N n9) (nI h) (nI 0 - 1) (gq_up M 36 h v) = f_X10_comes_14_b N F (nI h) (-1) (gq_up M 36 h v)
    unfold f_X10_comes_14_b
    rw [if_pos (show (nI 0 - 1 : Int32) < 0 by decide), if_pos (show (-1 : Int32) < 0 by decide)]
  | succ k ih =>
    intro n9 v hk h9
    obtain ⟨n9, rfl⟩ : ∃ z, n9 = z + 1 := ⟨n9 - 1, by omega⟩
    have hp : ¬ nI k < 0 := nI_pos (by omega)
    have hm : nI k + -1 = nI k - 1 := (Int32.sub_eq_add_neg _ _).symm
    rw [nI_pred, rg_c, List.filter_append, Nat.zero_add, List.filter_cons]
    show f_X10_comes_14_b N (f_X10_comes_14 N n9) (nI h) (nI k) (gq_up M 36 h v) = _
    have step : f_X10_comes_14_b N (f_X10_comes_14 N n9) (nI h) (nI k) (gq_up M 36 h v) = f_X10_comes_14 N n9 (nI h) (nI k - 1) (gq_up M 36 h (if isNd (M 31) (M 32) h k = true then nI k else v)) := by
      generalize f_X10_comes_14 N n9 = F2
      unfold f_X10_comes_14_b f_X10_comes_52 f_X10_comes_46 f_X10_comes_52 isNd
      by_cases c1 : M 31 k = nI h
      · by_cases c2 : M 32 k = 0
        · simp (disch := omega) only [hp, ↓reduceIte, ↓g_inN, ↓gq_l_e, nI_clamp, up_ne, ne_eq, Nat.reduceEqDiff, not_false_eq_true, c1, c2, and_self, decide_true, up_row, upd_s, up_up, hm]
        · simp (disch := omega) only [hp, ↓reduceIte, ↓g_inN, ↓gq_l_e, nI_clamp, up_ne, ne_eq, Nat.reduceEqDiff, not_false_eq_true, c1, c2, and_false, decide_false, up_row, upd_s, up_up, hm, Bool.false_eq_true]
      · simp (disch := omega) only [hp, ↓reduceIte, ↓g_inN, ↓gq_l_e, nI_clamp, up_ne, ne_eq, Nat.reduceEqDiff, not_false_eq_true, c1, false_and, decide_false, up_row, upd_s, up_up, hm, Bool.false_eq_true]
    rw [step, ih n9 _ (by omega) (by omega)]
    by_cases c : isNd (M 31) (M 32) h k = true
    · rw [if_pos c, if_pos c, List.filter_nil, hd_app1]
    · rw [if_neg c, if_neg c, List.filter_nil, List.append_nil]
theorem r_comes0 {N h nl : Nat} {M : gq_M} (hh : h < 3) (hN : 600 ≤ N) (hM : M 0 31 = nI nl) (hl : nl ≤ 150) (hT : (rg 0 nl).filter (isNd (M 31) (M 32) h) = []) : f_X10_comes N (nI h) M = some (0, bgR h (8 * h) (gq_up (gq_up (gq_up (gq_up M 36 h (-1)) 35 h 0) 37 h 0) 39 h (-1))) := by
  unfold f_X10_comes
  have e := r_comes_l (M := M) hh hl (fun _ _ _ => none) nl N (-1) (Nat.le_refl _) (by omega) (N := N)
  rw [hT] at e
  simp (disch := omega) only [↓g_inN, ↓gq_l_e, nI_clamp, up_ne, ne_eq, Nat.reduceEqDiff, not_false_eq_true, hM, e]
  unfold f_X10_comes_14_b f_X10_comes_79 f_X10_comes_115
  simp (disch := omega) only [hd, show ((-1 : Int32) < 0) = True from eq_true (by decide), ↓reduceIte, ↓g_inN, ↓gq_l_e, nI_clamp, up_ne, ne_eq, Nat.reduceEqDiff, not_false_eq_true, up_row, upd_s, r_begins hh hN, ↓gq_b_s]
theorem r_comes1 {N h nl a x : Nat} {M : gq_M} {t : List Nat} (hh : h < 3) (hN : 600 ≤ N) (hM : M 0 31 = nI nl) (hl : nl ≤ 150) (hT : (rg 0 nl).filter (isNd (M 31) (M 32) h) = a :: t) (hx : x < 4) (hk : M 28 a = nI x) : f_X10_comes N (nI h) M = some (0, bgR h (8 * h) (gq_up (gq_up (gq_up (gq_up M 36 h (nI a)) 35 h 1) 37 h (M 6 x)) 39 h (-1))) := by
  unfold f_X10_comes
  have ha : a < nl := by
    have : a ∈ (rg 0 nl).filter (isNd (M 31) (M 32) h) := by rw [hT]; exact List.mem_cons_self
    have := (rg_m.mp (List.mem_filter.mp this).1).2
    omega
  have hn : ¬ nI a = -1 := nI_m1 (by omega)
  have e := r_comes_l (M := M) hh hl (fun _ _ _ => none) nl N (-1) (Nat.le_refl _) (by omega) (N := N)
  rw [hT] at e
  simp (disch := omega) only [↓g_inN, ↓gq_l_e, nI_clamp, up_ne, ne_eq, Nat.reduceEqDiff, not_false_eq_true, hM, e]
  unfold f_X10_comes_14_b f_X10_comes_79 f_X10_comes_115
  simp (disch := omega) only [hd, show ((-1 : Int32) < 0) = True from eq_true (by decide), ↓reduceIte, ↓g_inN, g_inN, ↓gq_l_e, nI_clamp, up_ne, ne_eq, Nat.reduceEqDiff, not_false_eq_true, up_row, upd_s, hn, hk, r_begins hh hN, ↓gq_b_s]

