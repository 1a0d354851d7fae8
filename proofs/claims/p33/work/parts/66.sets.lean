/-! pure: boxes that wait, sets of boats, a draw -/
def wai (st : Nat → Int32) (b : Nat) : Prop := st b = 0 ∨ st b = 6
theorem b_isWaiting {β : Type} {N b : Nat} {M : gq_M} {F : Int32 → gq_M → Option β} (hb : b < 150) : gq_b (f_X1_isWaiting N (nI b) M) F = F (bI (M 44 b = 0 ∨ M 44 b = 6)) M := by
  unfold f_X1_isWaiting f_X1_isWaiting_24 f_X1_isWaiting_29
  by_cases c1 : M 44 b = 0
  · rw [bI_t (Or.inl c1), b_atN (by omega) (by omega), if_pos c1]
    rfl
  · by_cases c2 : M 44 b = 6
    · rw [bI_t (Or.inr c2), b_atN (by omega) (by omega), if_neg c1, b_atN (by omega) (by omega), if_pos c2]
      rfl
    · rw [bI_f (fun h => h.elim c1 c2), b_atN (by omega) (by omega), if_neg c1, b_atN (by omega) (by omega), if_neg c2]
      rfl
theorem b_isToSell {β : Type} {N b : Nat} {M : gq_M} {F : Int32 → gq_M → Option β} (hb : b < 150) : gq_b (f_X10_isToSell N (nI b) M) F = F (bI (M 19 b = 0 ∨ M 19 b = 6)) M := by
  unfold f_X10_isToSell f_X10_isToSell_20 f_X10_isToSell_25
  by_cases c1 : M 19 b = 0
  · rw [bI_t (Or.inl c1), g_inN (by omega) (by omega), gq_l_e, nI_clamp (by omega), if_pos c1]
    rfl
  · by_cases c2 : M 19 b = 6
    · rw [bI_t (Or.inr c2), g_inN (by omega) (by omega), gq_l_e, nI_clamp (by omega), if_neg c1, g_inN (by omega) (by omega), gq_l_e, if_pos c2]
      rfl
    · rw [bI_f (fun h => h.elim c1 c2), g_inN (by omega) (by omega), gq_l_e, nI_clamp (by omega), if_neg c1, g_inN (by omega) (by omega), gq_l_e, if_neg c2]
      rfl

def isW (st : Nat → Int32) (b : Nat) : Bool := decide (st b = 0 ∨ st b = 6)
set_option maxHeartbeats 1000000 in
theorem m_countW_l {N : Nat} {M : gq_M} {nb : Nat} (hM : M 34 13 = nI nb) (hl : nb ≤ 150) : ∀ (k i n9 : Nat) (acc : Int32), i + k = nb → k < n9 → f_X1_countWaiting_4 N n9 acc (nI i) M = some (acc + nI (cnt (rg i k) (isW (M 44))), M) := by
  intro k
  induction k with
  | zero =>
    intro i n9 acc hi h9
    obtain ⟨n9, rfl⟩ : ∃ z, n9 = z + 1 := ⟨n9 - 1, by omega⟩
    have he : nb ≤ i := by omega
    show f_X1_countWaiting_4_b N (f_X1_countWaiting_4 N n9) acc (nI i) M = _
    unfold f_X1_countWaiting_4_b
    simp (disch := omega) only [he, nI_leI, reduceIte, g_inN, g_bb0, g_bb1, nI_clamp, gq_b_s, gq_l_e, m_atN, m_putN, m_addN, nI_1, f_X1_countWaiting_23, f_X1_countWaiting, hM]
    exact congrArg (fun x => some (x, M)) (zadd acc).symm
  | succ k ih =>
    intro i n9 acc hi h9
    obtain ⟨n9, rfl⟩ : ∃ z, n9 = z + 1 := ⟨n9 - 1, by omega⟩
    have he : ¬ nb ≤ i := by omega
    show f_X1_countWaiting_4_b N (f_X1_countWaiting_4 N n9) acc (nI i) M = _
    unfold f_X1_countWaiting_4_b
    by_cases c1 : (M 44 i = 0 ∨ M 44 i = 6)
    · skip
      simp (disch := omega) only [he, ih (i + 1) n9, nI_leI, reduceIte, g_inN, g_bb0, g_bb1, nI_clamp, gq_b_s, gq_l_e, m_atN, m_putN, m_addN, nI_1, f_X1_countWaiting_23, f_X1_countWaiting, hM, b_isWaiting, bI_z, ite_not, eq_true c1]
      simp only [rg_s, cnt_cons, isW, eq_true c1, decide_true, decide_false, reduceIte, Int32.add_zero, cadd, Nat.zero_add, Bool.false_eq_true]
    · skip
      simp (disch := omega) only [he, ih (i + 1) n9, nI_leI, reduceIte, g_inN, g_bb0, g_bb1, nI_clamp, gq_b_s, gq_l_e, m_atN, m_putN, m_addN, nI_1, f_X1_countWaiting_23, f_X1_countWaiting, hM, b_isWaiting, bI_z, ite_not, eq_false c1]
      simp only [rg_s, cnt_cons, isW, eq_false c1, decide_true, decide_false, reduceIte, Int32.add_zero, cadd, Nat.zero_add, Bool.false_eq_true]
def wjC (M : gq_M) (j b : Nat) : Bool := decide ((M 44 b = 0 ∨ M 44 b = 6) ∧ M 36 b = nI j)
def wtC (i k : Nat) (M : gq_M) : gq_M := fun a => if a = 15 then (fun j => if j < 8 then M a j + nI (cnt (rg i k) (wjC M j)) else M a j) else M a
theorem m_wt_l {N nb : Nat} (hb : nb ≤ 150) : ∀ (k i n9 : Nat) (M : gq_M), M 34 13 = nI nb → (∀ b, b < nb → rng 0 7 (M 36 b)) → i + k = nb → k < n9 → f_X9_countWaitingBoxes_2 N n9 (nI i) M = some (0, wtC i k M) := by
  intro k
  induction k with
  | zero =>
    intro i n9 M hM hr hi h9
    obtain ⟨n9, rfl⟩ : ∃ z, n9 = z + 1 := ⟨n9 - 1, by omega⟩
    have he : nb ≤ i := by omega
    show f_X9_countWaitingBoxes_2_b N (f_X9_countWaitingBoxes_2 N n9) (nI i) M = _
    unfold f_X9_countWaitingBoxes_2_b
    simp (disch := omega) only [hM, nI_leI, he, ↓reduceIte]
    congr 2
    funext a
    unfold wtC
    split
    · funext j
      split
      · exact (zadd _).symm
      · rfl
    · rfl
  | succ k ih =>
    intro i n9 M hM hr hi h9
    obtain ⟨n9, rfl⟩ : ∃ z, n9 = z + 1 := ⟨n9 - 1, by omega⟩
    have he : ¬ nb ≤ i := by omega
    show f_X9_countWaitingBoxes_2_b N (f_X9_countWaitingBoxes_2 N n9) (nI i) M = _
    unfold f_X9_countWaitingBoxes_2_b f_X9_countWaitingBoxes_46
    simp (disch := omega) only [hM, nI_leI, he, ↓reduceIte, b_isWaiting, bI_z, ite_not, nI_1]
    by_cases c1 : M 44 i = 0 ∨ M 44 i = 6
    · obtain ⟨g, -, hg8, hg⟩ := hr i (by omega)
      rw [if_pos c1]
      simp (disch := omega) only [↓b_atN, hg, ↓b_addN]
      rw [ih (i + 1) n9 (gq_up M 15 g (M 15 g + 1)) hM hr (by omega) (by omega)]
      congr 2
      funext a
      unfold wtC
      by_cases ha : a = 15
      · subst ha
        rw [if_pos rfl, if_pos rfl, up_row]
        funext j
        by_cases hj : j < 8
        · rw [if_pos hj, if_pos hj, rg_s, cnt_cons]
          show upd (M 15) g (M 15 g + 1) j + nI (cnt (rg (i + 1) k) (wjC M j)) = _
          by_cases hjg : j = g
          · subst hjg
            rw [upd_s, if_pos (show wjC M j i = true from decide_eq_true ⟨c1, hg⟩), cadd]
          · rw [upd_n hjg, if_neg (show ¬ wjC M j i = true from fun hz => hjg ((nI_eq (by omega) (by omega)).mp (hg.symm.trans (of_decide_eq_true hz).2)).symm), Nat.zero_add]
        · rw [if_neg hj, if_neg hj, upd_n (by omega)]
      · rw [if_neg ha, if_neg ha, up_ne ha]
    · rw [if_neg c1, ih (i + 1) n9 M hM hr (by omega) (by omega)]
      congr 2
      funext a
      unfold wtC
      by_cases ha : a = 15
      · rw [if_pos ha, if_pos ha]
        funext j
        by_cases hj : j < 8
        · rw [if_pos hj, if_pos hj, rg_s, cnt_cons, if_neg (show ¬ wjC M j i = true from fun hz => c1 (of_decide_eq_true hz).1), Nat.zero_add]
        · rw [if_neg hj, if_neg hj]
      · rw [if_neg ha, if_neg ha]
theorem b_waits {β : Type} {N j : Nat} {d : Int32} {M : gq_M} {F : Int32 → gq_M → Option β} (hj : j < 8) (hd : bit d) (hb : bit (M 11 j)) : gq_b (f_X0_waits N (nI j) d M) F = F (bI (¬ M 15 j ≤ 0 ∧ M 11 j = d)) M := by
  unfold f_X0_waits f_X0_waits_28 f_X0_waits_36 f_X0_waits_37
  by_cases c1 : M 15 j ≤ 0
  · rw [bI_f (fun h => h.1 c1), b_atN (by omega) (by omega), if_pos c1]
    rfl
  · rw [b_atN (by omega) (by omega), if_neg c1, b_atN (by omega) (by omega)]
    rcases hb with hb | hb
    · rw [hb, if_neg (by decide)]
      rcases hd with rfl | rfl
      · rw [if_pos rfl, bI_t ⟨c1, rfl⟩]; rfl
      · rw [if_neg (by decide), bI_f (fun h => absurd h.2 (by decide))]; rfl
    · rw [hb, if_pos rfl]
      rcases hd with rfl | rfl
      · rw [if_neg (by decide), bI_f (fun h => absurd h.2 (by decide))]; rfl
      · rw [if_pos rfl, bI_t ⟨c1, rfl⟩]; rfl
theorem m_cw_l {N : Nat} {d : Int32} {M : gq_M} {p : Nat → Bool} (hd : bit d) (hb : ∀ j, j < 8 → bit (M 11 j)) (hp : ∀ j, j < 8 → ((¬ M 15 j ≤ 0 ∧ M 11 j = d) ↔ p j = true)) : ∀ (k i n9 : Nat) (acc : Int32), i + k = 8 → k < n9 → f_X0_countWaiting_4 N n9 d acc (nI i) M = some (acc + nI (cnt (rg i k) p), M) := by
  intro k
  induction k with
  | zero =>
    intro i n9 acc hi h9
    obtain ⟨n9, rfl⟩ : ∃ z, n9 = z + 1 := ⟨n9 - 1, by omega⟩
    obtain rfl : i = 8 := by omega
    show f_X0_countWaiting_4_b N (f_X0_countWaiting_4 N n9) d acc (nI 8) M = _
    unfold f_X0_countWaiting_4_b
    rw [if_pos (show (8 : Int32) ≤ nI 8 by decide)]
    exact congrArg (fun x => some (x, M)) (zadd acc).symm
  | succ k ih =>
    intro i n9 acc hi h9
    obtain ⟨n9, rfl⟩ : ∃ z, n9 = z + 1 := ⟨n9 - 1, by omega⟩
    have he : ¬ (8 : Int32) ≤ nI i := fun h2 => by have := (nI_leI (a := 8) (by omega) (by omega)).mp h2; omega
    show f_X0_countWaiting_4_b N (f_X0_countWaiting_4 N n9) d acc (nI i) M = _
    unfold f_X0_countWaiting_4_b f_X0_countWaiting_22
    rw [if_neg he, b_waits (by omega) hd (hb i (by omega)), rg_s, cnt_cons, nI_1]
    by_cases c : p i = true
    · rw [if_neg (fun hz => bI_z.mp hz ((hp i (by omega)).mpr c)), if_pos c, ih (i + 1) n9 _ (by omega) (by omega), cadd]
    · rw [if_pos (bI_z.mpr (fun hz => c ((hp i (by omega)).mp hz))), if_neg c, ih (i + 1) n9 _ (by omega) (by omega), Nat.zero_add]
theorem m_fw_l {N : Nat} {d : Int32} {M : gq_M} {p : Nat → Bool} (hdd : bit d) (hb : ∀ j, j < 8 → bit (M 11 j)) (hp : ∀ j, j < 8 → ((¬ M 15 j ≤ 0 ∧ M 11 j = d) ↔ p j = true)) : ∀ (k i n9 q : Nat), i + k = 8 → k < n9 → q < 100 → f_X0_findWaiting_5 N n9 d (nI q) (nI i) M = some (hd (((rg i k).filter p).drop q) (-1), M) := by
  intro k
  induction k with
  | zero =>
    intro i n9 q hi h9 hq
    obtain ⟨n9, rfl⟩ : ∃ z, n9 = z + 1 := ⟨n9 - 1, by omega⟩
    obtain rfl : i = 8 := by omega
    show f_X0_findWaiting_5_b N (f_X0_findWaiting_5 N n9) d (nI q) (nI 8) M = _
    unfold f_X0_findWaiting_5_b
    rw [if_pos (show (8 : Int32) ≤ nI 8 by decide), show (rg 8 0).filter p = [] from rfl, List.drop_nil]
    rfl
  | succ k ih =>
    intro i n9 q hi h9 hq
    obtain ⟨n9, rfl⟩ : ∃ z, n9 = z + 1 := ⟨n9 - 1, by omega⟩
    have he : ¬ (8 : Int32) ≤ nI i := fun h2 => by have := (nI_leI (a := 8) (by omega) (by omega)).mp h2; omega
    show f_X0_findWaiting_5_b N (f_X0_findWaiting_5 N n9) d (nI q) (nI i) M = _
    unfold f_X0_findWaiting_5_b f_X0_findWaiting_35
    rw [if_neg he, b_waits (by omega) hdd (hb i (by omega)), rg_s, List.filter_cons, nI_1]
    by_cases c : p i = true
    · rw [if_neg (fun hz => bI_z.mp hz ((hp i (by omega)).mpr c)), if_pos c]
      cases q with
      | zero => rw [if_pos (show nI 0 = 0 from rfl)]; rfl
      | succ q =>
        rw [if_neg (nI_ne0 (by omega) (by omega)), show nI (q + 1) + -1 = nI q from (Int32.sub_eq_add_neg _ _).symm.trans (nI_pred q), ih (i + 1) n9 q (by omega) (by omega) (by omega)]
        rfl
    · rw [if_pos (bI_z.mpr (fun hz => c ((hp i (by omega)).mp hz))), if_neg c, ih (i + 1) n9 q (by omega) (by omega) hq]
-- sets of boats as bits
theorem tb_or : ∀ s, s < 256 → ∀ j, j < 8 → nI s ||| (1 <<< (nI j &&& 31)) = nI (s ||| 2 ^ j) ∧ (s ||| 2 ^ j) < 256 ∧ ∀ i, i < 8 → (s ||| 2 ^ j).testBit i = (s.testBit i || decide (i = j)) := by decide +kernel
theorem tb_or0 : ∀ s, s < 256 → nI s ||| 0 = nI s := by decide +kernel
theorem tb_sh : ∀ s, s < 256 → ∀ j, j < 8 → (nI s >>> (nI j &&& 31)) &&& 1 = if s.testBit j = true then 1 else 0 := by decide +kernel
theorem tb_cl : ∀ s, s < 256 → ∀ j, j < 8 → s.testBit j = true → nI s &&& ((1 <<< (nI j &&& 31)) ^^^ (-1)) = nI (s - 2 ^ j) ∧ ∀ i, i < 8 → (s - 2 ^ j).testBit i = (s.testBit i && decide (i ≠ j)) := by decide +kernel
theorem tb_0 : ∀ s, s < 256 → (∀ j, j < 8 → s.testBit j = false) → s = 0 := by decide +kernel
theorem tb_orr {s t : Nat} (hs : s < 256) (ht : t < 256) : nI s ||| nI t = 0 ↔ s = 0 ∧ t = 0 := by
  rw [← Int32.toBitVec_inj, Int32.toBitVec_or]
  show BitVec.ofNat 32 s ||| BitVec.ofNat 32 t = 0#32 ↔ _
  rw [← BitVec.toNat_inj, BitVec.toNat_or, BitVec.toNat_ofNat, BitVec.toNat_ofNat, Nat.mod_eq_of_lt (by omega), Nat.mod_eq_of_lt (by omega), BitVec.toNat_ofNat, Nat.zero_mod, Nat.or_eq_zero_iff]

