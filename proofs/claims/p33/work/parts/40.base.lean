/-! pure: rows, small functions -/
theorem ix_lo {i : Int32} {n : Nat} (h : vp_in i n) : ¬ i < 0 := fun h1 => h (Or.inl h1)
theorem ix_hi {i : Int32} {n : Nat} (h : vp_in i n) : i.toNatClampNeg < n := Nat.lt_of_not_le fun h1 => h (Or.inr h1)
theorem ix_le {i : Int32} {n : Nat} (hn : n < 2 ^ 31) (h : vp_in i n) : ¬ nI n ≤ i := by
  obtain ⟨j, hj, rfl⟩ := vp_in_of h hn
  exact nI_ge hj hn
theorem ix_in {i : Int32} {n : Nat} (h : vp_in i n) : gq_in i n = true := decide_eq_true h
theorem ix_nI {j n : Nat} (h : j < n) (hn : n < 2 ^ 31) : gq_in (nI j) n = true := ix_in (vp_in_nI h hn)
theorem gq_g_t {β : Type} {b : Bool} {a : Option β} (h : b = true) : gq_g b a = a := by rw [h]; rfl
theorem gq_l_e {α β : Type} (x : α) (f : α → β) : gq_l x f = f x := rfl
def bI (p : Prop) [Decidable p] : Int32 := if p then 1 else 0
theorem bI_t {p : Prop} [Decidable p] (h : p) : bI p = 1 := if_pos h
theorem bI_f {p : Prop} [Decidable p] (h : ¬ p) : bI p = 0 := if_neg h
theorem bI_bb {p : Prop} [Decidable p] : gq_bb (bI p) = true := by unfold bI; split <;> rfl
theorem bI_z {p : Prop} [Decidable p] : bI p = 0 ↔ ¬ p := by unfold bI; split <;> simp_all
theorem up_same (M : gq_M) (k j : Nat) (v : Int32) : gq_up M k j v k j = v := by unfold gq_up; rw [if_pos rfl]; exact if_pos rfl
theorem up_row (M : gq_M) (k j : Nat) (v : Int32) : gq_up M k j v k = upd (M k) j v := if_pos rfl
theorem up_ne {M : gq_M} {k j a : Nat} {v : Int32} (h : a ≠ k) : gq_up M k j v a = M a := if_neg h
theorem upd_s (f : Nat → Int32) (j : Nat) (v : Int32) : upd f j v j = v := if_pos rfl
theorem upd_n {f : Nat → Int32} {j k : Nat} {v : Int32} (h : k ≠ j) : upd f j v k = f k := if_neg h
-- rows of the class
theorem m_at {r n N : Nat} {i : Int32} {M : gq_M} (h : vp_in i n) (hn : n < 2 ^ 31) : f_X8_at r n N i M = some (M r i.toNatClampNeg, M) := by
  unfold f_X8_at f_X8_at_23
  rw [if_neg (ix_lo h), if_neg (ix_le hn h), gq_g_t (ix_in h)]
  rfl
theorem m_put {r n N : Nat} {i v : Int32} {M : gq_M} (h : vp_in i n) (hn : n < 2 ^ 31) : f_X8_put r n N i v M = some (0, gq_up M r i.toNatClampNeg v) := by
  unfold f_X8_put
  rw [if_neg (ix_lo h), if_neg (ix_le hn h), gq_g_t (ix_in h)]
  rfl
theorem m_add {r n N : Nat} {i v : Int32} {M : gq_M} (h : vp_in i n) (hn : n < 2 ^ 31) : f_X8_add r n N i v M = some (0, gq_up M r i.toNatClampNeg (M r i.toNatClampNeg + v)) := by
  unfold f_X8_add
  rw [if_neg (ix_lo h), if_neg (ix_le hn h), gq_g_t (ix_in h), gq_l_e, gq_g_t (ix_in h)]
  rfl
theorem m_swap {r n N : Nat} {i v : Int32} {M : gq_M} (h : vp_in i n) (hn : n < 2 ^ 31) : f_X8_swap r n N i v M = some (M r i.toNatClampNeg, gq_up M r i.toNatClampNeg v) := by
  unfold f_X8_swap
  rw [m_at h hn, gq_b_s, m_put h hn, gq_b_s]
def fillR (M : gq_M) (r n : Nat) (v : Int32) : gq_M := fun a => if a = r then (fun j => if j < n then v else M r j) else M a
theorem m_fill_loop {r n N : Nat} {v : Int32} (hn : n < 2 ^ 30) : ∀ (k i n9 : Nat) (M : gq_M), i + k = n → k < n9 → f_X8_fill_2 r n N n9 v (nI i) M = some (0, fun a => if a = r then (fun j => if i ≤ j ∧ j < n then v else M r j) else M a) := by
  intro k
  induction k with
  | zero =>
    intro i n9 M hi h9
    obtain ⟨n9, rfl⟩ : ∃ z, n9 = z + 1 := ⟨n9 - 1, by omega⟩
    show f_X8_fill_2_b r n N (f_X8_fill_2 r n N n9) v (nI i) M = _
    unfold f_X8_fill_2_b
    rw [if_pos (nI_le (by omega) (by omega))]
    congr 2
    funext a j
    by_cases h : a = r
    · subst h
      rw [if_pos rfl]
      rw [if_neg (by omega)]
    · rw [if_neg h]
  | succ k ih =>
    intro i n9 M hi h9
    obtain ⟨n9, rfl⟩ : ∃ z, n9 = z + 1 := ⟨n9 - 1, by omega⟩
    show f_X8_fill_2_b r n N (f_X8_fill_2 r n N n9) v (nI i) M = _
    unfold f_X8_fill_2_b
    rw [if_neg (nI_ge (by omega) (by omega)), gq_g_t (ix_nI (by omega) (by omega)), gq_l_e, nI_1, ih (i + 1) n9 _ (by omega) (by omega), nI_clamp (by omega)]
    congr 2
    funext a j
    by_cases h : a = r
    · subst h
      rw [if_pos rfl, if_pos rfl, up_row]
      by_cases h2 : j = i
      · subst h2
        rw [upd_s, if_neg (by omega), if_pos (by omega)]
      · rw [upd_n h2]
        by_cases h3 : i ≤ j ∧ j < n
        · rw [if_pos h3, if_pos (by omega)]
        · rw [if_neg h3, if_neg (by omega)]
    · rw [if_neg h, if_neg h, up_ne h]
theorem m_fill {r n N : Nat} {v : Int32} {M : gq_M} (hn : n < 2 ^ 30) (hN : n < N) : f_X8_fill r n N v M = some (0, fillR M r n v) := by
  show f_X8_fill_2 r n N N v 0 M = _
  rw [show (0 : Int32) = nI 0 from rfl, m_fill_loop hn n 0 N M (by omega) (by omega)]
  unfold fillR
  congr 2
  funext a j
  by_cases h : a = r
  · rw [if_pos h, if_pos h]
    by_cases h2 : j < n
    · rw [if_pos h2, if_pos ⟨Nat.zero_le _, h2⟩]
    · rw [if_neg h2, if_neg (fun h3 => h2 h3.2)]
  · rw [if_neg h, if_neg h]
-- what must hold
theorem m_exist {N : Nat} {a n : Int32} {M : gq_M} {F : Int32 → gq_M → Option (Nat × Int32 × gq_M)} : gq_x2 (f_X9_mustExist N a n M) (fx_X9_mustExist N a n M) F = if 0 ≤ a ∧ a < n then F 0 M else some (1, 0, M) := by
  unfold f_X9_mustExist fx_X9_mustExist f_X9_mustExist_9 fx_X9_mustExist_9
  by_cases h : a < 0
  · rw [if_pos h, if_pos h, if_neg (fun h2 => absurd h (Int32.not_lt.mpr h2.1))]; rfl
  · rw [if_neg h, if_neg h]
    by_cases h2 : a < n
    · rw [if_pos h2, if_pos h2, if_pos ⟨Int32.not_lt.mp h, h2⟩]; rfl
    · rw [if_neg h2, if_neg h2, if_neg (fun h3 => h2 h3.2)]; rfl
theorem m_beIn {N : Nat} {a x y : Int32} {M : gq_M} {F : Int32 → gq_M → Option (Nat × Int32 × gq_M)} : gq_x2 (f_X9_mustBeIn N a x y M) (fx_X9_mustBeIn N a x y M) F = if x ≤ a ∧ a ≤ y then F 0 M else some (2, 0, M) := by
  unfold f_X9_mustBeIn fx_X9_mustBeIn f_X9_mustBeIn_10 fx_X9_mustBeIn_10
  by_cases h : a < x
  · rw [if_pos h, if_pos h, if_neg (fun h2 => absurd h (Int32.not_lt.mpr h2.1))]; rfl
  · rw [if_neg h, if_neg h]
    by_cases h2 : a ≤ y
    · rw [if_pos h2, if_pos h2, if_pos ⟨Int32.not_lt.mp h, h2⟩]; rfl
    · rw [if_neg h2, if_neg h2, if_neg (fun h3 => h2 h3.2)]; rfl
theorem m_hold {N : Nat} {a : Int32} {M : gq_M} {F : Int32 → gq_M → Option (Nat × Int32 × gq_M)} : gq_x2 (f_X9_mustHold N a M) (fx_X9_mustHold N a M) F = if a = 0 then some (3, 0, M) else F 0 M := by
  unfold f_X9_mustHold fx_X9_mustHold
  by_cases h : a = 0
  · rw [if_pos h, if_pos h, if_pos h]; rfl
  · rw [if_neg h, if_neg h, if_neg h]; rfl
-- the reference's small ones
theorem r_isIn {N : Nat} {a x y : Int32} {M : gq_M} : f_X10_isIn N a x y M = some (bI (x ≤ a ∧ a ≤ y), M) := by
  unfold f_X10_isIn f_X10_isIn_14 f_X10_isIn_15
  by_cases h : a < x
  · rw [if_pos h, bI_f (fun h2 => absurd h (Int32.not_lt.mpr h2.1))]; rfl
  · rw [if_neg h]
    by_cases h2 : y < a
    · rw [if_pos h2, bI_f (fun h3 => absurd h2 (Int32.not_lt.mpr h3.2))]; rfl
    · rw [if_neg h2, bI_t ⟨Int32.not_lt.mp h, Int32.not_lt.mp h2⟩]; rfl
theorem r_isEight {N : Nat} {a : Int32} {M : gq_M} : f_X10_isEight N a M = some (bI (0 ≤ a ∧ a ≤ 7), M) := by
  unfold f_X10_isEight; rw [r_isIn, gq_b_s, gq_g_t bI_bb]
theorem r_isKind {N : Nat} {a : Int32} {M : gq_M} : f_X10_isKind N a M = some (bI (0 ≤ a ∧ a ≤ 3), M) := by
  unfold f_X10_isKind; rw [r_isIn, gq_b_s, gq_g_t bI_bb]
theorem r_isHall {N : Nat} {a : Int32} {M : gq_M} : f_X10_isHall N a M = some (bI (0 ≤ a ∧ a ≤ 2), M) := by
  unfold f_X10_isHall; rw [r_isIn, gq_b_s, gq_g_t bI_bb]
theorem r_areCents {N : Nat} {a : Int32} {M : gq_M} : f_X10_areCents N a M = some (bI (1 ≤ a ∧ a ≤ 100000000), M) := by
  unfold f_X10_areCents; rw [r_isIn, gq_b_s, gq_g_t bI_bb]
theorem r_isBox {N : Nat} {a : Int32} {M : gq_M} : f_X10_isBox N a M = some (bI (0 ≤ a ∧ a ≤ M 0 16 - 1), M) := by
  unfold f_X10_isBox; rw [r_isIn, gq_b_s, gq_g_t bI_bb]
/-- the reference notes its exception -/
def thr (M : gq_M) (w : Int32) : gq_M := gq_up M 0 54 w
theorem thr_v (M : gq_M) (w : Int32) : thr M w 0 54 = w := up_same _ _ _ _
theorem r_fails {N : Nat} {w : Int32} {M : gq_M} : f_X10_fails N w M = some (bI (0 < w), thr M w) := by
  unfold f_X10_fails f_X10_fails_14
  rw [gq_l_e]
  by_cases h : w ≤ 0
  · rw [if_pos h, bI_f (Int32.not_lt.mpr h)]; rfl
  · rw [if_neg h, bI_t (Int32.not_le.mp h)]; rfl
theorem r_thrown {N : Nat} {M : gq_M} : f_X10_thrown N M = some (M 0 54, M) := rfl
theorem lt_lit {a : Int32} {n : Nat} (hn : n + 1 < 2 ^ 31) : a < nI (n + 1) ↔ a ≤ nI n := by
  rw [Int32.lt_iff_toInt_lt, Int32.le_iff_toInt_le, nI_toInt hn, nI_toInt (by omega)]
  omega
theorem ix_of {a : Int32} {n : Nat} (hn : n + 1 < 2 ^ 31) (h : 0 ≤ a ∧ a ≤ nI n) : vp_in a (n + 1) := by
  rw [vp_in_iff]
  have h1 := Int32.le_iff_toInt_le.mp h.1
  have h2 := Int32.le_iff_toInt_le.mp h.2
  rw [nI_toInt (by omega)] at h2
  have h3 : (0 : Int32).toInt = 0 := rfl
  omega
theorem ix_iff {a : Int32} {n : Nat} (hn : n + 1 < 2 ^ 31) : (0 ≤ a ∧ a ≤ nI n) ↔ vp_in a (n + 1) := by
  refine ⟨ix_of hn, fun h => ?_⟩
  obtain ⟨j, hj, rfl⟩ := vp_in_of h hn
  exact ⟨nI_pos' (by omega), nI_le (by omega) (by omega)⟩
theorem ix_iff' {a : Int32} {n : Nat} (hn : n + 1 < 2 ^ 31) : (0 ≤ a ∧ a < nI (n + 1)) ↔ vp_in a (n + 1) := by rw [lt_lit hn, ix_iff hn]
