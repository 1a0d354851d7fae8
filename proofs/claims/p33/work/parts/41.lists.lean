/-! pure: sums and counts over places -/
theorem i32_assoc (a b c : Int32) : a + b + c = a + (b + c) := Int32.add_assoc a b c
theorem i32_t1 (a b c k : Int32) : a + (b + -k + c) = a + b + c - k := by grind
theorem i32_t2 (a k p : Int32) : a * p + k * p = (a + k) * p := by grind
def lsum : List Nat → (Nat → Int32) → Int32
  | [], _ => 0
  | b :: t, f => f b + lsum t f
theorem lsum_app (A B : List Nat) (f : Nat → Int32) : lsum (A ++ B) f = lsum A f + lsum B f := by
  induction A with
  | nil => show lsum B f = 0 + lsum B f; grind
  | cons a t ih => show f a + lsum (t ++ B) f = f a + lsum t f + lsum B f; rw [ih]; grind
theorem lsum_congr {L : List Nat} {f g : Nat → Int32} (h : ∀ b, b ∈ L → f b = g b) : lsum L f = lsum L g := by
  induction L with
  | nil => rfl
  | cons a t ih => show f a + lsum t f = g a + lsum t g; rw [h a (List.mem_cons_self), ih fun b hb => h b (List.mem_cons_of_mem _ hb)]
abbrev rg (i k : Nat) : List Nat := List.range' i k
theorem rg_s (i k : Nat) : rg i (k + 1) = i :: rg (i + 1) k := List.range'_succ
theorem rg_c (i k : Nat) : rg i (k + 1) = rg i k ++ [i + k] := List.range'_1_concat
theorem rg_m {i k b : Nat} : b ∈ rg i k ↔ i ≤ b ∧ b < i + k := List.mem_range'_1
theorem lsum_upd {f : Nat → Int32} {j : Nat} {v : Int32} : ∀ (k i : Nat), i ≤ j → j < i + k → lsum (rg i k) (upd f j v) = lsum (rg i k) f + v - f j := by
  intro k
  induction k with
  | zero => intro i h1 h2; omega
  | succ k ih =>
    intro i h1 h2
    rw [rg_s]
    show upd f j v i + lsum (rg (i + 1) k) (upd f j v) = f i + lsum (rg (i + 1) k) f + v - f j
    by_cases h : i = j
    · subst h
      rw [upd_s, lsum_congr (g := f) fun b hb => upd_n (by have := rg_m.mp hb; omega)]
      grind
    · rw [upd_n h, ih (i + 1) (by omega) (by omega)]
      grind
def cnt (L : List Nat) (p : Nat → Bool) : Nat := (L.filter p).length
theorem cnt_nil (p : Nat → Bool) : cnt [] p = 0 := rfl
theorem cnt_cons (a : Nat) (L : List Nat) (p : Nat → Bool) : cnt (a :: L) p = (if p a = true then 1 else 0) + cnt L p := by
  unfold cnt
  rw [List.filter_cons]
  split
  · rw [List.length_cons]; omega
  · omega
theorem cnt_app (A B : List Nat) (p : Nat → Bool) : cnt (A ++ B) p = cnt A p + cnt B p := by
  unfold cnt; rw [List.filter_append, List.length_append]
theorem cnt_congr {L : List Nat} {p q : Nat → Bool} (h : ∀ b, b ∈ L → p b = q b) : cnt L p = cnt L q := by
  unfold cnt; rw [List.filter_congr h]
theorem cnt_le (L : List Nat) (p : Nat → Bool) : cnt L p ≤ L.length := List.length_filter_le _ _
theorem cnt_rg (i k : Nat) (p : Nat → Bool) : cnt (rg i k) p ≤ k := by have := cnt_le (rg i k) p; rwa [List.length_range'] at this
theorem cnt_ch {p q : Nat → Bool} {j : Nat} (hne : ∀ b, b ≠ j → p b = q b) : ∀ (k i : Nat), i ≤ j → j < i + k → cnt (rg i k) q + (if p j = true then 1 else 0) = cnt (rg i k) p + (if q j = true then 1 else 0) := by
  intro k
  induction k with
  | zero => intro i h1 h2; omega
  | succ k ih =>
    intro i h1 h2
    rw [rg_s, cnt_cons, cnt_cons]
    by_cases h : i = j
    · subst h
      rw [cnt_congr (p := q) (q := p) fun b hb => (hne b (by have := rg_m.mp hb; omega)).symm]
      omega
    · have := ih (i + 1) (by omega) (by omega)
      rw [hne i h]
      omega
def hd (L : List Nat) (d : Int32) : Int32 := match L with
  | [] => d
  | b :: _ => nI b
theorem hd_app1 (A : List Nat) (k : Nat) (d : Int32) : hd (A ++ [k]) d = hd A (nI k) := by cases A <;> rfl
theorem nI_sub {a b : Nat} (h : b ≤ a) : nI a - nI b = nI (a - b) := by
  have : nI (a - b) + nI b = nI a := by rw [nI_add, Nat.sub_add_cancel h]
  grind
theorem nI_mul (a b : Nat) : nI a * nI b = nI (a * b) := (Int32.ofNat_mul a b).symm
theorem nI_m1 {a : Nat} (h : a < 2 ^ 31) : ¬ nI a = -1 := by
  intro h2
  have := congrArg Int32.toInt h2
  rw [nI_toInt h] at this
  have h3 : (-1 : Int32).toInt = -1 := rfl
  omega
theorem nI_div {a b : Nat} (ha : a < 2 ^ 31) (hb : b < 2 ^ 31) : nI a / nI b = nI (a / b) := by
  apply Int32.toInt_inj.mp
  have h1 : a / b ≤ a := Nat.div_le_self a b
  rw [Int32.toInt_div, nI_toInt ha, nI_toInt hb, nI_toInt (by omega), ← Int.ofNat_tdiv]
  generalize a / b = q at h1
  rw [Int.bmod_def]
  have : (q : Int) % (2 ^ 32 : Nat) = (q : Int) := Int.emod_eq_of_lt (by omega) (by omega)
  rw [this]
  split
  · rfl
  · omega
theorem m_atN {r n N j : Nat} {M : gq_M} (h : j < n) (hn : n < 2 ^ 31) : f_X8_at r n N (nI j) M = some (M r j, M) := by
  rw [m_at (vp_in_nI h hn) hn, nI_clamp (by omega)]
theorem m_putN {r n N j : Nat} {v : Int32} {M : gq_M} (h : j < n) (hn : n < 2 ^ 31) : f_X8_put r n N (nI j) v M = some (0, gq_up M r j v) := by
  rw [m_put (vp_in_nI h hn) hn, nI_clamp (by omega)]
theorem m_addN {r n N j : Nat} {v : Int32} {M : gq_M} (h : j < n) (hn : n < 2 ^ 31) : f_X8_add r n N (nI j) v M = some (0, gq_up M r j (M r j + v)) := by
  rw [m_add (vp_in_nI h hn) hn, nI_clamp (by omega)]
theorem m_swapN {r n N j : Nat} {v : Int32} {M : gq_M} (h : j < n) (hn : n < 2 ^ 31) : f_X8_swap r n N (nI j) v M = some (M r j, gq_up M r j v) := by
  rw [m_swap (vp_in_nI h hn) hn, nI_clamp (by omega)]
theorem g_inN {β : Type} {n j : Nat} {a : Option β} (h : j < n) (hn : n < 2 ^ 31) : gq_g (gq_in (nI j) n) a = a := gq_g_t (ix_nI h hn)
theorem g_bb0 {β : Type} {a : Option β} : gq_g (gq_bb 0) a = a := rfl
theorem g_bb1 {β : Type} {a : Option β} : gq_g (gq_bb 1) a = a := rfl
theorem g_bbI {β : Type} {p : Prop} [Decidable p] {a : Option β} : gq_g (gq_bb (bI p)) a = a := gq_g_t bI_bb
def bit (v : Int32) : Prop := v = 0 ∨ v = 1
theorem g_bit {β : Type} {v : Int32} {a : Option β} (h : bit v) : gq_g (gq_bb v) a = a := gq_g_t (decide_eq_true h)
theorem bit_n0 {v : Int32} (h : bit v) : (¬ v = 0) ↔ v = 1 := by
  rcases h with rfl | rfl <;> decide
theorem bit_n1 {v : Int32} (h : bit v) : (¬ v = 1) ↔ v = 0 := by
  rcases h with rfl | rfl <;> decide
