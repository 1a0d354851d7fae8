/-! pure: sums over ranks, numbers of lots -/
def nsum : List Nat → (Nat → Nat) → Nat
  | [], _ => 0
  | b :: t, f => f b + nsum t f
theorem nsum_app (A B : List Nat) (f : Nat → Nat) : nsum (A ++ B) f = nsum A f + nsum B f := by
  induction A with
  | nil => show nsum B f = 0 + nsum B f; omega
  | cons a t ih => show f a + nsum (t ++ B) f = f a + nsum t f + nsum B f; omega
theorem nsum_congr {L : List Nat} {f g : Nat → Nat} (h : ∀ b, b ∈ L → f b = g b) : nsum L f = nsum L g := by
  induction L with
  | nil => rfl
  | cons a t ih => show f a + nsum t f = g a + nsum t g; rw [h a List.mem_cons_self, ih fun b hb => h b (List.mem_cons_of_mem _ hb)]
theorem nsum_add (L : List Nat) (f g : Nat → Nat) : nsum L (fun r => f r + g r) = nsum L f + nsum L g := by
  induction L with
  | nil => rfl
  | cons a t ih => show f a + g a + nsum t _ = f a + nsum t f + (g a + nsum t g); omega
theorem nsum_z (L : List Nat) : nsum L (fun _ => 0) = 0 := by
  induction L with
  | nil => rfl
  | cons a t ih => show 0 + nsum t _ = 0; omega
theorem nsum_ind {x : Nat} : ∀ (k i : Nat), nsum (rg i k) (fun r => if x = r then 1 else 0) = if i ≤ x ∧ x < i + k then 1 else 0 := by
  intro k
  induction k with
  | zero => intro i; rw [if_neg (by omega)]; rfl
  | succ k ih =>
    intro i
    rw [rg_s]
    show (if x = i then 1 else 0) + nsum (rg (i + 1) k) _ = _
    rw [ih (i + 1)]
    by_cases h : x = i
    · rw [if_pos h, if_neg (by omega), if_pos (by omega)]
    · rw [if_neg h]
      by_cases h2 : i + 1 ≤ x ∧ x < i + 1 + k
      · rw [if_pos h2, if_pos (by omega)]
      · rw [if_neg h2, if_neg (by omega)]
def wr (W : Nat → Bool) (rn : Nat → Nat) (r b : Nat) : Bool := W b && decide (rn b = r)
theorem wr_t {W : Nat → Bool} {rn : Nat → Nat} {r b : Nat} : wr W rn r b = true ↔ W b = true ∧ rn b = r := by unfold wr; simp
theorem nsum_cnt {W : Nat → Bool} {rn : Nat → Nat} {n : Nat} : ∀ (L : List Nat), (∀ b, b ∈ L → W b = true → rn b < n) → nsum (rg 0 n) (fun r => cnt L (wr W rn r)) = cnt L W := by
  intro L
  induction L with
  | nil => intro _; exact nsum_z _
  | cons a t ih =>
    intro h
    rw [nsum_congr (g := fun r => (if W a = true then (if rn a = r then 1 else 0) else 0) + cnt t (wr W rn r)) fun r _ => by
      rw [cnt_cons]
      by_cases hw : W a = true
      · by_cases hr : rn a = r
        · rw [if_pos (wr_t.mpr ⟨hw, hr⟩), if_pos hw, if_pos hr]
        · rw [if_neg (fun hz => hr (wr_t.mp hz).2), if_pos hw, if_neg hr]
      · rw [if_neg (fun hz => hw (wr_t.mp hz).1), if_neg hw]]
    rw [nsum_add, ih fun b hb => h b (List.mem_cons_of_mem _ hb), cnt_cons]
    by_cases hw : W a = true
    · rw [if_pos hw, nsum_congr (g := fun r => if rn a = r then 1 else 0) fun r _ => by rw [if_pos hw], nsum_ind, if_pos ⟨Nat.zero_le _, by have := h a List.mem_cons_self hw; omega⟩]
    · rw [if_neg hw, nsum_congr (g := fun _ => 0) fun r _ => by rw [if_neg hw], nsum_z]
def ps (cr : Nat → Nat) (r : Nat) : Bool := decide (0 < cr r)
theorem ps_t {cr : Nat → Nat} {r : Nat} : ps cr r = true ↔ 0 < cr r := decide_eq_true_iff
theorem ps_le (L : List Nat) (cr : Nat → Nat) : cnt L (ps cr) ≤ nsum L cr := by
  induction L with
  | nil => exact Nat.le_refl _
  | cons a t ih =>
    rw [cnt_cons]
    show _ ≤ cr a + nsum t cr
    by_cases h : ps cr a = true
    · have := ps_t.mp h; rw [if_pos h]; omega
    · rw [if_neg h]; omega
theorem cnt_lt {p : Nat → Bool} {r1 : Nat} (hp : p r1 = true) : ∀ r2, r1 < r2 → cnt (rg 0 r1) p + 1 ≤ cnt (rg 0 r2) p := by
  intro r2
  induction r2 with
  | zero => intro h; omega
  | succ n ih =>
    intro h
    rw [rg_c, cnt_app, Nat.zero_add, cnt_cons, cnt_nil]
    by_cases hh : r1 = n
    · subst hh; rw [if_pos hp]; omega
    · have := ih (by omega); omega
theorem cnt_mono {p : Nat → Bool} {n m : Nat} (h : n ≤ m) : cnt (rg 0 n) p ≤ cnt (rg 0 m) p := by
  induction m with
  | zero => have : n = 0 := by omega
            subst this; exact Nat.le_refl _
  | succ m ih =>
    by_cases hh : n = m + 1
    · subst hh; exact Nat.le_refl _
    · rw [rg_c, cnt_app]; have := ih (by omega); omega
theorem nsum_lt {c : Nat → Nat} {r1 : Nat} : ∀ r2, r1 < r2 → nsum (rg 0 r1) c + c r1 ≤ nsum (rg 0 r2) c := by
  intro r2
  induction r2 with
  | zero => intro h; omega
  | succ n ih =>
    intro h
    rw [rg_c, nsum_app, Nat.zero_add]
    show _ ≤ _ + (c n + 0)
    by_cases hh : r1 = n
    · subst hh; omega
    · have := ih (by omega); omega
theorem cnt_sur {p : Nat → Bool} : ∀ n l, l < cnt (rg 0 n) p → ∃ r, r < n ∧ p r = true ∧ l = cnt (rg 0 r) p := by
  intro n
  induction n with
  | zero => intro l h; exact absurd h (Nat.not_lt_zero _)
  | succ n ih =>
    intro l h
    rw [rg_c, cnt_app, Nat.zero_add, cnt_cons, cnt_nil] at h
    by_cases h2 : l < cnt (rg 0 n) p
    · obtain ⟨r, h3, h4⟩ := ih l h2
      exact ⟨r, by omega, h4⟩
    · by_cases h3 : p n = true
      · rw [if_pos h3] at h
        exact ⟨n, by omega, h3, by omega⟩
      · rw [if_neg h3] at h; omega
theorem cnt_part {L : List Nat} {p q s : Nat → Bool} (h : ∀ b, b ∈ L → (p b = true ↔ (q b = true ∨ s b = true)) ∧ ¬ (q b = true ∧ s b = true)) : cnt L p = cnt L q + cnt L s := by
  induction L with
  | nil => rfl
  | cons a t ih =>
    rw [cnt_cons, cnt_cons, cnt_cons, ih fun b hb => h b (List.mem_cons_of_mem _ hb)]
    obtain ⟨h1, h2⟩ := h a List.mem_cons_self
    by_cases hq : q a = true
    · rw [if_pos (h1.mpr (Or.inl hq)), if_pos hq, if_neg (fun hs => h2 ⟨hq, hs⟩)]; omega
    · by_cases hs : s a = true
      · rw [if_pos (h1.mpr (Or.inr hs)), if_neg hq, if_pos hs]; omega
      · rw [if_neg (fun hp => (h1.mp hp).elim hq hs), if_neg hq, if_neg hs]; omega
theorem cnt_z {L : List Nat} {p : Nat → Bool} (h : ∀ b, b ∈ L → p b = false) : cnt L p = 0 := by
  induction L with
  | nil => rfl
  | cons a t ih => rw [cnt_cons, ih fun b hb => h b (List.mem_cons_of_mem _ hb), if_neg (by rw [h a List.mem_cons_self]; decide)]
theorem cnt_le2 {L : List Nat} {p q : Nat → Bool} (h : ∀ b, b ∈ L → p b = true → q b = true) : cnt L p ≤ cnt L q := by
  induction L with
  | nil => exact Nat.le_refl _
  | cons a t ih =>
    rw [cnt_cons, cnt_cons]
    have := ih fun b hb => h b (List.mem_cons_of_mem _ hb)
    by_cases hp : p a = true
    · rw [if_pos hp, if_pos (h a List.mem_cons_self hp)]; omega
    · rw [if_neg hp]; omega
theorem cnt_pos {L : List Nat} {p : Nat → Bool} {b : Nat} (hb : b ∈ L) (hp : p b = true) : 0 < cnt L p := by
  unfold cnt
  exact List.length_pos_of_mem (List.mem_filter.mpr ⟨hb, hp⟩)
theorem cnt_ex {L : List Nat} {p : Nat → Bool} (h : 0 < cnt L p) : ∃ b, b ∈ L ∧ p b = true := by
  unfold cnt at h
  obtain ⟨b, hb⟩ := List.exists_mem_of_length_pos h
  exact ⟨b, List.mem_filter.mp hb⟩

