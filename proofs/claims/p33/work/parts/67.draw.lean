/-! pure: the reference's sets of boats, a draw -/
def wb (st bo : Nat → Int32) (j b : Nat) : Bool := decide ((st b = 0 ∨ st b = 6) ∧ bo b = nI j)
theorem r_ready_l {N nb : Nat} {d : Int32} {R : gq_M} (hM : R 0 16 = nI nb) (hb : nb ≤ 150) (hr : ∀ b, b < nb → rng 0 7 (R 13 b)) : ∀ (k i n9 s : Nat), s < 256 → i + k = nb → k < n9 → ∃ s2, f_X10_ready_4 N n9 d (nI s) (nI i) R = some (nI s2, R) ∧ s2 < 256 ∧ ∀ j, j < 8 → (s2.testBit j = true ↔ (s.testBit j = true ∨ (0 < cnt (rg i k) (wb (R 19) (R 13) j) ∧ R 4 j = d))) := by
  intro k
  induction k with
  | zero =>
    intro i n9 s hs hi h9
    obtain ⟨n9, rfl⟩ : ∃ z, n9 = z + 1 := ⟨n9 - 1, by omega⟩
    have he : nb ≤ i := by omega
    refine ⟨s, ?_, hs, fun j hj => ⟨Or.inl, fun h => h.elim id fun h2 => absurd h2.1 (Nat.lt_irrefl _)⟩⟩
    show f_X10_ready_4_b N (f_X10_ready_4 N n9) d (nI s) (nI i) R = _
    unfold f_X10_ready_4_b
    simp (disch := omega) only [hM, nI_leI, he, ↓reduceIte]
  | succ k ih =>
    intro i n9 s hs hi h9
    obtain ⟨n9, rfl⟩ : ∃ z, n9 = z + 1 := ⟨n9 - 1, by omega⟩
    have he : ¬ nb ≤ i := by omega
    obtain ⟨g, -, hg8, hg⟩ := hr i (by omega)
    have keep : ∀ j, j < 8 → ¬ (wb (R 19) (R 13) j i = true ∧ R 4 j = d) → ∀ s2 : Nat, (s2.testBit j = true ↔ (s.testBit j = true ∨ (0 < cnt (rg (i + 1) k) (wb (R 19) (R 13) j) ∧ R 4 j = d))) → (s2.testBit j = true ↔ (s.testBit j = true ∨ (0 < cnt (rg i (k + 1)) (wb (R 19) (R 13) j) ∧ R 4 j = d))) := by
      intro j hj hn s2 h2
      rw [h2, rg_s, cnt_cons]
      by_cases hd : R 4 j = d
      · rw [if_neg (fun hw => hn ⟨hw, hd⟩), Nat.zero_add]
      · simp only [hd, and_false]
    show ∃ s2, f_X10_ready_4_b N (f_X10_ready_4 N n9) d (nI s) (nI i) R = _ ∧ _
    unfold f_X10_ready_4_b
    rw [if_neg (fun h2 => he ((nI_leI (by omega) (by omega)).mp (hM ▸ h2))), b_isToSell (by omega)]
    by_cases c1 : R 19 i = 0 ∨ R 19 i = 6
    · rw [bI_t c1, if_neg (show ¬ (1 : Int32) = 0 by decide), g_inN (by omega) (by omega), gq_l_e, nI_clamp (by omega), hg, g_inN (by omega) (by omega), gq_l_e, nI_clamp (by omega)]
      by_cases c2 : R 4 g = d
      · rw [if_pos c2, g_inN (by omega) (by omega), gq_l_e]
        unfold f_X10_ready_48
        rw [(tb_or s hs g (by omega)).1, nI_1]
        have hor := (tb_or s hs g (by omega)).2
        obtain ⟨s2, e1, e2, e3⟩ := ih (i + 1) n9 (s ||| 2 ^ g) hor.1 (by omega) (by omega)
        refine ⟨s2, e1, e2, fun j hj => ?_⟩
        rw [e3 j hj, hor.2 j hj, rg_s, cnt_cons]
        by_cases hjg : j = g
        · subst hjg
          rw [if_pos (show wb (R 19) (R 13) j i = true from decide_eq_true ⟨c1, hg⟩)]
          simp [c2]
          omega
        · rw [if_neg (show ¬ wb (R 19) (R 13) j i = true from fun hz => hjg ((nI_eq (by omega) (by omega)).mp (hg.symm.trans (of_decide_eq_true hz).2)).symm), Nat.zero_add]
          simp [hjg]
      · rw [if_neg c2]
        unfold f_X10_ready_47 f_X10_ready_48
        rw [tb_or0 s hs, nI_1]
        obtain ⟨s2, e1, e2, e3⟩ := ih (i + 1) n9 s hs (by omega) (by omega)
        refine ⟨s2, e1, e2, fun j hj => keep j hj (fun hz => ?_) s2 (e3 j hj)⟩
        have := (nI_eq (by omega) (by omega)).mp (hg.symm.trans (of_decide_eq_true hz.1).2)
        subst this
        exact c2 hz.2
    · rw [bI_f c1, if_pos rfl]
      unfold f_X10_ready_47 f_X10_ready_48
      rw [tb_or0 s hs, nI_1]
      obtain ⟨s2, e1, e2, e3⟩ := ih (i + 1) n9 s hs (by omega) (by omega)
      exact ⟨s2, e1, e2, fun j hj => keep j hj (fun hz => c1 (of_decide_eq_true hz.1).1) s2 (e3 j hj)⟩
theorem r_ready {N nb : Nat} {d : Int32} {R : gq_M} (hN : 600 ≤ N) (hM : R 0 16 = nI nb) (hb : nb ≤ 150) (hr : ∀ b, b < nb → rng 0 7 (R 13 b)) : ∃ s, f_X10_ready N d R = some (nI s, R) ∧ s < 256 ∧ ∀ j, j < 8 → (s.testBit j = true ↔ (0 < cnt (rg 0 nb) (wb (R 19) (R 13) j) ∧ R 4 j = d)) := by
  obtain ⟨s, e1, e2, e3⟩ := r_ready_l (N := N) (d := d) hM hb hr nb 0 N 0 (by omega) (by omega) (by omega)
  exact ⟨s, e1, e2, fun j hj => (e3 j hj).trans ⟨fun h => h.elim (fun h2 => absurd h2 (by simp)) id, Or.inr⟩⟩
theorem r_size_l {N s : Nat} {M : gq_M} (hs : s < 256) : ∀ (k i n9 : Nat) (acc : Int32), i + k = 8 → k < n9 → f_X10_size_4 N n9 (nI s) acc (nI i) M = some (acc + nI (cnt (rg i k) s.testBit), M) := by
  intro k
  induction k with
  | zero =>
    intro i n9 acc hi h9
    obtain ⟨n9, rfl⟩ : ∃ z, n9 = z + 1 := ⟨n9 - 1, by omega⟩
    obtain rfl : i = 8 := by omega
    show f_X10_size_4_b N (f_X10_size_4 N n9) (nI s) acc (nI 8) M = _
    unfold f_X10_size_4_b
    rw [if_pos (show (8 : Int32) ≤ nI 8 by decide)]
    exact congrArg (fun x => some (x, M)) (zadd acc).symm
  | succ k ih =>
    intro i n9 acc hi h9
    obtain ⟨n9, rfl⟩ : ∃ z, n9 = z + 1 := ⟨n9 - 1, by omega⟩
    have he : ¬ (8 : Int32) ≤ nI i := fun h2 => by have := (nI_leI (a := 8) (by omega) (by omega)).mp h2; omega
    show f_X10_size_4_b N (f_X10_size_4 N n9) (nI s) acc (nI i) M = _
    unfold f_X10_size_4_b
    rw [if_neg he, tb_sh s hs i (by omega), nI_1, ih (i + 1) n9 _ (by omega) (by omega), rg_s, cnt_cons]
    by_cases c : s.testBit i = true
    · rw [if_pos c, if_pos c, cadd]
    · rw [if_neg c, if_neg c, Int32.add_zero, Nat.zero_add]
theorem r_size {N s : Nat} {M : gq_M} (hN : 600 ≤ N) (hs : s < 256) : f_X10_size N (nI s) M = some (nI (cnt (rg 0 8) s.testBit), M) := (r_size_l hs 8 0 N 0 (by omega) (by omega)).trans (by rw [Int32.zero_add])
theorem neg_s (m : Nat) : (-1 - nI m) + -1 = -1 - nI (m + 1) := by rw [← nI_1]; grind
theorem neg_n0 {m : Nat} (h : m < 2 ^ 31) : ¬ (-1 - nI m : Int32) = 0 := fun h2 => nI_m1 h (by grind)
theorem bit_e {s j : Nat} (hs : s < 256) (hj : j < 8) : ((nI s >>> (nI j &&& 31)) &&& 1 = 1) = (s.testBit j = true) := by
  rw [tb_sh s hs j hj]
  by_cases c : s.testBit j = true
  · rw [if_pos c]; simp [c]
  · rw [if_neg c]; simp [c]
theorem r_dn_l {N s : Nat} {M : gq_M} {x : Int32} (hs : s < 256) : ∀ (k i n9 m : Nat), i + k = 8 → k < n9 → m + k < 1000 → f_X10_drawn_33 N n9 (nI s) (-1 - nI m) x (nI i) M = some (x, M) := by
  intro k
  induction k with
  | zero =>
    intro i n9 m hi h9 hm
    obtain ⟨n9, rfl⟩ : ∃ z, n9 = z + 1 := ⟨n9 - 1, by omega⟩
    obtain rfl : i = 8 := by omega
    show f_X10_drawn_33_b N (f_X10_drawn_33 N n9) (nI s) (-1 - nI m) x (nI 8) M = _
    unfold f_X10_drawn_33_b
    rw [if_pos (show (8 : Int32) ≤ nI 8 by decide)]
  | succ k ih =>
    intro i n9 m hi h9 hm
    obtain ⟨n9, rfl⟩ : ∃ z, n9 = z + 1 := ⟨n9 - 1, by omega⟩
    have he : ¬ (8 : Int32) ≤ nI i := fun h2 => by have := (nI_leI (a := 8) (by omega) (by omega)).mp h2; omega
    show f_X10_drawn_33_b N (f_X10_drawn_33 N n9) (nI s) (-1 - nI m) x (nI i) M = _
    unfold f_X10_drawn_33_b f_X10_drawn_60 f_X10_drawn_64
    simp only [bit_e hs (show i < 8 by omega)]
    rw [if_neg he, nI_1, neg_s, if_neg (neg_n0 (by omega))]
    by_cases c : s.testBit i = true
    · rw [if_pos c]; exact ih (i + 1) n9 (m + 1) (by omega) (by omega) (by omega)
    · rw [if_neg c]; exact ih (i + 1) n9 m (by omega) (by omega) (by omega)
theorem r_dr_l {N s : Nat} {M : gq_M} {x : Int32} (hs : s < 256) : ∀ (k i n9 q : Nat), i + k = 8 → k < n9 → q < 100 → f_X10_drawn_33 N n9 (nI s) (nI q) x (nI i) M = some (hd (((rg i k).filter s.testBit).drop q) x, M) := by
  intro k
  induction k with
  | zero =>
    intro i n9 q hi h9 hq
    obtain ⟨n9, rfl⟩ : ∃ z, n9 = z + 1 := ⟨n9 - 1, by omega⟩
    obtain rfl : i = 8 := by omega
    show f_X10_drawn_33_b N (f_X10_drawn_33 N n9) (nI s) (nI q) x (nI 8) M = _
    unfold f_X10_drawn_33_b
    rw [if_pos (show (8 : Int32) ≤ nI 8 by decide), show (rg 8 0).filter s.testBit = [] from rfl, List.drop_nil]
    rfl
  | succ k ih =>
    intro i n9 q hi h9 hq
    obtain ⟨n9, rfl⟩ : ∃ z, n9 = z + 1 := ⟨n9 - 1, by omega⟩
    have he : ¬ (8 : Int32) ≤ nI i := fun h2 => by have := (nI_leI (a := 8) (by omega) (by omega)).mp h2; omega
    show f_X10_drawn_33_b N (f_X10_drawn_33 N n9) (nI s) (nI q) x (nI i) M = _
    unfold f_X10_drawn_33_b f_X10_drawn_60 f_X10_drawn_64
    simp only [bit_e hs (show i < 8 by omega)]
    rw [if_neg he, nI_1, rg_s, List.filter_cons]
    by_cases c : s.testBit i = true
    · rw [if_pos c, if_pos c]
      cases q with
      | zero =>
        rw [if_pos (show nI 0 = 0 from rfl), show nI 0 + -1 = (-1 - nI 0 : Int32) from by decide]
        exact r_dn_l hs k (i + 1) n9 0 (by omega) (by omega) (by omega)
      | succ q =>
        rw [if_neg (nI_ne0 (by omega) (by omega)), show nI (q + 1) + -1 = nI q from (Int32.sub_eq_add_neg _ _).symm.trans (nI_pred q)]
        exact ih (i + 1) n9 q (by omega) (by omega) (by omega)
    · rw [if_neg c, if_neg c]
      exact ih (i + 1) n9 q (by omega) (by omega) hq
-- the number that draws
def shx (x : Int32) : Int32 := ((x : Int32).toUInt32 >>> ((16 : Int32).toUInt32 &&& Int32.toUInt32 31)).toInt32
theorem shx_nat (x : Int32) : ∃ m : Nat, m < 65536 ∧ shx x = nI m := by
  refine ⟨(x.toUInt32 >>> (16 : UInt32)).toNat, ?_, ?_⟩
  · rw [UInt32.toNat_shiftRight, show (16 : UInt32).toNat % 32 = 16 from rfl, Nat.shiftRight_eq_div_pow]
    have := x.toUInt32.toNat_lt
    omega
  · show (x.toUInt32 >>> (16 : UInt32)).toInt32 = nI _
    apply Int32.toBitVec_inj.mp
    show (x.toUInt32 >>> (16 : UInt32)).toBitVec = BitVec.ofNat 32 (x.toUInt32 >>> (16 : UInt32)).toBitVec.toNat
    rw [BitVec.ofNat_toNat, BitVec.setWidth_eq]
theorem shx_mod {x : Int32} {l : Nat} (h0 : 0 < l) (hl : l ≤ 8) : ∃ q, q < l ∧ shx x - shx x / nI l * nI l = nI q := by
  obtain ⟨m, hm, e⟩ := shx_nat x
  refine ⟨m % l, Nat.mod_lt _ h0, ?_⟩
  rw [e, nI_div (by omega) (by omega), nI_mul, nI_sub (Nat.div_mul_le_self _ _)]
  congr 1
  have := Nat.mod_add_div m l
  rw [Nat.mul_comm] at this
  omega
theorem nth_hd {L : List Nat} {q : Nat} (h : q < L.length) : ∃ a t, L.drop q = a :: t ∧ a ∈ L := by
  cases hL : L.drop q with
  | nil => have := List.drop_eq_nil_iff.mp hL; omega
  | cons a t => exact ⟨a, t, rfl, List.mem_of_mem_drop (i := q) (by rw [hL]; exact List.mem_cons_self)⟩
theorem nz_nI {β : Type} {n : Nat} {a : Option β} (h0 : 0 < n) (h : n < 2 ^ 31) : gq_g (gq_nz (nI n)) a = a := gq_g_t (decide_eq_true (nI_ne0 h0 h))

