/-! the law's steps -/
section
variable {N nb nl nr tn dn sl : Nat} {xs : Nat → Int32}
theorem mask_ok (v : Int32) : ∃ w : Nat, w < 2 ^ 31 ∧ v &&& 2147483647 = nI w := by
  obtain ⟨j, h1, h2⟩ := nI_of (x := v &&& 2147483647) (fun h => by
    rw [Int32.lt_iff_toInt_lt] at h
    have e1 : (v &&& 2147483647).toInt = (v &&& 2147483647).toBitVec.toInt := rfl
    have e2 : (v &&& 2147483647).toBitVec.msb = false := by
      rw [Int32.toBitVec_and, BitVec.msb_and]
      have : (2147483647 : Int32).toBitVec.msb = false := by decide
      rw [this, Bool.and_false]
    rw [BitVec.msb_eq_toInt] at e2
    have h3 : (0 : Int32).toInt = 0 := rfl
    rw [h3, e1] at h
    exact absurd h (of_decide_eq_false e2))
  exact ⟨j, h1, h2⟩
theorem part_ok {a m : Nat} (ha : a < 2 ^ 31) (hs : sl < 2 ^ 31) (hm : 0 < m) (hm2 : m < 2 ^ 31) : ∃ z, z < m ∧ f_L_part sl xs (nI a) (nI m) = some (nI z) := by
  unfold f_L_part
  by_cases c : sl ≤ a
  · obtain ⟨w, h1, h2⟩ := mask_ok ((967 * nI a) + ((827 * nI a) * nI a))
    refine ⟨w % m, Nat.mod_lt _ hm, ?_⟩
    rw [if_pos ((nI_leI hs ha).mpr c), gq_l_e, gnz hm hm2, gq_l_e, h2, rd1 hm2 h1]
  · obtain ⟨w, h1, h2⟩ := mask_ok (xs a)
    refine ⟨w % m, Nat.mod_lt _ hm, ?_⟩
    rw [if_neg (fun z => c ((nI_leI hs ha).mp z)), g_inN (by omega) hs, gq_l_e, gnz hm hm2, gq_l_e, nI_clamp ha, h2, rd1 hm2 h1]
theorem sync1 {M R : gq_M} {b : Nat} (h : BX M R b) : ∃ v, (M 110 b - M 110 b / 16384 * 16384) + (16384 * (M 113 b - M 113 b / 131072 * 131072)) = v ∧ BX (gq_up M 110 b v) R b ∧ v / 16384 = M 113 b - M 113 b / 131072 * 131072 := by
  obtain ⟨bo, ki, si, fr, st, wc, cl, kl, re, so, h1, h2, h3, h4, h5, h6⟩ := h
  have e1 : M 110 b - M 110 b / 16384 * 16384 = nI (kl + 128 * re) := by
    rw [h4]
    exact (rd1 (b := 16384) (by omega) (by omega)).trans (congrArg nI (by omega))
  obtain ⟨t, ht, e2⟩ : ∃ t, t ≤ 3000 ∧ M 113 b - M 113 b / 131072 * 131072 = nI t := by
    rcases h6 with ⟨q1, q2, q3, q4⟩ | ⟨w, p, t, d, b1, b2, b3, b4, b5, q1, q2, q3, q4, q5, q6⟩
    · exact ⟨0, by omega, by rw [q4]; decide⟩
    · refine ⟨t, b4, ?_⟩
      rw [q6]
      exact (rd1 (b := 131072) (by omega) (by omega)).trans (congrArg nI (by omega))
  rw [e1, e2, show (16384 : Int32) = nI 16384 from rfl, nI_mul, nI_add]
  refine ⟨_, rfl, ⟨bo, ki, si, fr, st, wc, cl, kl, re, t, by omega, h2, ?_, up_same _ _ _ _, ?_, ?_⟩, ?_⟩
  · simp (disch := omega) only [up_no]; exact h3
  · simp (disch := omega) only [up_no]; exact h5
  · simp (disch := omega) only [up_no]; exact h6
  · exact (nI_div (b := 16384) (by omega) (by omega)).trans (congrArg nI (by omega))
theorem s_sync {kh : Int32 → Int32 → gq_M → Option (Int32 × gq_M)} {R : gq_M} {x16 x17 x19 : Int32} (F : Int32 → Int32 → Int32 → Int32 → gq_M → Option (Int32 × gq_M)) : ∀ (k i n9 : Nat) (M : gq_M), INV M R → PK T0 nb nl nr tn dn M R → (∀ b, b < i → M 110 b / 16384 = M 113 b - M 113 b / 131072 * 131072) → i + k = nb → k < n9 → ∃ M2, f_L_law_764 sl xs N kh n9 x16 x17 x19 (nI i) M = f_L_law_764_b sl xs N kh F x16 x17 x19 (nI nb) M2 ∧ INV M2 R ∧ PK T0 nb nl nr tn dn M2 R ∧ SY nb M2 := by
  intro k
  induction k with
  | zero =>
    intro i n9 M I H hs hi h9
    obtain ⟨n9, rfl⟩ : ∃ z, n9 = z + 1 := ⟨n9 - 1, by omega⟩
    obtain rfl : i = nb := by omega
    have hnb := pq_nb H
    refine ⟨M, ?_, I, H, hs⟩
    show f_L_law_764_b sl xs N kh (f_L_law_764 sl xs N kh n9) x16 x17 x19 (nI i) M = _
    unfold f_L_law_764_b
    rw [gi4_56, cl4, gq_l_e (M 119 4), hnb.1, if_pos (Int32.le_refl _), gi4_56, gq_l_e (nI i), if_pos (Int32.le_refl _)]
  | succ k ih =>
    intro i n9 M I H hs hi h9
    obtain ⟨n9, rfl⟩ : ∃ z, n9 = z + 1 := ⟨n9 - 1, by omega⟩
    have hnb := pq_nb H
    have hb := hnb.2.2
    obtain ⟨v, e1, e2, e3⟩ := sync1 (pq_bx H i (by omega))
    have H0 := H
    obtain ⟨hnb, hnl, hnr, htn, hdn, hop, hdr, hkd, hby, hqu, hbt, hha, hpr, hbx, hbz, hlt, hlo⟩ := H0
    have P : PK T0 nb nl nr tn dn (gq_up M 110 i v) R := by
      refine ⟨hnb, hnl, hnr, htn, hdn, hop, hdr, hkd, hby, hqu, hbt, hha, hpr, fun j hj => ?_, hbz, hlt, hlo⟩
      by_cases e : j = i
      · subst e; exact e2
      · exact BX_cg (hbx j hj) (fun a h1 h2 => up_no (by omega)) (fun a _ _ => rfl)
    obtain ⟨M2, t1, t2, t3, t4⟩ := ih (i + 1) n9 _ (inv_up I (by omega)) P (fun b hb => by
      by_cases e : b = i
      · subst e
        rw [up_same, up_no (by omega)]
        exact e3
      · rw [up_no (by omega), up_no (by omega)]
        exact hs b (by omega)) (by omega) (by omega)
    refine ⟨M2, ?_, t2, t3, t4⟩
    show f_L_law_764_b sl xs N kh (f_L_law_764 sl xs N kh n9) x16 x17 x19 (nI i) M = _
    conv => lhs; unfold f_L_law_764_b
    rw [gi4_56, cl4, gq_l_e (M 119 4), hnb.1, if_neg (nI_ge (by omega) (by omega)), g_inN (j := i) (n := 40) (by omega) (by omega), nI_clamp (n := i) (by omega), gq_l_e (M 110 i), g_inN (j := i) (n := 40) (by omega) (by omega), gq_l_e (M 113 i), e1, gq_l_e v, g_inN (j := i) (n := 40) (by omega) (by omega), gq_l_e (gq_up M 110 i v), nI_1]
    exact t1
theorem s_ticks {kh : Int32 → Int32 → gq_M → Option (Int32 × gq_M)} {x17 x19 : Int32} {m : Nat} (hN : 600 ≤ N) (hm : m ≤ 500) (F : Int32 → Int32 → Int32 → Int32 → gq_M → Option (Int32 × gq_M)) : ∀ (k i n8 n9 tn : Nat) (M R : gq_M), IR nb nl nr tn R → PK T0 nb nl nr tn dn M R → i + k = m → tn + k ≤ 3000 → k < n8 → k < n9 → ∃ M2 R2, f_L_law_694 sl xs N kh n8 x17 x19 (nI m) (nI i) M = f_L_law_694_b sl xs N kh F x17 x19 (nI m) (nI m) M2 ∧ f_X10_pass_42 N n9 (nI m) (nI i) R = some (nI (tn + k), R2) ∧ PK T0 nb nl nr (tn + k) dn M2 R2 ∧ E9 M2 M := by
  intro k
  induction k with
  | zero =>
    intro i n8 n9 tn M R J H hi ht h8 h9
    obtain ⟨n8, rfl⟩ : ∃ z, n8 = z + 1 := ⟨n8 - 1, by omega⟩
    obtain ⟨n9, rfl⟩ : ∃ z, n9 = z + 1 := ⟨n9 - 1, by omega⟩
    obtain rfl : i = m := by omega
    refine ⟨M, R, ?_, ?_, H, e9_r⟩
    · show f_L_law_694_b sl xs N kh (f_L_law_694 sl xs N kh n8) x17 x19 (nI i) (nI i) M = _
      unfold f_L_law_694_b
      rw [if_pos (Int32.le_refl _), if_pos (Int32.le_refl _)]
    · show f_X10_pass_42_b N (f_X10_pass_42 N n9) (nI i) (nI i) R = _
      unfold f_X10_pass_42_b
      rw [if_pos (Int32.le_refl _), (pq_tn H).2.1]
      rfl
  | succ k ih =>
    intro i n8 n9 tn M R J H hi ht h8 h9
    obtain ⟨n8, rfl⟩ : ∃ z, n8 = z + 1 := ⟨n8 - 1, by omega⟩
    obtain ⟨n9, rfl⟩ : ∃ z, n9 = z + 1 := ⟨n9 - 1, by omega⟩
    obtain ⟨M1, R1, t1, t2, J1, P1⟩ := s2_passes (N := N) hN J H (by omega)
    have F1 : E9 M1 M := e9_fb (fq_passes e9_r) t1
    obtain ⟨M2, R2, y1, y2, P2, y3⟩ := ih (i + 1) n8 n9 (tn + 1) M1 R1 J1 P1 (by omega) (by omega) (by omega) (by omega)
    rw [show tn + 1 + k = tn + (k + 1) by omega] at y2 P2
    refine ⟨M2, R2, ?_, ?_, P2, fun a ha => (y3 a ha).trans (F1 a ha)⟩
    · show f_L_law_694_b sl xs N kh (f_L_law_694 sl xs N kh n8) x17 x19 (nI m) (nI i) M = _
      conv => lhs; unfold f_L_law_694_b
      rw [if_neg (nI_ge (by omega) (by omega)), t1, gq_b_s, nI_1]
      exact y1
    · show f_X10_pass_42_b N (f_X10_pass_42 N n9) (nI m) (nI i) R = _
      unfold f_X10_pass_42_b
      rw [if_neg (nI_ge (by omega) (by omega)), t2, gq_b_s, nI_1]
      exact y2
theorem s_passed {kh : Int32 → Int32 → gq_M → Option (Int32 × gq_M)} {x17 x19 : Int32} {m : Nat} {M R : gq_M} (hN : 600 ≤ N) (hm1 : 1 ≤ m) (hm : m ≤ 40) (I : INV M R) (H : PK T0 nb nl nr tn dn M R) (ht : tn + m ≤ 3000) : ∃ M2 R2, f_L_law_689 sl xs N kh x17 x19 (nI m) M = f_L_law_761 sl xs N kh 1 x17 x19 M2 ∧ INV M2 R2 ∧ PK T0 nb nl nr (tn + m) dn M2 R2 := by
  obtain ⟨C, J⟩ := ir_of I H
  obtain ⟨M1, R1, t1, t2, P1, t3⟩ := s_ticks (N := N) (m := m) (sl := sl) (xs := xs) (kh := kh) (x17 := x17) (x19 := x19) hN (by omega) (fun _ _ _ _ _ => none) m 0 N N tn M (thr R 0) ⟨C, invd_thr J⟩ (pk_thr H) (by omega) ht (by omega) (by omega)
  obtain ⟨C2, R2, -, u2, -, u4⟩ := s_pass_l (N := N) (m := m) hN (by omega) m 0 N N tn C (thr R 0) (invd_thr J) (by omega) (by omega) (by omega) (by omega)
  have e : R2 = R1 := by rw [t2] at u2; exact (Prod.mk.inj (Option.some.inj u2)).2.symm
  subst e
  have h54 : R2 0 54 = 0 := u4.trans (thr_v R 0)
  have k1 : (1 : Int32) ≤ nI m ∧ nI m ≤ (500 : Int32) := ibt (a := 1) (b := 500) ⟨hm1, by omega⟩ (by omega)
  have k2 : nI tn + nI m ≤ (100000 : Int32) := by
    rw [nI_add]
    exact (nI_leI (b := 100000) (by omega) (by omega)).mpr (by omega)
  have htr := (pq_tn H).2.1
  have hr : f_X10_pass N (nI m) R = some (nI (tn + m), R2) := by
    unfold f_X10_pass
    rw [b_isIn, bI_t k1, if_neg one_ne, htr, if_pos k2]
    unfold f_X10_pass_32
    rw [b_fails, bI_f (show ¬ (0 : Int32) < 0 by decide), if_pos rfl]
    exact t2
  obtain ⟨M2, y1, y2, y3⟩ := y_pass (N := N) (M := M1) (hN := hN) (a2 := 0) (a3 := 0) (a4 := 0) (a5 := 0) (a6 := 0) (x := nI (tn + m)) (inv_cg I t3) hr (by rw [h54]; rfl)
  have P2 := pk_mc P1 y3
  refine ⟨M2, R2, ?_, y2, P2⟩
  unfold f_L_law_689
  refine Eq.trans t1 ?_
  unfold f_L_law_694_b f_L_law_759
  rw [if_pos (Int32.le_refl _), y1, gq_b_s, gi0_56, cl0, gq_l_e, (pq_tn P2).1, if_pos rfl]
def STA (j : Nat) (M R : gq_M) : Prop := INV M R ∧ ∃ nb nl nr tn dn, PK T0 nb nl nr tn dn M R ∧ SY nb M ∧ tn ≤ 40 * j ∧ dn ≤ j
def STW (j : Nat) (M R : gq_M) : Prop := INV M R ∧ ∃ nb nl nr tn dn, PK T0 nb nl nr tn dn M R ∧ tn ≤ 40 * j ∧ dn ≤ j
theorem s_tail {kh : Int32 → Int32 → gq_M → Option (Int32 × gq_M)} {j one : Nat} {M R : gq_M} (hN : 600 ≤ N) (h : STW (j + 1) M R) (ho : one < 2 ^ 31) : ∃ M2, f_L_law_761 sl xs N kh 1 (nI j) (nI one) M = kh 1 (nI (j + 1)) M2 ∧ STA (j + 1) M2 R := by
  obtain ⟨I, nb, nl, nr, tn, dn, H, h1, h2⟩ := h
  have hb := (pq_nb H).2.2
  obtain ⟨M1, t1, t2, t3, t4⟩ := s_sync (N := N) (sl := sl) (xs := xs) (kh := kh) (x16 := 1) (x17 := nI j) (x19 := nI one) (fun _ _ _ _ _ => none) nb 0 N M I H (fun b hb => absurd hb (Nat.not_lt_zero _)) (by omega) (by omega)
  obtain ⟨M2, e1, I2, H2, g2⟩ := s_so (N := N) hN t2 t3 ho
  refine ⟨M2, ?_, I2, nb, nl, nr, tn, dn, H2, ?_, h1, h2⟩
  · unfold f_L_law_761
    refine Eq.trans t1 ?_
    unfold f_L_law_764_b f_L_law_843
    rw [gi4_56, cl4, gq_l_e (M1 119 4), (pq_nb t3).1, if_pos (Int32.le_refl _), if_neg one_ne, e1, gq_b_s, if_neg one_ne, nI_1]
  · intro b hb2
    rw [g2 110 (by omega), g2 113 (by omega)]
    exact t4 b hb2
end

