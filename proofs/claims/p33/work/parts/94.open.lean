/-! the sale is opened -/
section
variable {S : Nat → Prop} {N h nb nl nr tn dn : Nat} {M R : gq_M}
theorem pk_thr {w : Int32} (H : PK S nb nl nr tn dn M R) : PK S nb nl nr tn dn M (thr R w) := by
  obtain ⟨hnb, hnl, hnr, htn, hdn, hop, hdr, hkd, hby, hqu, hbt, hha, hpr, hbx, hbz, hlt, hlo⟩ := H
  exact ⟨hnb, hnl, hnr, htn, hdn, hop, hdr, hkd, hby, hqu, hbt, hha, hpr, hbx, hbz, hlt, hlo⟩
theorem pk_x {v : Int32} (H : PK S nb nl nr tn dn M R) : PK S nb nl nr tn dn (gq_up M 119 3 v) (gq_up R 0 3 v) := by
  obtain ⟨hnb, hnl, hnr, htn, hdn, hop, hdr, hkd, hby, hqu, hbt, hha, hpr, hbx, hbz, hlt, hlo⟩ := H
  have x1 : gq_up M 119 3 v 119 4 = nI nb ∧ gq_up R 0 3 v 0 16 = nI nb ∧ nb ≤ 40 := by simp (disch := omega) only [up_no]; exact hnb
  have x2 : gq_up M 119 3 v 119 5 = nI nl ∧ gq_up R 0 3 v 0 31 = nI nl ∧ nl ≤ nb := by simp (disch := omega) only [up_no]; exact hnl
  have x3 : gq_up M 119 3 v 119 6 = nI nr ∧ gq_up R 0 3 v 0 49 = nI nr ∧ nr ≤ 10 := by simp (disch := omega) only [up_no]; exact hnr
  have x4 : gq_up M 119 3 v 119 0 = nI tn ∧ gq_up R 0 3 v 0 0 = nI tn ∧ tn ≤ 3000 := by simp (disch := omega) only [up_no]; exact htn
  have x5 : gq_up M 119 3 v 119 1 = nI dn ∧ gq_up R 0 3 v 0 1 = nI dn ∧ dn ≤ 100 := by simp (disch := omega) only [up_no]; exact hdn
  have x6 : gq_up M 119 3 v 119 2 = gq_up R 0 3 v 0 2 ∧ bit (gq_up R 0 3 v 0 2) := by simp (disch := omega) only [up_no]; exact hop
  have x7 : gq_up M 119 3 v 119 3 = gq_up R 0 3 v 0 3 := (up_same _ _ _ _).trans (up_same _ _ _ _).symm
  exact ⟨x1, x2, x3, x4, x5, x6, x7, (fun j hj => by simp (disch := omega) only [up_no]; exact hkd j hj), (fun j hj => by simp (disch := omega) only [up_no]; exact hby j hj), hqu, hbt, hha, hpr, hbx, hbz, hlt, hlo⟩
theorem l_ready_l {kh : Int32 → gq_M → Option (Int32 × gq_M)} {d : Int32} (H : PK S nb nl nr tn dn M R) : ∀ (k i n8 n9 : Nat) (sv v : Int32), i + k = nb → k < n8 → k < n9 → f_X10_ready_4 N n9 d sv (nI i) R = some (v, R) → f_L_opens_47 N kh n8 d sv (nI i) M = f_L_opens_107 N kh N d v M := by
  obtain ⟨hnb, hnl, hnr, htn, hdn, hop, hdr, hkd, hby, hqu, hbt, hha, hpr, hbx, hbz, hlt, hlo⟩ := H
  have hb := hnb.2.2
  intro k
  induction k with
  | zero =>
    intro i n8 n9 sv v hi h8 h9 hr
    obtain ⟨n8, rfl⟩ : ∃ z, n8 = z + 1 := ⟨n8 - 1, by omega⟩
    obtain ⟨n9, rfl⟩ : ∃ z, n9 = z + 1 := ⟨n9 - 1, by omega⟩
    have he : nb ≤ i := by omega
    have hr2 : f_X10_ready_4_b N (f_X10_ready_4 N n9) d sv (nI i) R = some (v, R) := hr
    unfold f_X10_ready_4_b at hr2
    rw [hnb.2.1, if_pos (nI_le he (by omega))] at hr2
    cases hr2
    show f_L_opens_47_b N kh (f_L_opens_47 N kh n8) d sv (nI i) M = _
    unfold f_L_opens_47_b
    rw [gi4_56, cl4, gq_l_e, hnb.1, if_pos (nI_le he (by omega))]
  | succ k ih =>
    intro i n8 n9 sv v hi h8 h9 hr
    obtain ⟨n8, rfl⟩ : ∃ z, n8 = z + 1 := ⟨n8 - 1, by omega⟩
    obtain ⟨n9, rfl⟩ : ∃ z, n9 = z + 1 := ⟨n9 - 1, by omega⟩
    have he : ¬ nb ≤ i := by omega
    have hBi := hbx i (by omega)
    have hi40 : i < 40 := by omega
    have e1 := (BX_a hBi).1
    have hbo : ∃ bo, bo < 8 ∧ R 13 i = nI bo := by
      obtain ⟨bo, ki, si, fr, st, wc, cl, kl, re, so, h1, h2, -⟩ := hBi
      exact ⟨bo, h1.1, h2.1⟩
    obtain ⟨bo, hbo8, hboe⟩ := hbo
    rw [hboe] at e1
    have k2 := (hbt bo hbo8).2.1
    have e8 : 8 + nI bo = nI (8 + bo) := by rw [show (8 : Int32) = nI 8 from rfl, nI_add]
    have hts : ∀ {F : Int32 → gq_M → Option (Int32 × gq_M)}, gq_b (f_L_isToSell N (nI i) M) F = F (bI (R 19 i = 0 ∨ R 19 i = 6)) M := fun {F} => by rw [l_toSell hBi hi40]; rfl
    have hr2 : f_X10_ready_4_b N (f_X10_ready_4 N n9) d sv (nI i) R = some (v, R) := hr
    show f_L_opens_47_b N kh (f_L_opens_47 N kh n8) d sv (nI i) M = _
    unfold f_X10_ready_4_b f_X10_ready_47 f_X10_ready_48 at hr2
    unfold f_L_opens_47_b f_L_opens_97 f_L_opens_98
    by_cases c1 : R 19 i = 0 ∨ R 19 i = 6
    · by_cases c2 : R 4 bo = d
      · simp (disch := omega) only [hnb.2.1, nI_leI, he, ↓reduceIte, b_isToSell, bI_t c1, f10, g_inN, nI_clamp, gq_l_e, hboe, c2, nI_1] at hr2
        simp (disch := omega) only [gi4_56, cl4, gq_l_e, hnb.1, nI_leI, he, ↓reduceIte, hts, bI_t c1, f10, g_inN, nI_clamp, e1, e8, k2, c2, nI_1]
        exact ih (i + 1) n8 n9 _ v (by omega) (by omega) (by omega) hr2
      · simp (disch := omega) only [hnb.2.1, nI_leI, he, ↓reduceIte, b_isToSell, bI_t c1, f10, g_inN, nI_clamp, gq_l_e, hboe, eq_false c2, nI_1] at hr2
        simp (disch := omega) only [gi4_56, cl4, gq_l_e, hnb.1, nI_leI, he, ↓reduceIte, hts, bI_t c1, f10, g_inN, nI_clamp, e1, e8, k2, eq_false c2, nI_1]
        exact ih (i + 1) n8 n9 _ v (by omega) (by omega) (by omega) hr2
    · simp (disch := omega) only [hnb.2.1, nI_leI, he, ↓reduceIte, b_isToSell, bI_f c1, nI_1] at hr2
      simp (disch := omega) only [gi4_56, cl4, gq_l_e, hnb.1, nI_leI, he, ↓reduceIte, hts, bI_f c1, nI_1]
      exact ih (i + 1) n8 n9 _ v (by omega) (by omega) (by omega) hr2
theorem tb_sub : ∀ s, s < 256 → ∀ j, j < 8 → s.testBit j = true → nI s - (1 <<< (nI j &&& 31)) = nI (s - 2 ^ j) := by decide +kernel
theorem l_size_l {s : Nat} {d : Int32} {kh36 : Int32 → gq_M → Option (Int32 × gq_M)} {kh107 : Int32 → Int32 → gq_M → Option (Int32 × gq_M)} (hs : s < 256) (F : Int32 → Int32 → Int32 → Int32 → gq_M → Option (Int32 × gq_M)) : ∀ (k i n9 m : Nat), i + k = 8 → k < n9 → f_L_opens_118 N kh36 kh107 n9 d (nI s) (nI m) (nI i) M = f_L_opens_118_b N kh36 kh107 F d (nI s) (nI (m + cnt (rg i k) s.testBit)) (nI 8) M := by
  intro k
  induction k with
  | zero =>
    intro i n9 m hi h9
    obtain ⟨n9, rfl⟩ : ∃ z, n9 = z + 1 := ⟨n9 - 1, by omega⟩
    obtain rfl : i = 8 := by omega
    show f_L_opens_118_b N kh36 kh107 (f_L_opens_118 N kh36 kh107 n9) d (nI s) (nI m) (nI 8) M = f_L_opens_118_b N kh36 kh107 F d (nI s) (nI m) (nI 8) M
    unfold f_L_opens_118_b
    rw [if_pos (show (8 : Int32) ≤ nI 8 by decide), if_pos (show (8 : Int32) ≤ nI 8 by decide)]
  | succ k ih =>
    intro i n9 m hi h9
    obtain ⟨n9, rfl⟩ : ∃ z, n9 = z + 1 := ⟨n9 - 1, by omega⟩
    show f_L_opens_118_b N kh36 kh107 (f_L_opens_118 N kh36 kh107 n9) d (nI s) (nI m) (nI i) M = _
    unfold f_L_opens_118_b
    rw [if_neg (fun h2 => by have := (nI_leI (a := 8) (by omega) (by omega)).mp h2; omega), tb_sh s hs i (by omega), nI_1, rg_s, cnt_cons]
    by_cases c : s.testBit i = true
    · rw [if_pos c, if_pos c, nI_1, ih (i + 1) n9 (m + 1) (by omega) (by omega), show m + 1 + cnt (rg (i + 1) k) s.testBit = m + (1 + cnt (rg (i + 1) k) s.testBit) by omega]
      rfl
    · rw [if_neg c, if_neg c, Int32.add_zero, ih (i + 1) n9 m (by omega) (by omega), Nat.zero_add]
      rfl
theorem l_find_l {s a : Nat} {t : List Nat} {d : Int32} {kh36 : Int32 → gq_M → Option (Int32 × gq_M)} {kh107 : Int32 → Int32 → gq_M → Option (Int32 × gq_M)} (hs : s < 256) : ∀ (k i n9 q : Nat), i + k = 8 → k < n9 → q < 100 → ((rg i k).filter s.testBit).drop q = a :: t → f_L_opens_173 N kh36 kh107 n9 d (nI s) (nI q) (nI i) M = gq_b (f_L_lots N (nI a) M) fun _ M39 => kh107 d (nI s - (1 <<< (nI a &&& 31))) M39 := by
  intro k
  induction k with
  | zero =>
    intro i n9 q hi h9 hq hT
    rw [show (rg i 0).filter s.testBit = [] from rfl, List.drop_nil] at hT
    cases hT
  | succ k ih =>
    intro i n9 q hi h9 hq hT
    obtain ⟨n9, rfl⟩ : ∃ z, n9 = z + 1 := ⟨n9 - 1, by omega⟩
    show f_L_opens_173_b N kh36 kh107 (f_L_opens_173 N kh36 kh107 n9) d (nI s) (nI q) (nI i) M = _
    unfold f_L_opens_173_b f_L_opens_188
    rw [rg_s, List.filter_cons] at hT
    rw [tb_sh s hs i (by omega), nI_1]
    by_cases c : s.testBit i = true
    · rw [if_pos c] at hT
      rw [if_pos c, if_neg (show ¬ (1 : Int32) = 0 by decide)]
      cases q with
      | zero =>
        cases hT
        rw [if_pos (show nI 0 ≤ 0 from Int32.le_refl _)]
      | succ q =>
        rw [List.drop_succ_cons] at hT
        rw [if_neg (fun z => by
          rw [show (0 : Int32) = nI 0 from rfl, nI_leI (by omega) (by omega)] at z
          omega), nI_pred]
        exact ih (i + 1) n9 q (by omega) (by omega) (by omega) hT
    · rw [if_neg c] at hT
      rw [if_neg c, if_pos rfl, Int32.sub_zero]
      exact ih (i + 1) n9 q (by omega) (by omega) hq hT
set_option maxHeartbeats 2000000 in
theorem s2_draws {d : Int32} {kh : Int32 → gq_M → Option (Int32 × gq_M)} (hN : 600 ≤ N) : ∀ (left n8 n9 nl s : Nat) (M R : gq_M), PK S nb nl nr tn dn M R → s < 256 → cnt (rg 0 8) s.testBit = left → left < n8 → left < n9 → nl + cnt (rg 0 nb) (isW (R 19)) ≤ nb → ∃ M2 R2 nl2, f_L_opens_107 N kh n8 d (nI s) M = kh (d + (-1)) M2 ∧ f_X10_drawsAll_6 N n9 (nI s) R = some (0, R2) ∧ PK S nb nl2 nr tn dn M2 R2 ∧ nl2 + cnt (rg 0 nb) (isW (R2 19)) ≤ nb ∧ R2 0 54 = R 0 54 := by
  intro left
  induction left with
  | zero =>
    intro n8 n9 nl s M R H hs hc h8 h9 hcw
    obtain ⟨n8, rfl⟩ : ∃ z, n8 = z + 1 := ⟨n8 - 1, by omega⟩
    obtain ⟨n9, rfl⟩ : ∃ z, n9 = z + 1 := ⟨n9 - 1, by omega⟩
    have hz : ∀ j, j < 8 → s.testBit j = false := fun j hj => cnt_0 hc j (rg_m.mpr ⟨Nat.zero_le _, by omega⟩)
    have hs0 := tb_0 s hs hz
    subst hs0
    refine ⟨M, R, nl, ?_, ?_, H, hcw, rfl⟩
    · show f_L_opens_107_b N kh (f_L_opens_107 N kh n8) d (nI 0) M = _
      unfold f_L_opens_107_b
      rw [if_pos (show nI 0 = 0 from rfl)]
    · show f_X10_drawsAll_6_b N (f_X10_drawsAll_6 N n9) (nI 0) R = _
      unfold f_X10_drawsAll_6_b
      rw [if_pos (show nI 0 = 0 from rfl)]
  | succ left ih =>
    intro n8 n9 nl s M R H hs hc h8 h9 hcw
    obtain ⟨n8, rfl⟩ : ∃ z, n8 = z + 1 := ⟨n8 - 1, by omega⟩
    obtain ⟨n9, rfl⟩ : ∃ z, n9 = z + 1 := ⟨n9 - 1, by omega⟩
    have hl8 : left + 1 ≤ 8 := by rw [← hc]; exact cnt_rg 0 8 _
    have hs0 : 0 < s := Nat.pos_of_ne_zero fun h => by
      subst h
      rw [cnt_z (fun b _ => Nat.zero_testBit b)] at hc
      omega
    have H0 := H
    obtain ⟨hnb, hnl, hnr, htn, hdn, hop, hdr, hkd, hby, hqu, hbt, hha, hpr, hbx, hbz, hlt, hlo⟩ := H0
    obtain ⟨q, hq, eq⟩ := shx_mod (x := R 0 3 * 1103515245 + 12345) (l := left + 1) (by omega) hl8
    have hlen : q < ((rg 0 8).filter s.testBit).length := by
      have : ((rg 0 8).filter s.testBit).length = left + 1 := hc
      omega
    obtain ⟨a, t, hT, haM⟩ := nth_hd hlen
    obtain ⟨ha8, hab⟩ := List.mem_filter.mp haM
    have ha8 : a < 8 := by have := (rg_m.mp ha8).2; omega
    have M1 := pk_x (v := R 0 3 * 1103515245 + 12345) H
    have e2 := r_drawn (N := N) hN hs hc (by omega) eq (by omega) hT
    obtain ⟨M2, R2, nl2, t1, t2, P2, t3, t4⟩ := s2_lots (N := N) hN ha8 M1 hcw
    obtain ⟨b1, b2⟩ := tb_cl s hs a ha8 hab
    have hs2 : s - 2 ^ a < 256 := Nat.lt_of_le_of_lt (Nat.sub_le _ _) hs
    have hc2 : cnt (rg 0 8) (s - 2 ^ a).testBit = left := by
      have h1 : cnt (rg 0 8) (s - 2 ^ a).testBit = cnt (rg 0 8) (fun j => s.testBit j && decide (j ≠ a)) := cnt_congr fun j hj => b2 j (by have := (rg_m.mp hj).2; omega)
      have h2 := cnt_ch (p := s.testBit) (q := fun j => s.testBit j && decide (j ≠ a)) (j := a) (fun b hb => by simp [hb]) 8 0 (Nat.zero_le _) (by omega)
      rw [← h1, hc, if_pos hab, if_neg (by simp)] at h2
      omega
    obtain ⟨M3, R3, nl3, u1, u2, P3, u3, u4⟩ := ih n8 n9 nl2 (s - 2 ^ a) M2 R2 P2 hs2 hc2 (by omega) (by omega) t3
    refine ⟨M3, R3, nl3, ?_, ?_, P3, u3, u4.trans (t4.trans (up_no (by omega)))⟩
    · show f_L_opens_107_b N kh (f_L_opens_107 N kh n8) d (nI s) M = _
      unfold f_L_opens_107_b
      rw [if_neg (nI_ne0 hs0 (by omega))]
      have e4 := l_size_l (N := N) (M := M) (d := d) (kh36 := kh) (kh107 := f_L_opens_107 N kh n8) hs (fun _ _ _ _ _ => none) 8 0 N 0 (by omega) (by omega)
      rw [Nat.zero_add, hc] at e4
      refine Eq.trans e4 ?_
      unfold f_L_opens_118_b
      rw [if_pos (show (8 : Int32) ≤ nI 8 by decide), gi3_56, cl3, gq_l_e, hdr, gi3_56, gq_l_e, gi3_56, up_same, gq_l_e, gq_l_e, nz_nI (by omega) (by omega)]
      unfold shx at eq
      rw [eq]
      have e5 := l_find_l (N := N) (M := gq_up M 119 3 (R 0 3 * 1103515245 + 12345)) (d := d) (kh36 := kh) (kh107 := f_L_opens_107 N kh n8) hs 8 0 N q (by omega) (by omega) (by omega) hT
      refine Eq.trans e5 ?_
      rw [t1, gq_b_s, tb_sub s hs a ha8 hab]
      exact u1
    · show f_X10_drawsAll_6_b N (f_X10_drawsAll_6 N n9) (nI s) R = _
      unfold f_X10_drawsAll_6_b
      rw [if_neg (nI_ne0 hs0 (by omega)), e2, gq_b_s, t2, gq_b_s, b1]
      exact u2
theorem s2_pass {d : Int32} {kh : Int32 → gq_M → Option (Int32 × gq_M)} (hN : 600 ≤ N) (H : PK S nb nl nr tn dn M R) (hcw : nl + cnt (rg 0 nb) (isW (R 19)) ≤ nb) : ∃ M2 R2 nl2, f_L_opens_47 N kh N d 0 0 M = kh (d + (-1)) M2 ∧ f_X10_drawsAll N d R = some (0, R2) ∧ PK S nb nl2 nr tn dn M2 R2 ∧ nl2 + cnt (rg 0 nb) (isW (R2 19)) ≤ nb ∧ R2 0 54 = R 0 54 := by
  have H0 := H
  obtain ⟨hnb, hnl, hnr, htn, hdn, hop, hdr, hkd, hby, hqu, hbt, hha, hpr, hbx, hbz, hlt, hlo⟩ := H0
  have hb := hnb.2.2
  have hbo : ∀ b, b < nb → rng 0 7 (R 13 b) := fun b hb => by
    obtain ⟨bo, ki, si, fr, st, wc, cl, kl, re, so, h1, h2, -⟩ := hbx b hb
    exact ⟨bo, by omega, by omega, h2.1⟩
  obtain ⟨s, e1, e2, e3⟩ := r_ready (N := N) (d := d) hN hnb.2.1 (by omega) hbo
  have hl8 : cnt (rg 0 8) s.testBit ≤ 8 := cnt_rg 0 8 _
  obtain ⟨M2, R2, nl2, t1, t2, P2, t3, t4⟩ := s2_draws (N := N) (d := d) (kh := kh) hN (cnt (rg 0 8) s.testBit) N N nl s M R H e2 rfl (by omega) (by omega) hcw
  have er := l_ready_l (N := N) (kh := kh) (d := d) H nb 0 N N 0 (nI s) (by omega) (by omega) (by omega) e1
  refine ⟨M2, R2, nl2, Eq.trans er t1, ?_, P2, t3, t4⟩
  unfold f_X10_drawsAll
  rw [e1, gq_b_s]
  exact t2
theorem s2_c3 (hN : 600 ≤ N) : ∀ (k i n8 n9 : Nat) (M R : gq_M), PK (fun q => q < i) nb nl nr tn dn M R → i + k = 3 → k < n8 → k < n9 → ∃ M2 R2, f_L_opens_237 N n8 (nI i) M = some (nI nl, M2) ∧ f_X10_open_80 N n9 (nI i) R = some (nI nl, R2) ∧ PK T0 nb nl nr tn dn M2 R2 ∧ R2 0 = R 0 := by
  intro k
  induction k with
  | zero =>
    intro i n8 n9 M R H hi h8 h9
    obtain ⟨n8, rfl⟩ : ∃ z, n8 = z + 1 := ⟨n8 - 1, by omega⟩
    obtain ⟨n9, rfl⟩ : ∃ z, n9 = z + 1 := ⟨n9 - 1, by omega⟩
    obtain rfl : i = 3 := by omega
    have hnl := pq_nl H
    refine ⟨M, R, ?_, ?_, pk_S H (fun q hq _ => hq), rfl⟩
    · show f_L_opens_237_b N (f_L_opens_237 N n8) (nI 3) M = _
      unfold f_L_opens_237_b
      rw [if_pos (show (3 : Int32) ≤ nI 3 by decide), gi5_56, cl5, gq_l_e, hnl.1]
    · show f_X10_open_80_b N (f_X10_open_80 N n9) (nI 3) R = _
      unfold f_X10_open_80_b
      rw [if_pos (show (3 : Int32) ≤ nI 3 by decide), hnl.2.1]
  | succ k ih =>
    intro i n8 n9 M R H hi h8 h9
    obtain ⟨n8, rfl⟩ : ∃ z, n8 = z + 1 := ⟨n8 - 1, by omega⟩
    obtain ⟨n9, rfl⟩ : ∃ z, n9 = z + 1 := ⟨n9 - 1, by omega⟩
    have he : ¬ (3 : Int32) ≤ nI i := fun h2 => by have := (nI_leI (a := 3) (by omega) (by omega)).mp h2; omega
    obtain ⟨M1, R1, t1, t2, P1, t3, -, -⟩ := s2_comes (N := N) H (h := i) (by omega) hN
    obtain ⟨M2, R2, y1, y2, P2, y3⟩ := ih (i + 1) n8 n9 M1 R1 (pk_S P1 (fun q _ z => by omega)) (by omega) (by omega) (by omega)
    refine ⟨M2, R2, ?_, ?_, P2, y3.trans t3⟩
    · show f_L_opens_237_b N (f_L_opens_237 N n8) (nI i) M = _
      unfold f_L_opens_237_b
      rw [if_neg he, t1, gq_b_s, nI_1]
      exact y1
    · show f_X10_open_80_b N (f_X10_open_80 N n9) (nI i) R = _
      unfold f_X10_open_80_b
      rw [if_neg he, t2, gq_b_s, nI_1]
      exact y2
theorem l_none_l : ∀ (k i n9 : Nat) (M : gq_M), PK S nb nl nr tn dn M R → (∀ b, b < nb → R 26 b = -1) → i + k = nb → k < n9 → ∃ M2, f_L_opens_13 N n9 (nI i) M = f_L_opens_36 N N 1 M2 ∧ PK S nb nl nr tn dn M2 R := by
  intro k
  induction k with
  | zero =>
    intro i n9 M H hlm hi h9
    obtain ⟨n9, rfl⟩ : ∃ z, n9 = z + 1 := ⟨n9 - 1, by omega⟩
    have hnb := pq_nb H
    have hb := hnb.2.2
    refine ⟨M, ?_, H⟩
    show f_L_opens_13_b N (f_L_opens_13 N n9) (nI i) M = _
    unfold f_L_opens_13_b
    rw [gi4_56, cl4, gq_l_e, hnb.1, if_pos (nI_le (by omega) (by omega))]
  | succ k ih =>
    intro i n9 M H hlm hi h9
    obtain ⟨n9, rfl⟩ : ∃ z, n9 = z + 1 := ⟨n9 - 1, by omega⟩
    have H0 := H
    obtain ⟨hnb, hnl, hnr, htn, hdn, hop, hdr, hkd, hby, hqu, hbt, hha, hpr, hbx, hbz, hlt, hlo⟩ := H0
    have hb := hnb.2.2
    have P : PK S nb nl nr tn dn (gq_up M 111 i (-1)) R := by
      refine ⟨hnb, hnl, hnr, htn, hdn, hop, hdr, hkd, hby, hqu, hbt, hha, hpr, fun j hj => ?_, hbz, hlt, hlo⟩
      by_cases e : j = i
      · subst e
        obtain ⟨bo, ki, si, fr, st, wc, cl, kl, re, so, h1, h2, h3, h4, h5, h6⟩ := hbx j hj
        exact ⟨bo, ki, si, fr, st, wc, cl, kl, re, so, h1, h2, h3, h4, (up_same _ _ _ _).trans (hlm j hj).symm, h6⟩
      · exact BX_cg (hbx j hj) (fun a h1 h2 => up_no (by omega)) (fun a _ _ => rfl)
    obtain ⟨M2, t1, t2⟩ := ih (i + 1) n9 _ P hlm (by omega) (by omega)
    refine ⟨M2, Eq.trans ?_ t1, t2⟩
    show f_L_opens_13_b N (f_L_opens_13 N n9) (nI i) M = _
    unfold f_L_opens_13_b
    rw [gi4_56, cl4, gq_l_e, hnb.1, if_neg (nI_ge (by omega) (by omega)), g_inN (by omega) (by omega), gq_l_e, nI_clamp (by omega), nI_1]
set_option maxHeartbeats 2000000 in
theorem s2_open (hN : 600 ≤ N) (H : PK T0 nb 0 nr tn dn M R) (hlo : ∀ b, b < nb → R 26 b = -1) : ∃ M2 R2 nl2, f_L_opens N M = some (nI nl2, M2) ∧ f_X10_open_27 N 0 R = some (nI nl2, R2) ∧ PK T0 nb nl2 nr tn dn M2 R2 ∧ R2 0 54 = 0 := by
  have H1 : PK (fun _ => False) nb 0 nr tn dn (gq_up (gq_up M 119 2 1) 119 5 0) (gq_up (gq_up (thr R 0) 0 2 1) 0 31 0) := by
    have H9 := pk_thr (w := 0) H
    obtain ⟨hnb, hnl, hnr, htn, hdn, hop, hdr, hkd, hby, hqu, hbt, hha, hpr, hbx, hbz, hlt, hlo⟩ := H9
    have x1 : (gq_up (gq_up M 119 2 1) 119 5 0) 119 4 = nI nb ∧ (gq_up (gq_up (thr R 0) 0 2 1) 0 31 0) 0 16 = nI nb ∧ nb ≤ 40 := by simp (disch := omega) only [up_no]; exact hnb
    have x2 : (gq_up (gq_up M 119 2 1) 119 5 0) 119 5 = nI 0 ∧ (gq_up (gq_up (thr R 0) 0 2 1) 0 31 0) 0 31 = nI 0 ∧ 0 ≤ nb := ⟨up_same _ _ _ _, up_same _ _ _ _, Nat.zero_le _⟩
    have x3 : (gq_up (gq_up M 119 2 1) 119 5 0) 119 6 = nI nr ∧ (gq_up (gq_up (thr R 0) 0 2 1) 0 31 0) 0 49 = nI nr ∧ nr ≤ 10 := by simp (disch := omega) only [up_no]; exact hnr
    have x4 : (gq_up (gq_up M 119 2 1) 119 5 0) 119 0 = nI tn ∧ (gq_up (gq_up (thr R 0) 0 2 1) 0 31 0) 0 0 = nI tn ∧ tn ≤ 3000 := by simp (disch := omega) only [up_no]; exact htn
    have x5 : (gq_up (gq_up M 119 2 1) 119 5 0) 119 1 = nI dn ∧ (gq_up (gq_up (thr R 0) 0 2 1) 0 31 0) 0 1 = nI dn ∧ dn ≤ 100 := by simp (disch := omega) only [up_no]; exact hdn
    have x6 : (gq_up (gq_up M 119 2 1) 119 5 0) 119 2 = (gq_up (gq_up (thr R 0) 0 2 1) 0 31 0) 0 2 ∧ bit ((gq_up (gq_up (thr R 0) 0 2 1) 0 31 0) 0 2) := by simp (disch := omega) only [up_no, up_same]; exact ⟨trivial, Or.inr rfl⟩
    have x7 : (gq_up (gq_up M 119 2 1) 119 5 0) 119 3 = (gq_up (gq_up (thr R 0) 0 2 1) 0 31 0) 0 3 := by simp (disch := omega) only [up_no]; exact hdr
    exact ⟨x1, x2, x3, x4, x5, x6, x7, (fun j hj => by simp (disch := omega) only [up_no]; exact hkd j hj), (fun j hj => by simp (disch := omega) only [up_no]; exact hby j hj), hqu, hbt, fun q hq => ⟨(hha q hq).1, fun z => z.elim⟩, hpr, hbx, hbz, hlt, hlo⟩
  have hnb := pq_nb H
  have hb := hnb.2.2
  obtain ⟨M1, t1, P1⟩ := l_none_l (N := N) nb 0 N _ H1 hlo (by omega) (by omega)
  have hcw := cnt_rg 0 nb (isW (R 19))
  obtain ⟨N1, hN1⟩ : ∃ z, N = z + 1 + 1 + 1 := ⟨N - 3, by omega⟩
  obtain ⟨M2, R2, nl2, p1, p2, P2, p3, p4⟩ := s2_pass (N := N) (d := 1) (kh := f_L_opens_36 N (N1 + 1 + 1)) hN P1 (by rw [Nat.zero_add]; exact hcw)
  obtain ⟨M3, R3, nl3, q1, q2, P3, q3, q4⟩ := s2_pass (N := N) (d := 0) (kh := f_L_opens_36 N (N1 + 1)) hN P2 p3
  obtain ⟨M4, R4, u1, u2, P4, u3⟩ := s2_c3 (N := N) hN 3 0 N N M3 R3 (pk_S P3 (fun q _ z => absurd z (Nat.not_lt_zero _))) (by omega) (by omega) (by omega)
  have hn54 : R4 0 54 = 0 := by
    rw [u3, q4, p4]
    rfl
  refine ⟨M4, R4, nl3, ?_, ?_, P4, hn54⟩
  · unfold f_L_opens
    rw [gi2_56, gq_l_e, gi5_56, gq_l_e, cl2, cl5]
    refine Eq.trans t1 ?_
    have s1 : ∀ n, n = N1 + 1 + 1 + 1 → f_L_opens_36 N n 1 M1 = f_L_opens_47 N (f_L_opens_36 N (N1 + 1 + 1)) N 1 0 0 M1 := fun n hn => by
      subst hn
      show f_L_opens_36_b N (f_L_opens_36 N (N1 + 1 + 1)) 1 M1 = _
      unfold f_L_opens_36_b
      rw [if_neg (show ¬ (1 : Int32) < 0 by decide)]
    rw [s1 N hN1, p1]
    show f_L_opens_36_b N (f_L_opens_36 N (N1 + 1)) (1 + (-1)) M2 = _
    unfold f_L_opens_36_b
    rw [if_neg (show ¬ (1 + (-1) : Int32) < 0 by decide), show (1 + (-1) : Int32) = 0 by decide, q1]
    show f_L_opens_36_b N (f_L_opens_36 N N1) (0 + (-1)) M3 = _
    unfold f_L_opens_36_b
    rw [if_pos (show (0 + (-1) : Int32) < 0 by decide)]
    exact u1
  · unfold f_X10_open_27
    rw [b_fails, bI_f (show ¬ (0 : Int32) < 0 by decide), if_pos rfl, gq_l_e, gq_l_e]
    have e2 := r_open_l (N := N) (nb := nb) (by omega) (fun _ _ => none) nb 0 N (gq_up (gq_up (thr R 0) 0 2 1) 0 31 0) hnb.2.1 hlo (by omega) (by omega)
    refine Eq.trans e2 ?_
    unfold f_X10_open_47_b
    rw [show (gq_up (gq_up (thr R 0) 0 2 1) 0 31 0) 0 16 = nI nb from hnb.2.1, if_pos (Int32.le_refl _), p2, gq_b_s, q2, gq_b_s]
    exact u2
end

