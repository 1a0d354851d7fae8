/-! pure: boxes are sold -/
theorem filter_tail {p q : Nat → Bool} {b : Nat} {t : List Nat} (hq : q b = false) (hn : ∀ x, x ≠ b → q x = p x) : ∀ (k i : Nat), (rg i k).filter p = b :: t → (rg i k).filter q = t := by
  intro k
  induction k with
  | zero => intro i h; cases h
  | succ k ih =>
    intro i h
    rw [rg_s, List.filter_cons] at h ⊢
    by_cases c : p i = true
    · rw [if_pos c] at h
      obtain ⟨rfl, h2⟩ := List.cons.inj h
      rw [if_neg (by rw [hq]; decide), ← h2]
      exact List.filter_congr fun x hx => hn x (by have := (rg_m.mp hx).1; omega)
    · rw [if_neg c] at h
      have h2 := (filter_head k (i + 1) h).2.1
      rw [if_neg (by rw [hn i (by omega)]; exact c)]
      exact ih (i + 1) h
theorem offl_hd {nb a b : Nat} {t : List Nat} {lo st : Nat → Int32} {v : Int32} (h : offl nb lo st a = b :: t) (hv : v ≠ 2) : offl nb lo (upd st b v) a = t := filter_tail (by simp [upd_s, hv]) (fun x hx => by rw [upd_n hx]) nb 0 h
theorem offl_no {nb a b l : Nat} {lo st : Nat → Int32} {v : Int32} (h : lo b = nI a) (hl : l < 150) (ha : a < 150) (hn : l ≠ a) : offl nb lo (upd st b v) l = offl nb lo st l := by
  unfold offl
  refine List.filter_congr fun x hx => ?_
  by_cases hxb : x = b
  · subst hxb
    have : ¬ lo x = nI l := fun h3 => hn ((nI_eq (by omega) (by omega)).mp (h3.symm.trans h))
    simp [this]
  · rw [upd_n hxb]
theorem K_sb_sell {nb b : Nat} {bu st : Nat → Int32} {w : Int32} (h : K_sb nb bu st) : K_sb nb (upd bu b w) (upd st b 3) := by
  intro j hj
  by_cases hh : j = b
  · subst hh; exact Or.inr (Or.inl (upd_s _ _ _))
  · rw [upd_n hh, upd_n hh]; exact h j hj
theorem K_bg_sell {nb b w : Nat} {c r : Nat → Int32} (h : K_bg nb c r) (hb : b < nb) (hr : r b = -1) (hw : w < 8) : K_bg nb (upd c w (c w + 1)) (upd r b (nI w)) := by
  intro j hj
  have hc := cnt_upd (f := r) (v := nI w) (fun v => decide (v = nI j)) hb
  rw [hr, if_neg (fun hz => nI_m1 (by omega) (of_decide_eq_true hz).symm)] at hc
  by_cases hjw : j = w
  · subst hjw
    rw [if_pos (decide_eq_true rfl)] at hc
    rw [upd_s, h j hj, nI_1]
    exact congrArg nI hc.symm
  · rw [if_neg (fun hz => hjw ((nI_eq (by omega) (by omega)).mp (of_decide_eq_true hz)).symm)] at hc
    rw [upd_n hjw, h j hj]
    exact congrArg nI hc.symm
theorem K_sale_sell {nb tn b : Nat} {c1 r1 c2 r2 c3 r3 c4 r4 : Nat → Int32} {w p d : Int32} (h : K_sale nb tn c1 r1 c2 r2 c3 r3 c4 r4) (hb : b < nb) (hw : rng 0 7 w) (hp : rng 1 10000 p) : K_sale nb tn (upd c1 b w) (upd r1 b w) (upd c2 b p) (upd r2 b p) (upd c3 b (nI tn)) (upd r3 b (nI tn)) (upd c4 b d) (upd r4 b d) := by
  refine ⟨fun j hj => ?_, fun j g1 g2 => ?_⟩
  · by_cases hh : j = b
    · subst hh
      rw [upd_s, upd_s, upd_s, upd_s, upd_s, upd_s, upd_s, upd_s]
      exact ⟨rfl, rfl, Or.inr ⟨hw, hp, rfl, ⟨tn, Nat.zero_le _, Nat.le_refl _, rfl⟩, rfl⟩⟩
    · rw [upd_n hh, upd_n hh, upd_n hh, upd_n hh, upd_n hh, upd_n hh, upd_n hh, upd_n hh]
      exact h.1 j hj
  · rw [upd_n (by omega), upd_n (by omega), upd_n (by omega)]
    exact h.2 j g1 g2
abbrev fsC : List Nat := [44, 60, 48, 50, 52, 54, 29, 31, 13]
abbrev fsR : List Nat := [19, 21, 22, 23, 24, 11, 5]
def SOUT (b nb nl nr tn : Nat) (C R : gq_M) (F G : gq_M → Option (Int32 × gq_M)) (c r : Option (Int32 × gq_M)) : Prop := ∃ C2 R2, c = F C2 ∧ r = G R2 ∧ CORE nb nl nr tn C2 R2 ∧ R2 19 = upd (R 19) b 3 ∧ fr fsC C C2 ∧ fr fsR R R2
theorem kp_b {K P : Int32} (hK : rng 1 100 K) (hP : rng 1 10000 P) : 0 ≤ (K * P).toInt ∧ (K * P).toInt ≤ 1000000 := by
  obtain ⟨k, k1, k2, rfl⟩ := hK
  obtain ⟨p, p1, p2, rfl⟩ := hP
  have hm : k * p ≤ 100 * 10000 := Nat.mul_le_mul k2 p2
  rw [nI_mul, nI_toInt (by omega)]
  omega
set_option maxHeartbeats 1000000 in
theorem s_sell {N a b f h m n nb nl nr p tn w : Nat} {C R : gq_M} (kh : Int32 → Int32 → Int32 → Int32 → Int32 → gq_M → Option (Int32 × gq_M)) (kg : Int32 → Int32 → Int32 → gq_M → Option (Int32 × gq_M)) (H : CORE nb nl nr tn C R) (hb : b < nb) (hs : R 19 b = 2) (hw : w < 8) (hp1 : 1 ≤ p) (hp2 : p ≤ 10000) (hh : h < 3) (hnm : n < m) (hm : m ≤ 150) (ha : a < 150) (hfb : f + n < 150) (hf : C 69 a = nI f) (ho : C 73 (f + n) = nI b) (hat : R 36 h = nI a) (hwin : R 39 h = nI w) (hsh : R 37 h = nI p) (hfo : f_X10_firstOf N (nI a) R = some (nI b, R)) : SOUT b nb nl nr tn C R (kh (nI m) (nI a) (nI w) (nI p) (nI (n + 1))) (kg (nI h) (nI m) (nI (n + 1))) (f_X9_sellFirst_41_b N kh (nI m) (nI a) (nI w) (nI p) (nI n) C) (f_X10_gets_2_b N kg (nI h) (nI m) (nI n) R) := by
  obtain ⟨hnb, hnl, hnr, htn, hda, hop, hdr, hqu, hai, hid, hac, hlk, hla, hks, hkm, hkh, hbg, hbd, hbo, hbl, hbb, hst, hpw, hxb, hxk, hxr, hxs, hxf, hxl, hxc, hxi, hxp, hsu, hmo, hsb, hlo, hlb, hlf, hlh, hld, hlr, hcl⟩ := H
  have hb150 := hnb.2.2
  obtain ⟨g, -, hg8, hg⟩ := hxb.2 b hb
  have hgC : C 36 b = nI g := (hxb.1 b hb).trans hg
  have hsC : C 44 b = 2 := (hxs.1 b hb).trans hs
  have hk := hxk.1 b hb
  have hcC := hac g (by omega)
  have hoC := hbo w hw
  have hP : rng 1 10000 (nI p) := ⟨p, hp1, hp2, rfl⟩
  have hd := kp_b (hxk.2 b hb) hP
  have hbu : R 21 b = -1 := by
    rcases hsb b hb with q | q | q
    · exact q
    · rw [hs] at q; exact absurd q (by decide)
    · rw [hs] at q; exact absurd q (by decide)
  have hM : K_mon nb (upd (R 5) g (R 5 g + R 17 b * nI p)) (upd (R 19) b 3) (R 25) := mon_upd (s := 1) (c := 0) hmo hb150 (cnt_isd1 hb hs rfl rfl) (Nat.le_refl _) (by omega) (by omega)
  have he : ¬ m ≤ n := by omega
  unfold f_X9_sellFirst_41_b f_X10_gets_2_b
  simp (disch := omega) only [f_X9_sellFirst, f_X1_sell, f_X1_move, f_X6_boxAt, ↓m_exist, ↓m_beIn, ↓m_hold, e8a, e8b, e4a, e4b, e3a, e3b, ↓b_isEight, ↓b_isKind, ↓b_isHall, ↓b_areCents, ↓b_isBox, ↓b_isIn, ↓b_fails, ↓gq_b_s, ↓gq_l_e, ↓b_atN, ↓b_putN, ↓b_addN, ↓b_swapN, ↓g_inN, b_atN, b_putN, b_addN, b_swapN, g_inN, ↓g_bb0, ↓g_bb1, ↓g_bbI, bI_z, Classical.not_not, ↓reduceIte, not_true_eq_false, not_false_eq_true, f01, f02, f03, f00, ite_not, ite_self, and_self, nI_clamp, pl4, pl4b, pl8, pl8b, thr_r, thr_s, nI_leI, he, nI_add, hf, ho, hs, hsC, hk, hg, hgC, hcC, hoC, htn.1, htn.2.1, hda, hat, hwin, hsh, hfo, b_sumOf2, b_sumOf3, up_ne, ne_eq, Nat.reduceEqDiff, up_row, nI_1]
  exact ⟨_, _, rfl, rfl, ⟨hnb, hnl, hnr, htn, hda, hop, hdr, hqu, hai, hid, (eqR_up hac), hlk, hla, hks, hkm, hkh, hbg, hbd, (eqR_up hbo), hbl, (K_bg_sell hbb hb hbu hw), hst, hpw, hxb, hxk, hxr, ⟨eqR_up hxs.1, rngs_up hxs.2 ⟨3, by omega, by omega, rfl⟩⟩, hxf, hxl, hxc, hxi, (K_sale_sell hxp hb ⟨w, Nat.zero_le _, by omega, rfl⟩ hP), (K_sum_mv (u := 5) (w := 1) hsu hb (by rw [hs]; rfl) rfl), hM, (K_sb_sell hsb), hlo, hlb, hlf, hlh, hld, hlr, hcl⟩, rfl, (fr_up (fr_up (fr_up (fr_up (fr_up (fr_up (fr_up (fr_up (fr_up (fr_up (fr_rf _ _) (by decide)) (by decide)) (by decide)) (by decide)) (by decide)) (by decide)) (by decide)) (by decide)) (by decide)) (by decide)), (fr_up (fr_up (fr_up (fr_up (fr_up (fr_up (fr_up (fr_rf _ _) (by decide)) (by decide)) (by decide)) (by decide)) (by decide)) (by decide)) (by decide))⟩

