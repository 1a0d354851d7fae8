/-! the next lot comes to a clock -/
theorem bgL_o {h i a : Nat} {M : gq_M} (ha : a ≠ 116) : bgL h i M a = M a := if_neg ha
theorem bgR_o {h i a : Nat} {M : gq_M} (ha : a ≠ 40) (hb : a ≠ 43) : bgR h i M a = M a := (if_neg ha).trans (if_neg hb)
def hdN (L : List Nat) (d : Nat) : Nat := match L with
  | [] => d
  | b :: _ => b
def cmL (h : Nat) (c a v : Int32) (M : gq_M) : gq_M := bgL h 0 (gq_up (gq_up (gq_up (gq_up M 115 (8 * h) c) 115 (8 * h + 1) a) 115 (8 * h + 2) v) 115 (8 * h + 4) (-1))
def cmR (h : Nat) (c a v : Int32) (R : gq_M) : gq_M := bgR h (8 * h) (gq_up (gq_up (gq_up (gq_up R 36 h a) 35 h c) 37 h v) 39 h (-1))
section
variable {S : Nat → Prop} {N h nb nl nr tn dn : Nat} {M R : gq_M}
theorem l_comes_l (hh : h < 3) (hM : M 119 5 = nI nl) (hl : nl ≤ 40) (hB : ∀ k, k < nl → LT M R k) : ∀ (k i n9 : Nat), i + k = nl → k < n9 → f_L_comes_3 N n9 (nI h) (nI i) M = f_L_comes_42 N (nI h) (nI (hdN ((rg i k).filter (isNd (R 31) (R 32) h)) nl)) M := by
  intro k
  induction k with
  | zero =>
    intro i n9 hi h9
    obtain ⟨n9, rfl⟩ : ∃ z, n9 = z + 1 := ⟨n9 - 1, by omega⟩
    show f_L_comes_3_b N (f_L_comes_3 N n9) (nI h) (nI i) M = _
    unfold f_L_comes_3_b
    rw [gi5_56, cl5, gq_l_e, hM, if_pos (nI_le (by omega) (by omega))]
    rw [show i = nl by omega]
    rfl
  | succ k ih =>
    intro i n9 hi h9
    obtain ⟨n9, rfl⟩ : ∃ z, n9 = z + 1 := ⟨n9 - 1, by omega⟩
    obtain ⟨-, -, -, -, e5, e6⟩ := LT_l (hB i (by omega))
    show f_L_comes_3_b N (f_L_comes_3 N n9) (nI h) (nI i) M = _
    unfold f_L_comes_3_b f_L_comes_36
    rw [gi5_56, cl5, gq_l_e, hM, if_neg (nI_ge (by omega) (by omega)), g_inN (by omega) (by omega), gq_l_e, nI_clamp (by omega), e5, g_inN (by omega) (by omega), gq_l_e, nI_1, ih (i + 1) n9 (by omega) (by omega), rg_s, List.filter_cons]
    unfold isNd
    by_cases c1 : R 31 i = nI h
    · by_cases c2 : R 32 i = 0
      · rw [if_pos c1, if_pos (e6.mpr c2), if_pos (by simp [c1, c2])]
        rfl
      · rw [if_pos c1, if_neg (fun z => c2 (e6.mp z)), if_neg (by simp [c2])]
    · rw [if_neg c1, if_neg (by simp [c1])]
set_option maxHeartbeats 1000000 in
theorem l_comes0 (hh : h < 3) (hN : 600 ≤ N) (hM : M 119 5 = nI nl) (hl : nl ≤ 40) (hB : ∀ k, k < nl → LT M R k) (hT : (rg 0 nl).filter (isNd (R 31) (R 32) h) = []) : f_L_comes N (nI h) M = some (0, cmL h 0 (-1) 0 M) := by
  show f_L_comes_3 N N (nI h) (nI 0) M = _
  rw [l_comes_l hh hM hl hB nl 0 N (by omega) (by omega), hT]
  show f_L_comes_42 N (nI h) (nI nl) M = _
  unfold f_L_comes_42 f_L_comes_55 f_L_comes_73 f_L_comes_93 f_L_comes_137
  have e8 : 8 * nI h = nI (8 * h) := pl8z h
  have e1 : nI (8 * h) + 1 = nI (8 * h + 1) := nI_1 _
  have e2 : nI (8 * h) + 2 = nI (8 * h + 2) := by rw [show (2 : Int32) = nI 2 from rfl, nI_add]
  have e4 : nI (8 * h) + 4 = nI (8 * h + 4) := by rw [show (4 : Int32) = nI 4 from rfl, nI_add]
  simp (disch := omega) only [gi5_56, cl5, gq_l_e, hM, nI_leI, Nat.le_refl, ↓reduceIte, e8, e1, e2, e4, g_inN, nI_clamp, l_begins hh hN, gq_b_s]
  rfl
set_option maxHeartbeats 1000000 in
theorem l_comes1 {a x : Nat} {t : List Nat} (hh : h < 3) (hN : 600 ≤ N) (hM : M 119 5 = nI nl) (hl : nl ≤ 40) (hB : ∀ k, k < nl → LT M R k) (hT : (rg 0 nl).filter (isNd (R 31) (R 32) h) = a :: t) (hx : x < 4) (hk : R 28 a = nI x) : f_L_comes N (nI h) M = some (0, cmL h 1 (nI a) (M 119 (8 + x)) M) := by
  have ha : a < nl := by
    have : a ∈ (rg 0 nl).filter (isNd (R 31) (R 32) h) := by rw [hT]; exact List.mem_cons_self
    have := (rg_m.mp (List.mem_filter.mp this).1).2
    omega
  show f_L_comes_3 N N (nI h) (nI 0) M = _
  rw [l_comes_l hh hM hl hB nl 0 N (by omega) (by omega), hT]
  show f_L_comes_42 N (nI h) (nI a) M = _
  unfold f_L_comes_42 f_L_comes_55 f_L_comes_73 f_L_comes_93 f_L_comes_125 f_L_comes_137
  have e8 : 8 * nI h = nI (8 * h) := pl8z h
  have e1 : nI (8 * h) + 1 = nI (8 * h + 1) := nI_1 _
  have e2 : nI (8 * h) + 2 = nI (8 * h + 2) := by rw [show (2 : Int32) = nI 2 from rfl, nI_add]
  have e4 : nI (8 * h) + 4 = nI (8 * h + 4) := by rw [show (4 : Int32) = nI 4 from rfl, nI_add]
  have e5 := (LT_l (hB a ha)).2.1
  rw [hk] at e5
  have e6 : 8 + nI x = nI (8 + x) := by rw [show (8 : Int32) = nI 8 from rfl, nI_add]
  have hne : ¬ nl ≤ a := by omega
  simp (disch := omega) only [gi5_56, cl5, gq_l_e, hM, nI_leI, hne, ↓reduceIte, e8, e1, e2, e4, g_inN, nI_clamp, l_begins hh hN, gq_b_s, up_no, e5, e6, f10]
  rfl
theorem r_comes_e0 (hh : h < 3) (hN : 600 ≤ N) (hM : R 0 31 = nI nl) (hl : nl ≤ 150) (hT : (rg 0 nl).filter (isNd (R 31) (R 32) h) = []) : f_X10_comes N (nI h) R = some (0, cmR h 0 (-1) 0 R) := r_comes0 hh hN hM hl hT
theorem PR_bg (hh : h < 3) {M2 R2 : gq_M} (hM : ∀ a, 116 ≤ a → a ≤ 118 → M2 a = M a) (hR : ∀ a, 40 ≤ a → a ≤ 43 → R2 a = R a) (H : ∀ j, j < 24 → PR M R j) : ∀ j, j < 24 → PR (bgL h 0 M2) (bgR h (8 * h) R2) j := by
  intro j hj
  by_cases hc : 8 * h + 0 ≤ j ∧ j < 8 * h + 8
  · exact Or.inl ⟨blk_in (by omega), blk_in (by omega), blk_in hc⟩
  · refine PR_cg (H j hj) (fun a h1 h2 => ?_) (fun a h1 h2 => ?_)
    · by_cases e : a = 116
      · subst e
        exact (blk_out hc).trans (congrFun (hM 116 (by omega) (by omega)) j)
      · rw [bgL_o e, hM a h1 h2]
    · by_cases e : a = 40
      · subst e
        exact (blk_out (by omega)).trans (congrFun (hR 40 (by omega) (by omega)) j)
      · by_cases e2 : a = 43
        · subst e2
          exact (blk_out (by omega)).trans (congrFun (hR 43 (by omega) (by omega)) j)
        · rw [bgR_o e e2, hR a h1 h2]
set_option maxHeartbeats 1000000 in
/-- a hall's clock is laid anew on both sides -/
theorem pk_cm {c a v : Int32} (H : PK S nb nl nr tn dn M R) (hh : h < 3) (hat : a = -1 ∨ ∃ x, x < nl ∧ a = nI x ∧ R 32 x = 0 ∧ R 31 x = nI h) (hv : rng 0 10000 v) : PK (fun q => S q ∨ q = h) nb nl nr tn dn (cmL h c a v M) (cmR h c a v R) := by
  obtain ⟨hnb, hnl, hnr, htn, hdn, hop, hdr, hkd, hby, hqu, hbt, hha, hpr, hbx, hbz, hlt, hlo⟩ := H
  refine ⟨hnb, hnl, hnr, htn, hdn, hop, hdr, hkd, hby, hqu, hbt, fun q hq => ?_, PR_bg hh (fun a h1 h2 => ?_) (fun a h1 h2 => ?_) hpr, hbx, hbz, hlt, hlo⟩
  · obtain ⟨k1, k2⟩ := hha q hq
    refine ⟨HS_cg k1 (fun i h1 h2 => ?_) (fun a h1 => ?_), fun hs => ?_⟩
    · unfold cmL
      simp (disch := omega) only [bgL_o, up_no]
    · unfold cmR
      rcases h1 with rfl | rfl | rfl <;> simp (disch := omega) only [bgR_o, up_no]
    · by_cases hc : q = h
      · subst hc
        unfold cmL cmR
        refine ⟨?_, ?_, ?_, ?_, ?_, ?_, ?_⟩
        · simp (disch := omega) only [bgL_o, bgR_o, up_no, up_same]
        · simp (disch := omega) only [bgL_o, bgR_o, up_no, up_same]
        · simp (disch := omega) only [bgL_o, bgR_o, up_no, up_same]
        · simp (disch := omega) only [bgL_o, bgR_o, up_no, up_same]
        · simp (disch := omega) only [bgR_o, up_no, up_same]
          exact hat
        · refine Or.inl ?_
          simp (disch := omega) only [bgR_o, up_same]
        · simp (disch := omega) only [bgR_o, up_no, up_same]
          exact hv
      · refine HA_cg (k2 (hs.resolve_right hc)) (fun i h1 h2 => ?_) (fun a h1 h2 h3 => ?_) (Nat.le_refl _) (fun a h1 h2 h3 => ⟨?_, ?_⟩)
        · unfold cmL
          simp (disch := omega) only [bgL_o, up_no]
        · unfold cmR
          simp (disch := omega) only [bgR_o, up_no]
        · exact h2
        · exact h3
  · simp (disch := omega) only [up_ne]
  · simp (disch := omega) only [up_ne]
theorem s2_comes (H : PK S nb nl nr tn dn M R) (hh : h < 3) (hN : 600 ≤ N) : ∃ M2 R2, f_L_comes N (nI h) M = some (0, M2) ∧ f_X10_comes N (nI h) R = some (0, R2) ∧ PK (fun q => S q ∨ q = h) nb nl nr tn dn M2 R2 ∧ R2 0 = R 0 ∧ R2 19 = R 19 ∧ R2 26 = R 26 := by
  have H0 := H
  obtain ⟨hnb, hnl, hnr, htn, hdn, hop, hdr, hkd, hby, hqu, hbt, hha, hpr, hbx, hbz, hlt, hlo⟩ := H0
  have hl : nl ≤ 40 := by omega
  cases hT : (rg 0 nl).filter (isNd (R 31) (R 32) h) with
  | nil => exact ⟨_, _, l_comes0 hh hN hnl.1 hl hlt hT, r_comes0 hh hN hnl.2.1 (by omega) hT, pk_cm H hh (Or.inl rfl) ⟨0, by omega, by omega, rfl⟩, rfl, rfl, rfl⟩
  | cons a t =>
    have hm : a ∈ (rg 0 nl).filter (isNd (R 31) (R 32) h) := by rw [hT]; exact List.mem_cons_self
    obtain ⟨hm1, hm2⟩ := List.mem_filter.mp hm
    have ha := (rg_m.mp hm1).2
    obtain ⟨hm3, hm4⟩ := of_decide_eq_true hm2
    obtain ⟨bo, ki, si, fr, hal, dnl, q1, q2, q3⟩ := hlt a (by omega)
    obtain ⟨g1, -, -, g4, -⟩ := hkd ki q1.2.1
    obtain ⟨p, p1, p2, p3⟩ := g4
    have e1 := l_comes1 hh hN hnl.1 hl hlt hT q1.2.1 q2.2.1
    rw [g1] at e1
    exact ⟨_, _, e1, r_comes1 hh hN hnl.2.1 (by omega) hT q1.2.1 q2.2.1, pk_cm H hh (Or.inr ⟨a, by omega, rfl, hm4, hm3⟩) ⟨p, by omega, p2, p3⟩, rfl, rfl, rfl⟩
theorem pk_S {S2 : Nat → Prop} (H : PK S nb nl nr tn dn M R) (h : ∀ q, q < 3 → S2 q → S q) : PK S2 nb nl nr tn dn M R := by
  obtain ⟨hnb, hnl, hnr, htn, hdn, hop, hdr, hkd, hby, hqu, hbt, hha, hpr, hbx, hbz, hlt, hlo⟩ := H
  exact ⟨hnb, hnl, hnr, htn, hdn, hop, hdr, hkd, hby, hqu, hbt, fun q hq => ⟨(hha q hq).1, fun z => (hha q hq).2 (h q hq z)⟩, hpr, hbx, hbz, hlt, hlo⟩
end

