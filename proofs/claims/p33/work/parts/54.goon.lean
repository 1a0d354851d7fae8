/-! pure: a hall goes on -/
theorem filter_head {p : Nat → Bool} {a : Nat} {t : List Nat} : ∀ (k i : Nat), (rg i k).filter p = a :: t → p a = true ∧ i ≤ a ∧ a < i + k ∧ (∀ l, i ≤ l → l < a → p l = false) := by
  intro k
  induction k with
  | zero => intro i h; cases h
  | succ k ih =>
    intro i h
    rw [rg_s, List.filter_cons] at h
    by_cases c : p i = true
    · rw [if_pos c] at h
      obtain ⟨rfl, -⟩ := List.cons.inj h
      exact ⟨c, Nat.le_refl _, by omega, fun l h1 h2 => by omega⟩
    · rw [if_neg c] at h
      obtain ⟨h1, h2, h3, h4⟩ := ih (i + 1) h
      refine ⟨h1, by omega, by omega, fun l h5 h6 => ?_⟩
      by_cases hl : l = i
      · subst hl; exact Bool.eq_false_iff.mpr c
      · exact h4 l (by omega) h6
theorem filter_nil' {p : Nat → Bool} {i k : Nat} (h : (rg i k).filter p = []) : ∀ l, i ≤ l → l < i + k → p l = false := fun l h1 h2 => Bool.eq_false_iff.mpr (List.filter_eq_nil_iff.mp h l (rg_m.mpr ⟨h1, h2⟩))
abbrev fbC : List Nat := [78, 80, 82, 84, 99]
abbrev fbR : List Nat := [35, 36, 37, 39, 40, 43]
theorem fr_fg {L : List Nat} {M M2 : gq_M} {h i : Nat} (hf : fr L M M2) (hk : 99 ∈ L) : fr L M (fgC h i M2) := fun a ha => (if_neg (fun hh => ha (by rw [hh]; exact hk))).trans (hf a ha)
theorem fr_bg {L : List Nat} {M M2 : gq_M} {h i : Nat} (hf : fr L M M2) (hk : 40 ∈ L) (hk2 : 43 ∈ L) : fr L M (bgR h i M2) := fun a ha => ((if_neg (fun hh => ha (by rw [hh]; exact hk))).trans (if_neg (fun hh => ha (by rw [hh]; exact hk2)))).trans (hf a ha)
theorem prs_empty {h tn : Nat} {a b e f : Nat → Int32} {c d g : Nat → Int32} : K_prs h tn 1 a b (blk (8 * h + 0) (8 * h + 8) (-1) c) (blk (8 * h) (8 * h + 8) (-1) d) e f (blk (8 * h) (8 * h + 8) 0 g) := fun j hj => Or.inl ⟨blk_in (by omega), blk_in (by omega), blk_in (by omega)⟩
/-- what a hall's other pieces keep, while this hall's cells change -/
def oth (h nb nl tn : Nat) (C R C2 R2 : gq_M) : Prop := ∀ h2, h2 < 3 → h2 ≠ h → K_hall h2 nb nl tn C R → K_hall h2 nb nl tn C2 R2


set_option maxHeartbeats 1000000 in
theorem s_bring {N h nb nl nr tn : Nat} {C R : gq_M} (H : CORE nb nl nr tn C R) (hN : 600 ≤ N) (hh : h < 3) (hcnt : C 86 h = nI (cnt (rg 0 nl) (isNd (R 31) (R 32) h))) (hne : ∀ l, l < nl → isNd (R 31) (R 32) h l = true → offl nb (R 26) (R 19) l ≠ []) (hmono : ∀ l l2, l ≤ l2 → l2 < nl → isNd (R 31) (R 32) h l = true → R 31 l2 = nI h → R 32 l2 = 0) : ∃ C1 C2 R2, f_X9_bringToClock N (nI h) (hd ((rg 0 nl).filter (isNd (R 31) (R 32) h)) (-1)) C = some (0, C1) ∧ f_X9_beginRound N (nI h) C1 = some (0, C2) ∧ f_X10_comes N (nI h) R = some (0, R2) ∧ CORE nb nl nr tn C2 R2 ∧ K_hall h nb nl tn C2 R2 ∧ oth h nb nl tn C R C2 R2 ∧ fr fbC C C2 ∧ fr fbR R R2 := by
  have H0 := H
  obtain ⟨hnb, hnl, hnr, htn, hda, hop, hdr, hqu, hai, hid, hac, hlk, hla, hks, hkm, hkh, hbg, hbd, hbo, hbl, hbb, hst, hpw, hxb, hxk, hxr, hxs, hxf, hxl, hxc, hxi, hxp, hsu, hmo, hsb, hlo, hlb, hlf, hlh, hld, hlr, hcl⟩ := H0
  have hb150 := hnb.2.2
  have hl150 := hnl.2.2
  cases hT : (rg 0 nl).filter (isNd (R 31) (R 32) h) with
  | nil =>
    have hz := filter_nil' hT
    refine ⟨_, _, _, m_bring0 hh, m_begin0 hh hN (by rw [up_ne (by decide), up_row, upd_s]), r_comes0 hh hN hnl.2.1 (by omega) hT, ⟨hnb, hnl, hnr, htn, hda, hop, hdr, hqu, hai, hid, hac, hlk, hla, hks, hkm, hkh, hbg, hbd, hbo, hbl, hbb, hst, hpw, hxb, hxk, hxr, hxs, hxf, hxl, hxc, hxi, hxp, hsu, hmo, hsb, hlo, hlb, hlf, hlh, hld, hlr, hcl⟩, ?_, ?_, fr_fg (fr_up (fr_up (fr_up (fr_up (fr_rf _ _) (by decide)) (by decide)) (by decide)) (by decide)) (by decide), fr_bg (fr_up (fr_up (fr_up (fr_up (fr_rf _ _) (by decide)) (by decide)) (by decide)) (by decide)) (by decide) (by decide)⟩
    · exact ⟨(upd_s _ _ _).trans (upd_s _ _ _).symm, (upd_s _ _ _).trans (upd_s _ _ _).symm, (upd_s _ _ _).trans (upd_s _ _ _).symm, (upd_s _ _ _).trans (upd_s _ _ _).symm, hcnt, hne, Or.inl ⟨upd_s _ _ _, upd_s _ _ _, upd_s _ _ _, upd_s _ _ _, fun l hl => hz l (Nat.zero_le _) (by omega)⟩⟩
    · intro h2 hh2 hn2 k
      exact hall_fr k (upd_n hn2) (upd_n hn2) (upd_n hn2) (upd_n hn2) rfl rfl (upd_n hn2) (upd_n hn2) (upd_n hn2) (upd_n hn2) rfl (fun _ _ => rfl) (fun _ _ _ => rfl) (fun _ _ _ q => q) (Nat.le_refl _) (fun j hj => ⟨rfl, rfl, blk_out (by omega), blk_out (by omega), rfl, rfl, blk_out (by omega)⟩)
  | cons a t =>
    obtain ⟨p1, -, p3, p4⟩ := filter_head nl 0 hT
    obtain ⟨p5, p6⟩ := of_decide_eq_true p1
    obtain ⟨x, y, z, hx, hy, hz1, hz2, e1, e2, e3, e4⟩ := hlf a (by omega)
    have hr : C 65 a / 27 = nI x := (rk_k hlf (b := a) (by omega)).1.trans e1
    obtain ⟨p, hp1, hp2, hp⟩ := hks.2 x hx
    have hpc : C 18 x = R 6 x := hks.1 x hx
    refine ⟨_, _, _, m_bring1 hh (by omega) hx hr, m_begin1 hh hN (by rw [up_ne (by decide), up_row, upd_s]; exact nI_m1 (by omega)), r_comes1 hh hN hnl.2.1 (by omega) hT hx e1, ⟨hnb, hnl, hnr, htn, hda, hop, hdr, hqu, hai, hid, hac, hlk, hla, hks, hkm, hkh, hbg, hbd, hbo, hbl, hbb, hst, hpw, hxb, hxk, hxr, hxs, hxf, hxl, hxc, hxi, hxp, hsu, hmo, hsb, hlo, hlb, hlf, hlh, hld, hlr, hcl⟩, ?_, ?_, fr_fg (fr_up (fr_up (fr_up (fr_up (fr_rf _ _) (by decide)) (by decide)) (by decide)) (by decide)) (by decide), fr_bg (fr_up (fr_up (fr_up (fr_up (fr_rf _ _) (by decide)) (by decide)) (by decide)) (by decide)) (by decide) (by decide)⟩
    · refine ⟨(upd_s _ _ _).trans (upd_s _ _ _).symm, (upd_s _ _ _).trans (upd_s _ _ _).symm, ((upd_s _ _ _).trans hpc).trans (upd_s _ _ _).symm, (upd_s _ _ _).trans (upd_s _ _ _).symm, hcnt, hne, Or.inr ⟨a, p, by omega, upd_s _ _ _, p5, fun l hl hlh => ?_, (upd_s _ _ _).trans hp, hp1, hp2, Or.inl ⟨upd_s _ _ _, upd_s _ _ _, prs_empty⟩⟩⟩
      constructor
      · intro hd
        refine Nat.le_of_not_lt fun hlq => ?_
        have := p4 l (Nat.zero_le _) hlq
        have h9 : isNd (R 31) (R 32) h l = true := decide_eq_true ⟨hlh, hd⟩
        rw [this] at h9
        cases h9
      · intro hal
        exact hmono a l hal hl p1 hlh
    · intro h2 hh2 hn2 k
      exact hall_fr k (upd_n hn2) (upd_n hn2) (upd_n hn2) (upd_n hn2) rfl rfl (upd_n hn2) (upd_n hn2) (upd_n hn2) (upd_n hn2) rfl (fun _ _ => rfl) (fun _ _ _ => rfl) (fun _ _ _ q => q) (Nat.le_refl _) (fun j hj => ⟨rfl, rfl, blk_out (by omega), blk_out (by omega), rfl, rfl, blk_out (by omega)⟩)


set_option maxHeartbeats 1000000 in
theorem s_ends {N h a nb nl nr tn : Nat} {C R : gq_M} (H : CORE nb nl nr tn C R) (hN : 600 ≤ N) (hh : h < 3) (ha : a < nl) (hC : C 80 h = nI a) (hR : R 36 h = nI a) (hlq : R 31 a = nI h) (hiff : ∀ l, l < nl → R 31 l = nI h → (R 32 l = 0 ↔ a ≤ l)) (hcnt : C 86 h = nI (cnt (rg 0 nl) (isNd (R 31) (R 32) h))) (hne : ∀ l, l < nl → l ≠ a → isNd (R 31) (R 32) h l = true → offl nb (R 26) (R 19) l ≠ []) (hz : C 71 a = C 69 a) : ∃ C2 R2, f_X9_goOn N (nI h) C = some (0, C2) ∧ f_X10_ends N (nI h) R = some (0, R2) ∧ CORE nb nl nr tn C2 R2 ∧ K_hall h nb nl tn C2 R2 ∧ oth h nb nl tn C R C2 R2 ∧ fr (86 :: fbC) C C2 ∧ fr (32 :: fbR) R R2 := by
  have H0 := H
  obtain ⟨hnb, hnl, hnr, htn, hda, hop, hdr, hqu, hai, hid, hac, hlk, hla, hks, hkm, hkh, hbg, hbd, hbo, hbl, hbb, hst, hpw, hxb, hxk, hxr, hxs, hxf, hxl, hxc, hxi, hxp, hsu, hmo, hsb, hlo, hlb, hlf, hlh, hld, hlr, hcl⟩ := H0
  have hb150 := hnb.2.2
  have hl150 := hnl.2.2
  have hd0 : R 32 a = 0 := (hiff a ha hlq).mpr (Nat.le_refl _)
  have hnd : ∀ l, l < nl → isNd (R 31) (upd (R 32) a 1) h l = decide (R 31 l = nI h ∧ a < l) := fun l hl => by
    unfold isNd
    by_cases hq : R 31 l = nI h
    · by_cases hla2 : l = a
      · subst hla2
        rw [upd_s]
        simp
      · rw [upd_n hla2]
        have := hiff l hl hq
        by_cases hdl : R 32 l = 0
        · have := this.mp hdl
          simp [hq, hdl]; omega
        · have h5 : ¬ a < l := fun h6 => hdl (this.mpr (by omega))
          simp [hdl, h5]
    · simp [hq]
  have hT : (rg 0 nl).filter (isNd (R 31) (upd (R 32) a 1) h) = (rg (a + 1) (nl - (a + 1))).filter fun l => decide (C 67 l = nI h) := by
    have hs : rg 0 nl = rg 0 (a + 1) ++ rg (a + 1) (nl - (a + 1)) := by
      have := List.range'_append (s := 0) (m := a + 1) (n := nl - (a + 1)) (step := 1)
      rw [show 0 + 1 * (a + 1) = a + 1 by omega, show a + 1 + (nl - (a + 1)) = nl by omega] at this
      exact this.symm
    rw [hs, List.filter_append]
    have h1 : (rg 0 (a + 1)).filter (isNd (R 31) (upd (R 32) a 1) h) = [] := List.filter_eq_nil_iff.mpr fun l hl => by
      have := (rg_m.mp hl).2
      rw [hnd l (by omega)]
      simp
      intro _; omega
    rw [h1, List.nil_append]
    exact List.filter_congr fun l hl => by
      have := rg_m.mp hl
      rw [hnd l (by omega), hlh.1 l (by omega)]
      have h5 : a < l := by omega
      simp [h5]
  have hcn := cnt_ch (p := isNd (R 31) (R 32) h) (q := isNd (R 31) (upd (R 32) a 1) h) (j := a) (fun b hb => by unfold isNd; rw [upd_n hb]) nl 0 (Nat.zero_le _) (by omega)
  rw [hnd a ha, if_pos (show isNd (R 31) (R 32) h a = true from decide_eq_true ⟨hlq, hd0⟩), if_neg (by simp)] at hcn
  have Hm : CORE nb nl nr tn (gq_up C 86 h (C 86 h + -1)) (gq_up R 32 a 1) := ⟨hnb, hnl, hnr, htn, hda, hop, hdr, hqu, hai, hid, hac, hlk, hla, hks, hkm, hkh, hbg, hbd, hbo, hbl, hbb, hst, hpw, hxb, hxk, hxr, hxs, hxf, hxl, hxc, hxi, hxp, hsu, hmo, hsb, hlo, hlb, hlf, hlh, (bits_up hld (Or.inr rfl)), hlr, hcl⟩
  have hc2 : C 86 h + -1 = nI (cnt (rg 0 nl) (isNd (R 31) (upd (R 32) a 1) h)) := by
    have hcn2 : cnt (rg 0 nl) (isNd (R 31) (upd (R 32) a 1) h) + 1 = cnt (rg 0 nl) (isNd (R 31) (R 32) h) := hcn
    rw [hcnt, ← hcn2]
    exact (Int32.sub_eq_add_neg _ _).symm.trans (nI_pred _)
  obtain ⟨C1, C2, R2, e1, e2, e3, H2, K2, O2, f1, f2⟩ := s_bring (N := N) (h := h) Hm hN hh ((upd_s _ _ _).trans hc2) (fun l hl hd => by
    have hd' : isNd (R 31) (upd (R 32) a 1) h l = true := hd
    rw [hnd l hl] at hd'
    obtain ⟨d1, d2⟩ := of_decide_eq_true hd'
    exact hne l hl (by omega) (decide_eq_true ⟨d1, (hiff l hl d1).mpr (by omega)⟩)) (fun l l2 h1 h2 h3 h4 => by
    have h3' : isNd (R 31) (upd (R 32) a 1) h l = true := h3
    rw [hnd l (by omega)] at h3'
    obtain ⟨d1, d2⟩ := of_decide_eq_true h3'
    show upd (R 32) a 1 l2 = 0
    rw [upd_n (by omega)]
    exact (hiff l2 h2 h4).mpr (by omega))
  have e1' : f_X9_bringToClock N (nI h) (hd ((rg (a + 1) (nl - (a + 1))).filter fun l => decide (C 67 l = nI h)) (-1)) (gq_up C 86 h (C 86 h + -1)) = some (0, C1) := by rw [← hT]; exact e1
  have en : f_X6_nextIn N (nI h) (nI a) (gq_up C 86 h (C 86 h + -1)) = some (hd ((rg (a + 1) (nl - (a + 1))).filter fun l => decide (C 67 l = nI h)) (-1), gq_up C 86 h (C 86 h + -1)) := by
    unfold f_X6_nextIn
    rw [nI_1]
    exact m_next_l (M := gq_up C 86 h (C 86 h + -1)) hnl.1 (by omega) (nl - (a + 1)) (a + 1) N (by omega) (by omega)
  refine ⟨C2, R2, ?_, ?_, H2, K2, ?_, ?_, ?_⟩
  · unfold f_X9_goOn f_X6_left f_X9_goOn_49
    simp (disch := omega) only [↓b_atN, hC, ↓gq_b_s, hz, Int32.sub_self, ↓reduceIte, ↓b_addN, en, e1', e2]
  · unfold f_X10_ends
    simp (disch := omega) only [↓g_inN, ↓gq_l_e, g_inN, nI_clamp, hR, e3, ↓gq_b_s]
  · intro h2 hh2 hn2 k
    refine O2 h2 hh2 hn2 (hall_fr k rfl rfl rfl rfl (upd_n hn2) rfl rfl rfl rfl rfl rfl (fun _ _ => rfl) (fun l hl hq => upd_n (fun hla2 => ?_)) (fun _ _ _ q => q) (Nat.le_refl _) (fun j hj => ⟨rfl, rfl, rfl, rfl, rfl, rfl, rfl⟩))
    subst hla2
    rw [hlq] at hq
    exact hn2 ((nI_eq (by omega) (by omega)).mp hq).symm
  · exact fr_tr (fr_up (fr_rf _ _) (by decide)) (fr_sub f1 fun a ha => List.mem_cons_of_mem _ ha)
  · exact fr_tr (fr_up (fr_rf _ _) (by decide)) (fr_sub f2 fun a ha => List.mem_cons_of_mem _ ha)
set_option maxHeartbeats 1000000 in
theorem s_again {N h nb nl nr tn a p : Nat} {C R : gq_M} (H : CORE nb nl nr tn C R) (hN : 600 ≤ N) (hh : h < 3) (ha : a < nl) (hC : C 80 h = nI a) (hR : R 36 h = nI a) (hlq : R 31 a = nI h) (hiff : ∀ l, l < nl → R 31 l = nI h → (R 32 l = 0 ↔ a ≤ l)) (hcnt : C 86 h = nI (cnt (rg 0 nl) (isNd (R 31) (R 32) h))) (hne : ∀ l, l < nl → isNd (R 31) (R 32) h l = true → offl nb (R 26) (R 19) l ≠ []) (hpC : C 82 h = nI p) (hpR : R 37 h = nI p) (hp1 : 1 ≤ p) (hp2 : p ≤ 10000) : ∃ C2 R2, f_X9_beginRound N (nI h) C = some (0, C2) ∧ f_X10_begins N (nI h) (gq_up (gq_up R 35 h 1) 39 h (-1)) = some (0, R2) ∧ CORE nb nl nr tn C2 R2 ∧ K_hall h nb nl tn C2 R2 ∧ oth h nb nl tn C R C2 R2 ∧ fr fbC C C2 ∧ fr fbR R R2 := by
  have H0 := H
  obtain ⟨hnb, hnl, hnr, htn, hda, hop, hdr, hqu, hai, hid, hac, hlk, hla, hks, hkm, hkh, hbg, hbd, hbo, hbl, hbb, hst, hpw, hxb, hxk, hxr, hxs, hxf, hxl, hxc, hxi, hxp, hsu, hmo, hsb, hlo, hlb, hlf, hlh, hld, hlr, hcl⟩ := H0
  have hb150 := hnb.2.2
  have hl150 := hnl.2.2
  refine ⟨_, _, m_begin1 hh hN (by rw [hC]; exact nI_m1 (by omega)), r_begins hh hN, ⟨hnb, hnl, hnr, htn, hda, hop, hdr, hqu, hai, hid, hac, hlk, hla, hks, hkm, hkh, hbg, hbd, hbo, hbl, hbb, hst, hpw, hxb, hxk, hxr, hxs, hxf, hxl, hxc, hxi, hxp, hsu, hmo, hsb, hlo, hlb, hlf, hlh, hld, hlr, hcl⟩, ?_, ?_, fr_fg (fr_up (fr_up (fr_rf _ _) (by decide)) (by decide)) (by decide), fr_bg (fr_up (fr_up (fr_rf _ _) (by decide)) (by decide)) (by decide) (by decide)⟩
  · exact ⟨(upd_s _ _ _).trans (upd_s _ _ _).symm, hC.trans hR.symm, hpC.trans hpR.symm, (upd_s _ _ _).trans (upd_s _ _ _).symm, hcnt, hne, Or.inr ⟨a, p, ha, hR, hlq, hiff, hpR, hp1, hp2, Or.inl ⟨upd_s _ _ _, upd_s _ _ _, prs_empty⟩⟩⟩
  · intro h2 hh2 hn2 k
    exact hall_fr k (upd_n hn2) rfl rfl (upd_n hn2) rfl rfl (upd_n hn2) rfl rfl (upd_n hn2) rfl (fun _ _ => rfl) (fun _ _ _ => rfl) (fun _ _ _ q => q) (Nat.le_refl _) (fun j hj => ⟨rfl, rfl, blk_out (by omega), blk_out (by omega), rfl, rfl, blk_out (by omega)⟩)

