/-! pure: a boat's boxes are offered, on both sides -/
theorem LN_lt {nl r : Nat} {cr : Nat → Nat} (hr : r < 108) (h0 : 0 < cr r) : LNf nl cr r < LNf nl cr 108 := by
  have := cnt_lt (ps_t.mpr h0) 108 hr
  unfold LNf
  omega
theorem LN_inj {nl r1 r2 : Nat} {cr : Nat → Nat} (h1 : 0 < cr r1) (h2 : 0 < cr r2) (h : LNf nl cr r1 = LNf nl cr r2) : r1 = r2 := by
  unfold LNf at h
  rcases Nat.lt_trichotomy r1 r2 with g | g | g
  · have := cnt_lt (ps_t.mpr h1) r2 g; omega
  · exact g
  · have := cnt_lt (ps_t.mpr h2) r1 g; omega
theorem LN_sur {nl l : Nat} {cr : Nat → Nat} (h1 : nl ≤ l) (h2 : l < LNf nl cr 108) : ∃ r, r < 108 ∧ 0 < cr r ∧ l = LNf nl cr r := by
  unfold LNf at h2
  obtain ⟨r, g1, g2, g3⟩ := cnt_sur (p := ps cr) 108 (l - nl) (by omega)
  exact ⟨r, g1, ps_t.mp g2, by unfold LNf; omega⟩
theorem LN_ge {nl r : Nat} {cr : Nat → Nat} : nl ≤ LNf nl cr r := Nat.le_add_right _ _
theorem cr_pos {nb b : Nat} {W : Nat → Bool} {rn : Nat → Nat} (hb : b < nb) (hw : W b = true) : 0 < crF nb W rn (rn b) := cnt_pos (b := b) (rg_m.mpr ⟨Nat.zero_le _, by omega⟩) (wr_t.mpr ⟨hw, rfl⟩)
theorem no2 {v : Int32} (h : v = 0 ∨ v = 6) : v ≠ 2 := by rcases h with rfl | rfl <;> decide
theorem offl_old {nb nl g : Nat} {W : Nat → Bool} {rn : Nat → Nat} {st lo bo st2 lo2 : Nat → Int32} (hW : ∀ b, b < nb → (W b = true ↔ ((st b = 0 ∨ st b = 6) ∧ bo b = nI g))) (hS : ∀ b, b < nb → st2 b = if W b = true then 2 else st b) (hL : ∀ b, b < nb → lo2 b = if W b = true then nI (LNf nl (crF nb W rn) (rn b)) else lo b) (hrn : ∀ b, b < nb → rn b < 108) (h150 : LNf nl (crF nb W rn) 108 ≤ 150) {l : Nat} (hl : l < nl) : offl nb lo2 st2 l = offl nb lo st l := by
  unfold offl
  refine List.filter_congr fun b hb => ?_
  have hb := (rg_m.mp hb).2
  have hb : b < nb := by omega
  by_cases hw : W b = true
  · have h3 := LN_lt (nl := nl) (hrn b hb) (cr_pos (rn := rn) hb hw)
    have h4 : nl ≤ LNf nl (crF nb W rn) (rn b) := LN_ge
    rw [hL b hb, if_pos hw, decide_eq_false (fun h => by have := (nI_eq (by omega) (by omega)).mp h.1; omega), decide_eq_false (fun h => no2 ((hW b hb).mp hw).1 h.2)]
  · rw [hL b hb, hS b hb, if_neg hw, if_neg hw]
theorem offl_new {nb nl g : Nat} {W : Nat → Bool} {rn : Nat → Nat} {st lo bo st2 lo2 : Nat → Int32} (hW : ∀ b, b < nb → (W b = true ↔ ((st b = 0 ∨ st b = 6) ∧ bo b = nI g))) (hS : ∀ b, b < nb → st2 b = if W b = true then 2 else st b) (hL : ∀ b, b < nb → lo2 b = if W b = true then nI (LNf nl (crF nb W rn) (rn b)) else lo b) (hlr : ∀ b, b < nb → lo b = -1 ∨ ∃ l, l < nl ∧ lo b = nI l) (hrn : ∀ b, b < nb → rn b < 108) (h150 : LNf nl (crF nb W rn) 108 ≤ 150) {r : Nat} (hr : r < 108) (h0 : 0 < crF nb W rn r) : offl nb lo2 st2 (LNf nl (crF nb W rn) r) = (rg 0 nb).filter (wr W rn r) := by
  unfold offl
  refine List.filter_congr fun b hb => ?_
  have hb := (rg_m.mp hb).2
  have hb : b < nb := by omega
  have g1 := LN_lt (nl := nl) hr h0
  have g2 : nl ≤ LNf nl (crF nb W rn) r := LN_ge
  rw [Bool.eq_iff_iff, decide_eq_true_iff, wr_t]
  by_cases hw : W b = true
  · have h3 := LN_lt (nl := nl) (hrn b hb) (cr_pos (rn := rn) hb hw)
    rw [hL b hb, hS b hb, if_pos hw, if_pos hw, nI_eq (by omega) (by omega)]
    exact ⟨fun h => ⟨hw, LN_inj (cr_pos (rn := rn) hb hw) h0 h.1⟩, fun h => ⟨by rw [h.2], rfl⟩⟩
  · rw [hL b hb, if_neg hw]
    refine ⟨fun h => ?_, fun h => absurd h.1 hw⟩
    rcases hlr b hb with h5 | ⟨l, h6, h7⟩
    · exact absurd (h.1.symm.trans h5) (nI_m1 (by omega))
    · have := (nI_eq (by omega) (by omega)).mp (h.1.symm.trans h7)
      omega
theorem wait_g {nb g : Nat} {W : Nat → Bool} {st bo st2 : Nat → Int32} (hW : ∀ b, b < nb → (W b = true ↔ ((st b = 0 ∨ st b = 6) ∧ bo b = nI g))) (hS : ∀ b, b < nb → st2 b = if W b = true then 2 else st b) : cnt (rg 0 nb) (wb st2 bo g) = 0 := by
  refine cnt_z fun b hb => ?_
  have hb := (rg_m.mp hb).2
  have hb : b < nb := by omega
  unfold wb
  by_cases hw : W b = true
  · rw [hS b hb, if_pos hw]
    exact decide_eq_false (fun h => by rcases h.1 with h | h <;> exact absurd h (by decide))
  · rw [hS b hb, if_neg hw]
    exact decide_eq_false (fun h => hw ((hW b hb).mpr h))
theorem wait_j {nb g j : Nat} {W : Nat → Bool} {st bo st2 : Nat → Int32} (hW : ∀ b, b < nb → (W b = true ↔ ((st b = 0 ∨ st b = 6) ∧ bo b = nI g))) (hS : ∀ b, b < nb → st2 b = if W b = true then 2 else st b) (hg : g < 8) (hj : j < 8) (hne : j ≠ g) : cnt (rg 0 nb) (wb st2 bo j) = cnt (rg 0 nb) (wb st bo j) := by
  refine cnt_congr fun b hb => ?_
  have hb := (rg_m.mp hb).2
  have hb : b < nb := by omega
  unfold wb
  by_cases hw : W b = true
  · have hbo := ((hW b hb).mp hw).2
    have hn : ¬ bo b = nI j := fun h => hne ((nI_eq (by omega) (by omega)).mp (h.symm.trans hbo))
    rw [decide_eq_false (fun h => hn h.2), decide_eq_false (fun h => hn h.2)]
  · rw [hS b hb, if_neg hw]
theorem isW_part {nb g : Nat} {W : Nat → Bool} {st bo st2 : Nat → Int32} (hW : ∀ b, b < nb → (W b = true ↔ ((st b = 0 ∨ st b = 6) ∧ bo b = nI g))) (hS : ∀ b, b < nb → st2 b = if W b = true then 2 else st b) : cnt (rg 0 nb) (isW st) = cnt (rg 0 nb) W + cnt (rg 0 nb) (isW st2) := by
  refine cnt_part fun b hb => ?_
  have hb := (rg_m.mp hb).2
  have hb : b < nb := by omega
  unfold isW
  by_cases hw : W b = true
  · have h2 : ¬ (st2 b = 0 ∨ st2 b = 6) := fun h => by
      rw [hS b hb, if_pos hw] at h
      rcases h with h | h <;> exact absurd h (by decide)
    rw [decide_eq_true ((hW b hb).mp hw).1, decide_eq_false h2]
    exact ⟨⟨fun _ => Or.inl hw, fun _ => rfl⟩, fun h => absurd h.2 (by decide)⟩
  · rw [hS b hb, if_neg hw]
    exact ⟨⟨Or.inr, fun h => h.elim (fun h => absurd h hw) id⟩, fun h => hw h.1⟩
theorem inS_w {v : Int32} {w : Nat} (h : v = 0 ∨ v = 6) : inS 2 w = inS v w := by
  rcases h with rfl | rfl <;> rfl
theorem isSd_w {v : Int32} (h : v = 0 ∨ v = 6) : isSd v = false := by
  rcases h with rfl | rfl <;> decide
def ovO (g M : gq_M) : gq_M := fun a => if a = 15 then g a else if a = 44 then g a else if a = 46 then g a else if a = 60 then g a else if a = 61 then g a else if a = 63 then g a else if a = 65 then g a else if a = 67 then g a else if a = 69 then g a else if a = 71 then g a else if a = 73 then g a else if a = 75 then g a else M a
def ovP (g M : gq_M) : gq_M := fun a => if a = 19 then g a else if a = 26 then g a else if a = 27 then g a else if a = 28 then g a else if a = 29 then g a else if a = 30 then g a else if a = 31 then g a else if a = 32 then g a else M a
theorem ovO_eq {M M2 : gq_M} (h : fr fbtC M M2) : M2 = ovO M2 M := by
  funext a
  unfold ovO
  repeat' split
  all_goals first | rfl | (refine h a fun hh => ?_; simp_all)
theorem ovP_eq {M M2 : gq_M} {v : Int32} (h : fr fpR M M2) (h0 : M2 0 = upd (M 0) 31 v) : M2 = ovP M2 (gq_up M 0 31 v) := by
  funext a
  by_cases ha : a = 0
  · subst ha; exact h0
  · unfold ovP
    repeat' split
    all_goals first | rfl | (rw [up_ne ha]; refine h a fun hh => ?_; simp_all)
theorem rk_of {n : Nat} {c k s f : Nat → Int32} (h : K_rk n c k s f) {b : Nat} (hb : b < n) : (c b).toNatClampNeg < 108 ∧ c b = nI (c b).toNatClampNeg ∧ ∀ r, r < 108 → ((k b = nI (r / 27) ∧ s b = nI (r / 9 % 3) ∧ f b = nI (9 - r % 9)) ↔ (c b).toNatClampNeg = r) := by
  obtain ⟨x, y, z, hx, hy, hz1, hz2, e1, e2, e3, e4⟩ := h b hb
  rw [e1, e2, e3, e4, nI_clamp (by omega)]
  refine ⟨by omega, rfl, fun r hr => ?_⟩
  rw [nI_eq (by omega) (by omega), nI_eq (by omega) (by omega), nI_eq (by omega) (by omega)]
  omega
def K_sgr (nb nl res : Nat) (fi be od lo st : Nat → Int32) : Prop := ∀ l, l < nl → ∃ f : Nat, fi l = nI f ∧ be l = nI (f + (offl nb lo st l).length) ∧ f + (offl nb lo st l).length ≤ res ∧ ∀ i b, (offl nb lo st l)[i]? = some b → od (f + i) = nI b
def MID (nb nl nr tn res : Nat) (C R : gq_M) : Prop := CORE nb nl nr tn C R ∧ (∀ j, j < 8 → C 15 j = nI (cnt (rg 0 nb) (wb (R 19) (R 13) j))) ∧ (C 61 8 = nI res ∧ nl ≤ res ∧ res + cnt (rg 0 nb) (isW (R 19)) ≤ nb) ∧ K_sgr nb nl res (C 69) (C 71) (C 73) (R 26) (R 19) ∧ (∀ l, l < nl → R 32 l = 0) ∧ (∀ l, l < nl → offl nb (R 26) (R 19) l ≠ []) ∧ R 0 2 = 1 ∧ R 0 54 = 0
set_option maxHeartbeats 2000000 in
theorem s_offer {N nb nl nr tn res g : Nat} {C R : gq_M} (hN : 600 ≤ N) (hg : g < 8) (M : MID nb nl nr tn res C R) : ∃ C2 R2 nl2 res2, f_X9_offerBoat N (nI g) C = some (0, C2) ∧ f_X10_parts N (nI g) R = some (0, R2) ∧ MID nb nl2 nr tn res2 C2 R2 ∧ R2 4 = R 4 ∧ cnt (rg 0 nb) (wb (R2 19) (R2 13) g) = 0 ∧ ∀ j, j < 8 → j ≠ g → cnt (rg 0 nb) (wb (R2 19) (R2 13) j) = cnt (rg 0 nb) (wb (R 19) (R 13) j) := by
  obtain ⟨Hc, hwait, ⟨hres, hlres, hwb⟩, hsg, hdn, hne, hop1, hth⟩ := M
  obtain ⟨hnb, hnl, hnr, htn, hda, hop, hdr, hqu, hai, hid, hac, hlk, hla, hks, hkm, hkh, hbg, hbd, hbo, hbl, hbb, hst, hpw, hxb, hxk, hxr, hxs, hxf, hxl, hxc, hxi, hxp, hsu, hmo, hsb, hlo, hlb, hlf, hlh, hld, hlr, hcl⟩ := Hc
  have hb150 := hnb.2.2
  have hWR : ∀ b, b < nb → (wb (R 19) (R 13) g b = true ↔ ((R 19 b = 0 ∨ R 19 b = 6) ∧ R 13 b = nI g)) := fun b _ => decide_eq_true_iff
  have hWC : ∀ b, b < nb → (wb (R 19) (R 13) g b = true ↔ ((C 44 b = 0 ∨ C 44 b = 6) ∧ C 36 b = nI g)) := fun b hb => by
    rw [hxs.1 b hb, hxb.1 b hb]
    exact decide_eq_true_iff
  generalize hWG : wb (R 19) (R 13) g = W at hWR hWC
  have hWle : cnt (rg 0 nb) W ≤ cnt (rg 0 nb) (isW (R 19)) := cnt_le2 fun b hb hw => decide_eq_true ((hWR b (by have := (rg_m.mp hb).2; omega)).mp hw).1
  obtain ⟨rn, hrnD⟩ : ∃ rn : Nat → Nat, rn = fun b => (C 38 b).toNatClampNeg := ⟨_, rfl⟩
  have hrnC : ∀ b, b < nb → rn b < 108 ∧ C 38 b = nI (rn b) := fun b hb => by
    rw [hrnD]; exact ⟨(rk_of hxf hb).1, (rk_of hxf hb).2.1⟩
  have hrn : ∀ b, b < nb → rn b < 108 := fun b hb => (hrnC b hb).1
  have hrnR : ∀ b, b < nb → ∀ r, r < 108 → ((R 14 b = nI (r / 27) ∧ R 15 b = nI (r / 9 % 3) ∧ R 16 b = nI (9 - r % 9)) ↔ rn b = r) := fun b hb => by
    rw [hrnD]; exact (rk_of hxf hb).2.2
  have hsum : nsum (rg 0 108) (crF nb W rn) = cnt (rg 0 nb) W := nsum_cnt (rg 0 nb) fun b hbm _ => hrn b (by have := (rg_m.mp hbm).2; omega)
  have hps := ps_le (rg 0 108) (crF nb W rn)
  obtain ⟨C2, a1, a2, a3, a4, a5, a6, a7, a8, a9, a10, a11⟩ := m_offerBoat (N := N) hN hg hnb.1 hb150 hWC hrnC hnl.1 hres hlres (by omega)
  obtain ⟨R2, b1, b2, b3, b4, b5, b6, b7, b8⟩ := r_parts (N := N) (g := g) (W := W) (rn := rn) hN hb150 108 0 N nl R hnb.2.1 hnl.2.1 hrnR (fun b hb _ => hWR b hb) (by omega) (by omega) (by omega)
  have h150 : LNf nl (crF nb W rn) 108 ≤ 150 := by unfold LNf; omega
  have hS : ∀ b, b < nb → R2 19 b = if W b = true then 2 else R 19 b := fun b hb => by
    rw [b6 b]
    by_cases hw : W b = true
    · rw [if_pos hw, if_pos ⟨hb, hw, Nat.zero_le _, hrn b hb⟩]
    · rw [if_neg hw, if_neg (fun h => hw h.2.1)]
  have hSC : ∀ b, b < nb → C2 44 b = if W b = true then 2 else C 44 b := fun b hb => by
    rw [a5 b]
    by_cases hw : W b = true
    · rw [if_pos hw, if_pos ⟨hb, hw⟩]
    · rw [if_neg hw, if_neg (fun h => hw h.2)]
  have hL : ∀ b, b < nb → R2 26 b = if W b = true then nI (LNf nl (crF nb W rn) (rn b)) else R 26 b := fun b hb => by
    rw [b7 b]
    by_cases hw : W b = true
    · rw [if_pos hw, if_pos ⟨hb, hw, Nat.zero_le _, hrn b hb⟩]; rfl
    · rw [if_neg hw, if_neg (fun h => hw h.2.1)]
  have hLC : ∀ b, b < nb → C2 46 b = if W b = true then nI (LNf nl (crF nb W rn) (rn b)) else C 46 b := fun b hb => by
    rw [a6 b]
    by_cases hw : W b = true
    · rw [if_pos hw, if_pos ⟨hb, hw⟩]
    · rw [if_neg hw, if_neg (fun h => hw h.2)]
  have oOld : ∀ l, l < nl → offl nb (R2 26) (R2 19) l = offl nb (R 26) (R 19) l := fun l hl => offl_old hWR hS hL hrn h150 hl
  have oNew : ∀ r, r < 108 → 0 < crF nb W rn r → offl nb (R2 26) (R2 19) (LNf nl (crF nb W rn) r) = (rg 0 nb).filter (wr W rn r) := fun r hr h0 => offl_new hWR hS hL hlr hrn h150 hr h0
  have wg := wait_g hWR hS
  have wj : ∀ j, j < 8 → j ≠ g → cnt (rg 0 nb) (wb (R2 19) (R 13) j) = cnt (rg 0 nb) (wb (R 19) (R 13) j) := fun j hj hjn => wait_j hWR hS hg hj hjn
  have wp := isW_part hWR hS
  have hsame : ∀ b, b < nb → ¬ W b = true → R2 19 b = R 19 b := fun b hb hw => by rw [hS b hb, if_neg hw]
  have hn2 : LNf nl (crF nb W rn) 108 ≤ FNf res (crF nb W rn) 108 := by unfold LNf FNf; omega
  have hr2 : FNf res (crF nb W rn) 108 + cnt (rg 0 nb) (isW (R2 19)) ≤ nb := by unfold FNf; omega
  have b8' : ∀ r, r < 108 → 0 < crF nb W rn r → RN1 R R2 g r (LNf nl (crF nb W rn) r) := fun r h1 h2 => b8 r (Nat.zero_le _) h1 h2
  have b3' : R2 0 = upd (R 0) 31 (nI (LNf nl (crF nb W rn) 108)) := b3
  have hisDay := b2 4 (by decide)
  have hboat := b2 13 (by decide)
  have lots : ∀ l, l < LNf nl (crF nb W rn) 108 → l < nl ∨ ∃ r, r < 108 ∧ 0 < crF nb W rn r ∧ l = LNf nl (crF nb W rn) r := fun l hl => by
    by_cases h : l < nl
    · exact Or.inl h
    · exact Or.inr (LN_sur (by omega) hl)
  generalize hcrG : crF nb W rn = cr at *
  generalize hn2G : LNf nl cr 108 = nl2 at *
  generalize hr2G : FNf res cr 108 = res2 at *
  -- the pieces that change
  have z_xs : eqR nb (C2 44) (R2 19) ∧ rngs nb 0 7 (R2 19) := by
    refine ⟨fun b hb => by rw [hSC b hb, hS b hb, hxs.1 b hb], fun b hb => ?_⟩
    rw [hS b hb]
    by_cases hw : W b = true
    · rw [if_pos hw]; exact ⟨2, by omega, by omega, rfl⟩
    · rw [if_neg hw]; exact hxs.2 b hb
  have z_xl : eqR nb (C2 46) (R2 26) ∧ ∀ b, nb ≤ b → b < 150 → C2 46 b = -1 := by
    refine ⟨fun b hb => by rw [hLC b hb, hL b hb, hxl.1 b hb], fun b h1 h2 => ?_⟩
    rw [a6 b, if_neg (fun h => by omega)]
    exact hxl.2 b h1 h2
  have z_su : K_sum nb (C2 60) (R2 19) (R 17) := by
    intro w hw
    rw [a3, hsu w hw]
    refine lsum_congr fun b hb => ?_
    have hb := (rg_m.mp hb).2
    have hb : b < nb := by omega
    rw [hS b hb]
    by_cases hw : W b = true
    · rw [if_pos hw, inS_w ((hWR b hb).mp hw).1]
    · rw [if_neg hw]
  have z_mo : K_mon nb (R 5) (R2 19) (R 25) := mon_same hmo (Nat.le_of_eq (cnt_congr fun b hb => by
    have hb := (rg_m.mp hb).2
    have hb : b < nb := by omega
    rw [hS b hb]
    by_cases hw : W b = true
    · rw [if_pos hw, isSd_w ((hWR b hb).mp hw).1]; rfl
    · rw [if_neg hw])) (Nat.le_refl _)
  have z_sb : K_sb nb (R 21) (R2 19) := by
    intro b hb
    by_cases hw : W b = true
    · rcases hsb b hb with h | h | h
      · exact Or.inl h
      · rcases ((hWR b hb).mp hw).1 with h2 | h2 <;> rw [h] at h2 <;> exact absurd h2 (by decide)
      · rcases ((hWR b hb).mp hw).1 with h2 | h2 <;> rw [h] at h2 <;> exact absurd h2 (by decide)
    · rw [hsame b hb hw]; exact hsb b hb
  have z_lb : eqR nl2 (C2 63) (R2 27) := by
    intro l hl
    rcases lots l hl with h | ⟨r, h1, h2, h3⟩
    · rw [(a9 l h).1, (b4 l h).1]; exact hlb l h
    · rw [h3, (a10 r h1 h2).1, (b8' r h1 h2).1]
  have z_lf : K_rk nl2 (C2 65) (R2 28) (R2 29) (R2 30) := by
    intro l hl
    rcases lots l hl with h | ⟨r, h1, h2, h3⟩
    · obtain ⟨v1, v2, v3, v4, v5, v6⟩ := b4 l h
      rw [(a9 l h).2.1, v2, v3, v4]
      exact hlf l h
    · obtain ⟨v1, v2, v3, v4, v5, v6⟩ := b8' r h1 h2
      rw [h3, (a10 r h1 h2).2.1, v2, v3, v4]
      refine ⟨r / 27, r / 9 % 3, 9 - r % 9, by omega, by omega, by omega, by omega, rfl, rfl, rfl, ?_⟩
      rw [show (r / 27 * 3 + r / 9 % 3) * 9 + (9 - (9 - r % 9)) = r by omega]
  have z_lh : eqR nl2 (C2 67) (R2 31) ∧ rngs nl2 0 2 (R2 31) := by
    constructor
    · intro l hl
      rcases lots l hl with h | ⟨r, h1, h2, h3⟩
      · obtain ⟨v1, v2, v3, v4, v5, v6⟩ := b4 l h
        rw [(a9 l h).2.2.1, v5]
        exact hlh.1 l h
      · obtain ⟨v1, v2, v3, v4, v5, v6⟩ := b8' r h1 h2
        rw [h3, (a10 r h1 h2).2.2.1, v5]
        exact hkh.1 (r / 27) (by omega)
    · intro l hl
      rcases lots l hl with h | ⟨r, h1, h2, h3⟩
      · obtain ⟨v1, v2, v3, v4, v5, v6⟩ := b4 l h
        rw [v5]
        exact hlh.2 l h
      · obtain ⟨v1, v2, v3, v4, v5, v6⟩ := b8' r h1 h2
        rw [h3, v5]
        exact hkh.2 (r / 27) (by omega)
  have z_ld := b5 hld
  have z_lr : ∀ b, b < nb → R2 26 b = -1 ∨ ∃ l, l < nl2 ∧ R2 26 b = nI l := by
    intro b hb
    by_cases hw : W b = true
    · refine Or.inr ⟨LNf nl cr (rn b), ?_, by rw [hL b hb, if_pos hw]⟩
      rw [← hn2G]
      exact LN_lt (hrn b hb) (by rw [← hcrG]; exact cr_pos hb hw)
    · rw [hL b hb, if_neg hw]
      rcases hlr b hb with h | ⟨l, h1, h2⟩
      · exact Or.inl h
      · exact Or.inr ⟨l, by have : nl ≤ nl2 := hn2G ▸ LN_ge; omega, h2⟩
  have z_wt : ∀ j, j < 8 → C2 15 j = nI (cnt (rg 0 nb) (wb (R2 19) (R 13) j)) := by
    intro j hj
    rw [a4]
    by_cases hjg : j = g
    · subst hjg; rw [upd_s, wg]; rfl
    · rw [upd_n hjg, wj j hj hjg]; exact hwait j hj
  have z_sg : K_sgr nb nl2 res2 (C2 69) (C2 71) (C2 73) (R2 26) (R2 19) := by
    intro l hl
    rcases lots l hl with h | ⟨r, h1, h2, h3⟩
    · obtain ⟨f, q1, q2, q3, q4⟩ := hsg l h
      obtain ⟨v1, v2, v3, v4, v5⟩ := a9 l h
      rw [oOld l h, v4, v5]
      refine ⟨f, q1, q2, by rw [← hr2G]; unfold FNf; omega, fun i b hib => ?_⟩
      have := (List.getElem?_eq_some_iff.mp hib).1
      rw [a11 (f + i) (by omega)]
      exact q4 i b hib
    · obtain ⟨v1, v2, v3, v4, v5, v6⟩ := a10 r h1 h2
      have hlen : ((rg 0 nb).filter (wr W rn r)).length = cr r := by rw [← hcrG]; rfl
      rw [h3, oNew r h1 h2, v4, v5, hlen]
      refine ⟨FNf res cr r, rfl, rfl, ?_, v6⟩
      have := nsum_lt (c := cr) 108 h1
      rw [← hr2G]
      unfold FNf
      omega
  have z_dn : ∀ l, l < nl2 → R2 32 l = 0 := by
    intro l hl
    rcases lots l hl with h | ⟨r, h1, h2, h3⟩
    · obtain ⟨v1, v2, v3, v4, v5, v6⟩ := b4 l h
      rw [v6]; exact hdn l h
    · obtain ⟨v1, v2, v3, v4, v5, v6⟩ := b8' r h1 h2
      rw [h3, v6]
  have z_ne : ∀ l, l < nl2 → offl nb (R2 26) (R2 19) l ≠ [] := by
    intro l hl
    rcases lots l hl with h | ⟨r, h1, h2, h3⟩
    · rw [oOld l h]; exact hne l h
    · rw [h3, oNew r h1 h2]
      intro hh
      have : 0 < ((rg 0 nb).filter (wr W rn r)).length := by
        have : 0 < crF nb W rn r := by rw [hcrG]; exact h2
        exact this
      rw [hh] at this
      exact Nat.lt_irrefl _ this
  have hnn : nl2 ≤ nb := by omega
  refine ⟨C2, R2, nl2, res2, a1, b1, ⟨?_, ?_, ⟨a8, hn2, hr2⟩, z_sg, z_dn, z_ne, ?_, ?_⟩, hisDay, ?_, ?_⟩
  · have hC2 := ovO_eq a2
    have hR2 := ovP_eq b2 b3'
    clear a1 a2 a3 a4 a5 a6 a8 a9 a10 a11 b1 b2 b3 b3' b4 b5 b6 b7 b8 b8' hS hSC hL hLC oOld oNew wg wj wp hsame hisDay hboat z_wt z_sg z_dn z_ne hWR hWC hr2
    revert z_xs z_xl z_su z_mo z_sb z_lb z_lf z_lh z_ld z_lr a7
    generalize C2 = gC at hC2
    generalize R2 = gR at hR2
    intro a7 z_xs z_xl z_su z_mo z_sb z_lb z_lf z_lh z_ld z_lr
    rw [hC2, hR2]
    exact ⟨hnb, ⟨a7, rfl, hnn⟩, hnr, htn, hda, hop, hdr, hqu, hai, hid, hac, hlk, hla, hks, hkm, hkh, hbg, hbd, hbo, hbl, hbb, hst, hpw, hxb, hxk, hxr, z_xs, hxf, z_xl, hxc, hxi, hxp, z_su, z_mo, z_sb, hlo, z_lb, z_lf, z_lh, z_ld, z_lr, (fun h => absurd (hop1.symm.trans h) (by decide))⟩
  · rw [hboat]; exact z_wt
  · rw [b3']; exact hop1
  · rw [b3']; exact hth
  · rw [hboat]; exact wg
  · intro j hj hjg
    rw [hboat]; exact wj j hj hjg

