/-! a standing clock, a clock that waits -/
section
variable {S : Nat → Prop} {N h nb nl nr tn dn : Nat} {M R : gq_M}
theorem pk_bg (H : PK S nb nl nr tn dn M R) (hh : h < 3) : PK S nb nl nr tn dn (bgL h 0 M) (bgR h (8 * h) R) := by
  obtain ⟨hnb, hnl, hnr, htn, hdn, hop, hdr, hkd, hby, hqu, hbt, hha, hpr, hbx, hbz, hlt, hlo⟩ := H
  exact ⟨hnb, hnl, hnr, htn, hdn, hop, hdr, hkd, hby, hqu, hbt, hha, PR_bg hh (fun a h1 h2 => rfl) (fun a h1 h2 => rfl) hpr, hbx, hbz, hlt, hlo⟩
def stM (h : Nat) (c v u w : Int32) (M : gq_M) : gq_M := gq_up (gq_up (gq_up (gq_up M 115 (8 * h) c) 115 (8 * h + 2) v) 115 (8 * h + 3) u) 115 (8 * h + 4) w
def stR (h : Nat) (c v u w : Int32) (R : gq_M) : gq_M := gq_up (gq_up (gq_up (gq_up R 35 h c) 39 h w) 37 h v) 38 h u
theorem pk_st {c v u w : Int32} (H : PK S nb nl nr tn dn M R) (hh : h < 3) (hs : S h) (hv : rng 0 10000 v) (hw : w = -1 ∨ ∃ x, x < 8 ∧ w = nI x) : PK S nb nl nr tn dn (bgL h 0 (stM h c v u w M)) (bgR h (8 * h) (stR h c v u w R)) := by
  obtain ⟨k1, k2⟩ := pq_ha H h hh
  obtain ⟨q1, q2, q3, q4, q5, q6, q7⟩ := k2 hs
  obtain ⟨u1, u2, u3, u4, u5⟩ := k1
  refine pk_bg (pk_hall (h := h) H S (fun a ha => ?_) (fun i hi => ?_) (fun a ha => ?_) (fun a h1 h2 j hj => ?_) (fun q _ _ z => z) ⟨?_, ?_, ?_, ?_, ?_⟩ (fun _ => ⟨?_, ?_, ?_, ?_, ?_, ?_, ?_⟩)) hh
  · unfold stM; simp (disch := omega) only [up_ne]
  · unfold stM; simp (disch := omega) only [up_no]
  · unfold stR; simp (disch := omega) only [up_ne]
  · unfold stR; simp (disch := omega) only [up_no]
  · unfold stM stR; simp (disch := omega) only [up_no, up_same]
  · unfold stM stR; simp (disch := omega) only [up_no]; exact u2
  · unfold stM stR; simp (disch := omega) only [up_no]; exact u3
  · unfold stR; simp (disch := omega) only [up_no]; exact u4
  · unfold stR; simp (disch := omega) only [up_no]; exact u5
  · unfold stM stR; simp (disch := omega) only [up_no, up_same]
  · unfold stM stR; simp (disch := omega) only [up_no]; exact q2
  · unfold stM stR; simp (disch := omega) only [up_no, up_same]
  · unfold stM stR; simp (disch := omega) only [up_no, up_same]
  · unfold stR; simp (disch := omega) only [up_no]; exact q5
  · unfold stR; simp (disch := omega) only [up_no, up_same]; exact hw
  · unfold stR; simp (disch := omega) only [up_no, up_same]; exact hv
set_option maxHeartbeats 4000000 in
theorem s2_stands {a p : Nat} (H : PK S nb nl nr tn dn M R) (hh : h < 3) (hN : 600 ≤ N) (hs : S h) (hc : R 35 h = 2) (ha : a < nl) (hat : R 36 h = nI a) (hp : R 37 h = nI p) (hp2 : p ≤ 10000) (hne : offl nb (R 26) (R 19) a ≠ []) : ∃ M2 R2, f_L_ticks N (nI h) M = some (0, M2) ∧ f_X10_stands N (nI h) R = some (0, R2) ∧ PK S nb nl nr tn dn M2 R2 ∧ R2 0 = R 0 := by
  obtain ⟨M1, e1, H1⟩ := s2_hears (N := N) H hh hN
  have er := r_hears (N := N) (R := R) hh hN
  have hMc : M 115 (8 * h) = 2 := (((pq_ha H h hh).2 hs).1).trans hc
  have hx : ∀ x, x ≠ 43 → hrR (8 * h) (8 * h + 8) R x = R x := fun x hx => if_neg hx
  generalize hR1 : hrR (8 * h) (8 * h + 8) R = R1 at H1 er hx
  generalize (if (rg (8 * h) 8).any (newH R) = true then (1 : Int32) else 0) = vv at e1 er
  obtain ⟨k1, k2⟩ := pq_ha H1 h hh
  obtain ⟨q1, q2, q3, q4, q5, q6, q7⟩ := k2 hs
  obtain ⟨u1, u2, u3, u4, u5⟩ := k1
  have H9 := H1
  obtain ⟨hnb, hnl, hnr, htn, hdn, hop, hdr, hkd, hby, hqu, hbt, hha, hpr, hbx, hbz, hlt, hlo⟩ := H9
  have e8 : 8 * nI h = nI (8 * h) := pl8z h
  have ex1 : nI (8 * h) + 1 = nI (8 * h + 1) := nI_1 _
  have ex2 : nI (8 * h) + 2 = nI (8 * h + 2) := by rw [show (2 : Int32) = nI 2 from rfl, nI_add]
  have ex3 : nI (8 * h) + 3 = nI (8 * h + 3) := by rw [show (3 : Int32) = nI 3 from rfl, nI_add]
  have ex4 : nI (8 * h) + 4 = nI (8 * h + 4) := by rw [show (4 : Int32) = nI 4 from rfl, nI_add]
  have h0 : R1 0 = R 0 := hx 0 (by omega)
  by_cases cU : R1 38 h ≤ nI tn
  · have hat1 : R1 36 h = nI a := by rw [hx 36 (by omega)]; exact hat
    rw [hat1] at q2
    cases hL : offl nb (R1 26) (R1 19) a with
    | nil => rw [hx 26 (by omega), hx 19 (by omega)] at hL; exact absurd hL hne
    | cons b0 T =>
      have hb0 : b0 < nb := by
        have : b0 ∈ offl nb (R1 26) (R1 19) a := by rw [hL]; exact List.mem_cons_self
        have := (rg_m.mp (List.mem_filter.mp this).1).2
        omega
      have lf := l_first (N := N) hnb.1 hnb.2.2 hbx hN hL
      have rf : f_X10_firstOf N (nI a) R1 = some (nI b0, R1) := by
        rw [r_firstOf (M := R1) hnb.2.1 (by omega) hN, hL]; rfl
      have ee := (BX_e (hbx b0 hb0)).1
      have hG : ∀ j, j < 8 → M1 119 (24 + j) = R1 9 j ∧ M1 119 (40 + j) = R1 11 j := fun j hj => ⟨(hby j hj).1, (hby j hj).2.2.1⟩
      have hok : okh h R1 none := fun b hb => by cases hb
      have er2 := r_sel_l (N := N) (kk := R1 17 b0) hh hpr (fun _ _ _ _ _ => none) 8 0 N none rfl (by omega) hok
      have el2 := l_sel_l (N := N) (kk := R1 17 b0) hh hpr hG (fun _ _ _ _ _ _ => none) 8 N none (Nat.le_refl _) (by omega) hok
      have hok2 : okh h R1 (foU h (R1 17 b0) R1 (rg 0 8) none) := by
        have : ∀ (k i : Nat) (o : Option Nat), i + k = 8 → okh h R1 o → okh h R1 (foU h (R1 17 b0) R1 (rg i k) o) := by
          intro k
          induction k with
          | zero => intro i o _ ho; exact ho
          | succ k ih => intro i o hi ho; rw [rg_s]; exact ih (i + 1) _ (by omega) (okh_U (by omega) ho)
        exact this 8 0 none rfl hok
      rw [← foUD] at el2
      generalize foU h (R1 17 b0) R1 (rg 0 8) none = oo at er2 el2 hok2
      have er2' : f_X10_stands_44 N N (nI h) (R1 17 b0) (-1) (nI (8 * h)) R1 = f_X10_stands_44_b N (fun _ _ _ _ _ => none) (nI h) (R1 17 b0) (enR h oo) (nI (8 * h + 8)) R1 := er2
      have el2' : f_L_ticks_265 N N (nI h) (nI (8 * h)) (R1 17 b0) (-1) 7 M1 = f_L_ticks_265_b N (fun _ _ _ _ _ _ => none) (nI h) (nI (8 * h)) (R1 17 b0) (enC oo) (-1) M1 := el2
      have bL : f_L_ticks N (nI h) M = f_L_ticks_265_b N (fun _ _ _ _ _ _ => none) (nI h) (nI (8 * h)) (R1 17 b0) (enC oo) (-1) M1 := by
        rw [← el2']
        unfold f_L_ticks
        simp (maxSteps := 1000000) (disch := omega) only [e8, ex1, ex3, g_inN, nI_clamp, gq_l_e, hMc, d21, ↓reduceIte, e1, gq_b_s, gi0_56, cl0, htn.1, u1, eq_true cU, q2, lf, ee]
      have bR : f_X10_stands N (nI h) R = f_X10_stands_44_b N (fun _ _ _ _ _ => none) (nI h) (R1 17 b0) (enR h oo) (nI (8 * h + 8)) R1 := by
        rw [← er2']
        unfold f_X10_stands
        simp (disch := omega) only [er, gq_b_s, g_inN, nI_clamp, gq_l_e, htn.2.1, eq_true cU, ↓reduceIte, hat1, rf, e8]
      rw [bL, bR]
      have hle : 8 * h + 8 ≤ 8 * h + 8 := Nat.le_refl _
      cases oo with
      | none =>
        obtain ⟨ps, ps1, ps2, ps3⟩ := q7
        refine ⟨bgL h 0 (stM h 1 (R1 37 h) (nI tn + 3) (-1) M1), bgR h (8 * h) (stR h 1 (R1 37 h) (nI tn + 3) (-1) R1), ?_, ?_, pk_st H1 hh hs ⟨ps, ps1, ps2, ps3⟩ (Or.inl rfl), ?_⟩
        · unfold f_L_ticks_265_b f_L_ticks_432 f_L_ticks_465 stM
          simp (disch := omega) only [enC, show ((-1 : Int32) < 0) = True by decide, show ((0 : Int32) ≤ -1) = False by decide, ↓reduceIte, g_inN, nI_clamp, gq_l_e, ex2, ex3, ex4, up_no, q3, gi0_56, cl0, htn.1, l_begins hh hN, gq_b_s]
        · unfold f_X10_stands_44_b f_X10_stands_142 f_X10_stands_161 f_X10_stands_187 stR
          simp (disch := omega) only [enR, pl8c, nI_leI, hle, ↓reduceIte, g_inN, nI_clamp, gq_l_e, up_no, htn.2.1, r_begins hh hN, gq_b_s]
        · rw [bgR_o (by omega) (by omega)]; unfold stR; simp (disch := omega) only [up_ne]; exact h0
      | some w =>
        obtain ⟨hw8, hwh⟩ := hok2 w rfl
        obtain ⟨x1, x2, x3, x4, x5, x6, x7⟩ := PR_n (hpr (8 * h + w) (by omega)) hwh
        have hw0 : (0 : Int32) ≤ nI w := nI_pos' (by omega)
        have hnw : ¬ nI (8 * h + w) = -1 := nI_m1 (by omega)
        have hm8 := mod8 (h := h) hh hw8
        have e8w : nI (8 * h) + nI w = nI (8 * h + w) := nI_add _ _
        have hmod : nI (kpt h R1 w + 65536) - nI (kpt h R1 w + 65536) / 65536 * 65536 = nI (kpt h R1 w) := (rd1 (b := 65536) (by omega) (by omega)).trans (congrArg nI (by omega))
        refine ⟨bgL h 0 (stM h 3 (nI (kpt h R1 w)) (nI tn + 3) (nI w) M1), bgR h (8 * h) (stR h 3 (nI (kpt h R1 w)) (nI tn + 3) (nI w) R1), ?_, ?_, pk_st H1 hh hs ⟨kpt h R1 w, by omega, by omega, rfl⟩ (Or.inr ⟨w, hw8, rfl⟩), ?_⟩
        · unfold f_L_ticks_265_b f_L_ticks_432 f_L_ticks_465 stM
          simp (disch := omega) only [enC, show ((-1 : Int32) < 0) = True by decide, eq_true hw0, ↓reduceIte, g_inN, nI_clamp, gq_l_e, ex2, ex3, ex4, e8w, up_no, x6, hmod, gi0_56, cl0, htn.1, l_begins hh hN, gq_b_s]
        · unfold f_X10_stands_44_b f_X10_stands_142 f_X10_stands_161 f_X10_stands_187 stR
          simp (disch := omega) only [enR, pl8c, nI_leI, hle, ↓reduceIte, g_inN, nI_clamp, gq_l_e, eq_false hnw, hm8, up_no, x3, htn.2.1, r_begins hh hN, gq_b_s]
        · rw [bgR_o (by omega) (by omega)]; unfold stR; simp (disch := omega) only [up_ne]; exact h0
  · refine ⟨M1, R1, ?_, ?_, H1, h0⟩
    · unfold f_L_ticks
      simp (maxSteps := 1000000) (disch := omega) only [e8, ex1, ex3, g_inN, nI_clamp, gq_l_e, hMc, d21, ↓reduceIte, e1, gq_b_s, gi0_56, cl0, htn.1, u1, eq_false cU]
    · unfold f_X10_stands
      simp (disch := omega) only [er, gq_b_s, g_inN, nI_clamp, gq_l_e, htn.2.1, eq_false cU, ↓reduceIte]
set_option maxHeartbeats 2000000 in
theorem s2_gets {a p w m : Nat} (H : PK S nb nl nr tn dn M R) (hh : h < 3) (hN : 600 ≤ N) (hs : S h) (ha : a < nl) (hat : R 36 h = nI a) (hdz : R 32 a = 0) (hlh : R 31 a = nI h) (hp : R 37 h = nI p) (hp1 : 1 ≤ p) (hp2 : p ≤ 10000) (hw : w < 8) (hwn : R 39 h = nI w) (hm : m ≤ (offl nb (R 26) (R 19) a).length) : ∃ acc M1 M2 R2, f_L_costs N (nI h) (nI m) 1 M = some (acc, M1) ∧ f_L_goesOn N (nI h) M1 = some (0, M2) ∧ f_X10_gets N (nI h) (nI m) R = some (0, R2) ∧ PK S nb nl nr tn dn M2 R2 ∧ R2 0 = R 0 := by
  have H0 := H
  obtain ⟨hnb, hnl, hnr, htn, hdn, hop, hdr, hkd, hby, hqu, hbt, hha, hpr, hbx, hbz, hlt, hlo⟩ := H0
  obtain ⟨q1, q2, q3, q4, -⟩ := (hha h hh).2 hs
  have hlen : (offl nb (R 26) (R 19) a).length ≤ nb := cnt_rg 0 nb _
  have hst : stt nb (R 17) (fun b => (R 13 b).toNatClampNeg) R := by
    intro b hb
    obtain ⟨bo, ki, si, fr, st, wc, cl, kl, re, so, h1, h2, -⟩ := hbx b hb
    have e : (R 13 b).toNatClampNeg = bo := by rw [h2.1, nI_clamp (by omega)]
    exact ⟨rfl, by show R 13 b = nI (R 13 b).toNatClampNeg; rw [e]; exact h2.1, by show (R 13 b).toNatClampNeg < 8; rw [e]; omega⟩
  have e8 : 8 * nI h = nI (8 * h) := pl8z h
  have ex1 : nI (8 * h) + 1 = nI (8 * h + 1) := nI_1 _
  have ex2 : nI (8 * h) + 2 = nI (8 * h + 2) := by rw [show (2 : Int32) = nI 2 from rfl, nI_add]
  have ex4 : nI (8 * h) + 4 = nI (8 * h + 4) := by rw [show (4 : Int32) = nI 4 from rfl, nI_add]
  obtain ⟨acc, t1, P1⟩ := l_sells (N := N) (l := a) (m := m) (w := w) (p := p) (kf := R 17) (bf := fun b => (R 13 b).toNatClampNeg) hw hp1 hp2 (by omega) nb 0 N 0 0 M R H hst (by omega) (by omega) (by omega)
  have hT : ((rg 0 nb).filter (isO R a)).take (m - 0) = (offl nb (R 26) (R 19) a).take m := rfl
  rw [hT] at t1 P1
  obtain ⟨z0, z27, z26⟩ := fo_R (tn := tn) (dn := dn) (w := w) (p := p) (kf := R 17) (bf := fun b => (R 13 b).toNatClampNeg) (T := (offl nb (R 26) (R 19) a).take m) (R := R)
  have er := r_sells (N := N) (h := h) (nb := nb) (tn := tn) (dn := dn) (a := a) (m := m) (w := w) (p := p) (kf := R 17) (bf := fun b => (R 13 b).toNatClampNeg) hN hh hnb.2.2 hw (by omega) (fun _ _ _ _ => none) m 0 N _ R (by omega) (by omega) hm rfl hst hnb.2.1 htn.2.1 hdn.2.1 hat hwn hp
  generalize fo (sL w p tn dn (R 17) fun b => (R 13 b).toNatClampNeg) ((offl nb (R 26) (R 19) a).take m) M = M1 at t1 P1
  generalize fo (sR w p tn dn (R 17) fun b => (R 13 b).toNatClampNeg) ((offl nb (R 26) (R 19) a).take m) R = R1 at P1 z0 z27 z26 er
  obtain ⟨M2, R2, g1, g2, P2, g3⟩ := s2_goesOn (N := N) P1 hh hN hs ha ((congrFun (z27 36 (by omega)) h).trans hat) ((congrFun (z27 32 (by omega)) a).trans hdz) ((congrFun (z27 31 (by omega)) a).trans hlh)
  refine ⟨acc, M1, M2, R2, ?_, g1, ?_, P2, g3.trans z0⟩
  · unfold f_L_costs
    simp (disch := omega) only [e8, ex1, ex2, ex4, g_inN, nI_clamp, gq_l_e, q2, q3, q4, hat, hp, hwn]
    exact t1
  · show f_X10_gets_2 N N (nI h) (nI m) (nI 0) R = _
    rw [er]
    exact g2 _ m
set_option maxHeartbeats 2000000 in
theorem s2_waits {a p w : Nat} (H : PK S nb nl nr tn dn M R) (hh : h < 3) (hN : 600 ≤ N) (hs : S h) (hc : R 35 h = 3) (ha : a < nl) (hat : R 36 h = nI a) (hdz : R 32 a = 0) (hlh : R 31 a = nI h) (hp : R 37 h = nI p) (hp1 : 1 ≤ p) (hp2 : p ≤ 10000) (hw : w < 8) (hwn : R 39 h = nI w) (hne : offl nb (R 26) (R 19) a ≠ []) : ∃ M2 R2, f_L_ticks N (nI h) M = some (0, M2) ∧ f_X10_waits N (nI h) R = some (0, R2) ∧ PK S nb nl nr tn dn M2 R2 ∧ R2 0 = R 0 := by
  have H0 := H
  obtain ⟨hnb, hnl, hnr, htn, hdn, hop, hdr, hkd, hby, hqu, hbt, hha, hpr, hbx, hbz, hlt, hlo⟩ := H0
  obtain ⟨q1, q2, q3, q4, -⟩ := (hha h hh).2 hs
  obtain ⟨u1, u2, u3, u4, u5⟩ := (hha h hh).1
  have hMc : M 115 (8 * h) = 3 := q1.trans hc
  have e8 : 8 * nI h = nI (8 * h) := pl8z h
  have ex3 : nI (8 * h) + 3 = nI (8 * h + 3) := by rw [show (3 : Int32) = nI 3 from rfl, nI_add]
  have ex4 : nI (8 * h) + 4 = nI (8 * h + 4) := by rw [show (4 : Int32) = nI 4 from rfl, nI_add]
  have e24 : 24 + nI w = nI (24 + w) := by rw [show (24 : Int32) = nI 24 from rfl, nI_add]
  have e40 : 40 + nI w = nI (40 + w) := by rw [show (40 : Int32) = nI 40 from rfl, nI_add]
  obtain ⟨g1, g2, g3, g4, g5, g6⟩ := hby w hw
  have hlen1 : 1 ≤ (offl nb (R 26) (R 19) a).length := Nat.pos_of_ne_zero fun h9 => hne (List.length_eq_zero_iff.mp h9)
  have cl := l_cost (N := N) (m := 1) H hN (by omega) hh hs hat
  have cr := r_cost (N := N) (l := a) (m := 1) (v := R 37 h) (M := R) hnb.2.1 (by omega) (by omega) hN
  generalize lsum ((offl nb (R 26) (R 19) a).take 1) (R 17) * R 37 h = cost at cl cr
  have cl' : f_L_costs N (nI h) 1 0 M = some (cost, M) := cl
  have cr' : f_X10_costOf N (nI a) 1 (R 37 h) R = some (cost, R) := cr
  by_cases cU : nI tn < R 38 h
  · refine ⟨M, R, ?_, ?_, H, rfl⟩
    · unfold f_L_ticks
      simp (maxSteps := 1000000) (disch := omega) only [e8, ex3, g_inN, nI_clamp, gq_l_e, hMc, d31, d32, ↓reduceIte, gi0_56, cl0, htn.1, u1, eq_true cU]
    · unfold f_X10_waits
      simp (disch := omega) only [g_inN, nI_clamp, gq_l_e, htn.2.1, eq_true cU, ↓reduceIte]
  · by_cases cP : cost ≤ R 9 w - R 11 w
    · have cP2 : ¬ R 9 w - R 11 w < cost := Int32.not_lt.mpr cP
      obtain ⟨acc, M1, M2, R2, t1, t2, t3, P2, t4⟩ := s2_gets (N := N) (m := 1) H hh hN hs ha hat hdz hlh hp hp1 hp2 hw hwn hlen1
      have t1' : f_L_costs N (nI h) 1 1 M = some (acc, M1) := t1
      have t3' : f_X10_gets N (nI h) 1 R = some (0, R2) := t3
      refine ⟨M2, R2, ?_, ?_, P2, t4⟩
      · unfold f_L_ticks f_L_ticks_593
        simp (maxSteps := 1000000) (disch := omega) only [e8, ex3, ex4, g_inN, nI_clamp, gq_l_e, hMc, d31, d32, ↓reduceIte, gi0_56, cl0, htn.1, u1, eq_false cU, q4, hwn, cl', gq_b_s, e24, e40, g1, g3, eq_false cP2, t1', t2]
      · unfold f_X10_waits f_X10_waits_50
        simp (disch := omega) only [g_inN, nI_clamp, gq_l_e, htn.2.1, eq_false cU, ↓reduceIte, hwn, hat, cr', gq_b_s, b_canPay, bI_t cP, f10, t3']
    · have cP2 : R 9 w - R 11 w < cost := Int32.not_le.mp cP
      obtain ⟨M2, R2, t2, t3, P2, t4⟩ := s2_goesOn (N := N) H hh hN hs ha hat hdz hlh
      have t3' : f_X10_gets N (nI h) 0 R = some (0, R2) := by
        show f_X10_gets_2 N N (nI h) (nI 0) (nI 0) R = _
        obtain ⟨n9, hn9⟩ : ∃ z, N = z + 1 := ⟨N - 1, by omega⟩
        have : ∀ n, n = n9 + 1 → f_X10_gets_2 N n (nI h) (nI 0) (nI 0) R = some (0, R2) := fun n hn => by
          subst hn
          exact t3 (f_X10_gets_2 N n9) 0
        exact this N hn9
      refine ⟨M2, R2, ?_, ?_, P2, t4⟩
      · unfold f_L_ticks f_L_ticks_593
        simp (maxSteps := 1000000) (disch := omega) only [e8, ex3, ex4, g_inN, nI_clamp, gq_l_e, hMc, d31, d32, ↓reduceIte, gi0_56, cl0, htn.1, u1, eq_false cU, q4, hwn, cl', gq_b_s, e24, e40, g1, g3, eq_true cP2, t2]
      · unfold f_X10_waits f_X10_waits_50
        simp (disch := omega) only [g_inN, nI_clamp, gq_l_e, htn.2.1, eq_false cU, ↓reduceIte, hwn, hat, cr', gq_b_s, b_canPay, bI_f cP, t3']
theorem l_ticks0 (H : PK S nb nl nr tn dn M R) (hh : h < 3) (hs : S h) (hc : R 35 h = 0) : f_L_ticks N (nI h) M = some (0, M) := by
  have hMc : M 115 (8 * h) = 0 := (((pq_ha H h hh).2 hs).1).trans hc
  have e8 : 8 * nI h = nI (8 * h) := pl8z h
  unfold f_L_ticks
  simp (maxSteps := 1000000) (disch := omega) only [e8, g_inN, nI_clamp, gq_l_e, hMc, f01b, d02, d03, ↓reduceIte]
end

