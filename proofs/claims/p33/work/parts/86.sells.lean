/-! boxes sold one behind the other; the clock goes on -/
section
variable {S : Nat → Prop} {N h l nb nl nr tn dn : Nat} {M R : gq_M}
def stt (nb : Nat) (kf : Nat → Int32) (bf : Nat → Nat) (R : gq_M) : Prop := ∀ b, b < nb → R 17 b = kf b ∧ R 13 b = nI (bf b) ∧ bf b < 8
theorem sR_17 {w p b : Nat} {kf : Nat → Int32} {bf : Nat → Nat} : sR w p tn dn kf bf b R 17 = R 17 := by unfold sR; simp (disch := omega) only [up_ne]
theorem sR_13 {w p b : Nat} {kf : Nat → Int32} {bf : Nat → Nat} : sR w p tn dn kf bf b R 13 = R 13 := by unfold sR; simp (disch := omega) only [up_ne]
theorem sR_26 {w p b : Nat} {kf : Nat → Int32} {bf : Nat → Nat} : sR w p tn dn kf bf b R 26 = R 26 := by unfold sR; simp (disch := omega) only [up_ne]
theorem sR_0 {w p b : Nat} {kf : Nat → Int32} {bf : Nat → Nat} : sR w p tn dn kf bf b R 0 = R 0 := by unfold sR; simp (disch := omega) only [up_ne]
theorem sR_27 {w p b a : Nat} {kf : Nat → Int32} {bf : Nat → Nat} (ha : 27 ≤ a) : sR w p tn dn kf bf b R a = R a := by unfold sR; simp (disch := omega) only [up_ne]
theorem sR_19 {w p b : Nat} {kf : Nat → Int32} {bf : Nat → Nat} : sR w p tn dn kf bf b R 19 = upd (R 19) b 3 := by
  unfold sR
  simp (disch := omega) only [up_ne, up_row]
theorem stt_s {w p b : Nat} {kf : Nat → Int32} {bf : Nat → Nat} (h : stt nb kf bf R) : stt nb kf bf (sR w p tn dn kf bf b R) := by
  intro j hj
  rw [sR_17, sR_13]
  exact h j hj
theorem fo_app {f : Nat → gq_M → gq_M} {x : Nat} : ∀ {T : List Nat} {M : gq_M}, fo f (T ++ [x]) M = f x (fo f T M) := by
  intro T
  induction T with
  | nil => intro M; rfl
  | cons a t ih => intro M; exact ih
theorem fo_R {w p : Nat} {kf : Nat → Int32} {bf : Nat → Nat} : ∀ {T : List Nat} {R : gq_M}, fo (sR w p tn dn kf bf) T R 0 = R 0 ∧ (∀ a, 27 ≤ a → fo (sR w p tn dn kf bf) T R a = R a) ∧ fo (sR w p tn dn kf bf) T R 26 = R 26 := by
  intro T
  induction T with
  | nil => intro R; exact ⟨rfl, fun _ _ => rfl, rfl⟩
  | cons a t ih =>
    intro R
    obtain ⟨h1, h2, h3⟩ := ih (R := sR w p tn dn kf bf a R)
    exact ⟨h1.trans sR_0, fun b hb => (h2 b hb).trans (sR_27 hb), h3.trans sR_26⟩
set_option maxHeartbeats 2000000 in
theorem l_sells {m w p : Nat} {kf : Nat → Int32} {bf : Nat → Nat} (hw : w < 8) (hp1 : 1 ≤ p) (hp2 : p ≤ 10000) (hm : m ≤ 150) : ∀ (k i n9 c : Nat) (acc : Int32) (M R : gq_M), PK S nb nl nr tn dn M R → stt nb kf bf R → i + k = nb → k < n9 → c ≤ m → ∃ acc2, f_L_costs_45 N n9 (nI m) 1 (nI l) (nI p) (nI w) acc (nI c) (nI i) M = some (acc2, fo (sL w p tn dn kf bf) (((rg i k).filter (isO R l)).take (m - c)) M) ∧ PK S nb nl nr tn dn (fo (sL w p tn dn kf bf) (((rg i k).filter (isO R l)).take (m - c)) M) (fo (sR w p tn dn kf bf) (((rg i k).filter (isO R l)).take (m - c)) R) := by
  intro k
  induction k with
  | zero =>
    intro i n9 c acc M R H hst hi h9 hc
    obtain ⟨n9, rfl⟩ : ∃ z, n9 = z + 1 := ⟨n9 - 1, by omega⟩
    have hnb := pq_nb H
    have hb := hnb.2.2
    have he : nb ≤ i := by omega
    refine ⟨acc, ?_, ?_⟩
    · show f_L_costs_45_b N (f_L_costs_45 N n9) (nI m) 1 (nI l) (nI p) (nI w) acc (nI c) (nI i) M = _
      unfold f_L_costs_45_b f_L_costs_176
      simp (disch := omega) only [gi4_56, cl4, gq_l_e, hnb.1, nI_leI, he, ↓reduceIte]
      rw [show (rg i 0).filter (isO R l) = [] from rfl, List.take_nil]
      rfl
    · rw [show (rg i 0).filter (isO R l) = [] from rfl, List.take_nil]
      exact H
  | succ k ih =>
    intro i n9 c acc M R H hst hi h9 hc
    obtain ⟨n9, rfl⟩ : ∃ z, n9 = z + 1 := ⟨n9 - 1, by omega⟩
    have H0 := H
    obtain ⟨hnb, hnl, hnr, htn, hdn, hop, hdr, hkd, hby, hqu, hbt, hha, hpr, hbx, hbz, hlt, hlo⟩ := H0
    have hb := hnb.2.2
    have he : ¬ nb ≤ i := by omega
    have hBi := hbx i (by omega)
    have hi40 : i < 40 := by omega
    rw [rg_s, List.filter_cons]
    by_cases c3 : m ≤ c
    · rw [show m - c = 0 by omega, List.take_zero]
      refine ⟨acc, ?_, H⟩
      show f_L_costs_45_b N (f_L_costs_45 N n9) (nI m) 1 (nI l) (nI p) (nI w) acc (nI c) (nI i) M = _
      unfold f_L_costs_45_b f_L_costs_176
      simp (disch := omega) only [gi4_56, cl4, gq_l_e, hnb.1, nI_leI, he, c3, ↓reduceIte]
      rfl
    · by_cases c1 : isO R l i = true
      · obtain ⟨s1, s2, s3⟩ := hst i (by omega)
        obtain ⟨o1, o2⟩ := of_decide_eq_true c1
        have P1 := pk_sell (w := w) (p := p) (kf := kf) (bf := bf) H (b := i) (by omega) o2 hw hp1 hp2 s1 s2 s3
        have hfil : (rg (i + 1) k).filter (isO (sR w p tn dn kf bf i R) l) = (rg (i + 1) k).filter (isO R l) := by
          refine List.filter_congr fun b hb => ?_
          have := (rg_m.mp hb).1
          unfold isO
          rw [sR_26, sR_19, upd_n (by omega)]
        obtain ⟨acc2, t1, t2⟩ := ih (i + 1) n9 (c + 1) (acc + kf i * nI p) _ _ P1 (stt_s hst) (by omega) (by omega) (by omega)
        rw [hfil] at t1 t2
        rw [if_pos c1, show m - c = (m - (c + 1)) + 1 by omega, List.take_succ_cons]
        refine ⟨acc2, ?_, t2⟩
        refine Eq.trans ?_ t1
        show f_L_costs_45_b N (f_L_costs_45 N n9) (nI m) 1 (nI l) (nI p) (nI w) acc (nI c) (nI i) M = _
        have ea5 := (BX_a hBi).2.2.2.2.1
        rw [o2] at ea5
        have ee1 := (BX_e hBi).1
        rw [s1] at ee1
        have ha8 : (M 109 i + 2048 * (3 - 2)) - (M 109 i + 2048 * (3 - 2)) / 8 * 8 = nI (bf i) := by
          obtain ⟨bo, ki, si, fr, st, wc, cl, kl, re, so, h1, h2, h3, -⟩ := hBi
          have hbo : bo = bf i := (nI_j (by omega) (by omega)).mp (h2.1.symm.trans s2)
          rw [h3, nI_ad (x := 2048 * (3 - 2)) (m := 2048) (by decide)]
          exact (rd1 (b := 8) (by omega) (by omega)).trans (congrArg nI (by omega))
        have e40 : 40 + nI w = nI (40 + w) := by rw [show (40 : Int32) = nI 40 from rfl, nI_add]
        have e16 : 16 + nI (bf i) = nI (16 + bf i) := by rw [show (16 : Int32) = nI 16 from rfl, nI_add]
        generalize f_L_costs_45 N n9 = F
        unfold f_L_costs_45_b f_L_costs_170 sL
        simp (disch := omega) only [gi4_56, cl4, gi0_56, cl0, gi1_56, cl1, gq_l_e, hnb.1, htn.1, hdn.1, nI_leI, he, c3, ↓reduceIte, b_isLeft hBi hi40, bI_t c1, f10, g_inN, nI_clamp, ee1, b_becomes hi40, ea5, up_no, up_same, e40, ha8, e16, nI_1]
      · rw [if_neg c1]
        obtain ⟨acc2, t1, t2⟩ := ih (i + 1) n9 c acc M R H hst (by omega) (by omega) hc
        refine ⟨acc2, Eq.trans ?_ t1, t2⟩
        show f_L_costs_45_b N (f_L_costs_45 N n9) (nI m) 1 (nI l) (nI p) (nI w) acc (nI c) (nI i) M = _
        unfold f_L_costs_45_b f_L_costs_170
        simp (disch := omega) only [gi4_56, cl4, gq_l_e, hnb.1, nI_leI, he, c3, ↓reduceIte, b_isLeft hBi hi40, bI_f c1, nI_1]
set_option maxHeartbeats 2000000 in
theorem r_sells {a m w p : Nat} {kf : Nat → Int32} {bf : Nat → Nat} (hN : 600 ≤ N) (hh : h < 3) (hb : nb ≤ 40) (hw : w < 8) (hm : m ≤ 150) (G : Int32 → Int32 → Int32 → gq_M → Option (Int32 × gq_M)) : ∀ (k n n9 : Nat) (T : List Nat) (R : gq_M), n + k = m → k < n9 → k ≤ T.length → offl nb (R 26) (R 19) a = T → stt nb kf bf R → R 0 16 = nI nb → R 0 0 = nI tn → R 0 1 = nI dn → R 36 h = nI a → R 39 h = nI w → R 37 h = nI p → f_X10_gets_2 N n9 (nI h) (nI m) (nI n) R = f_X10_gets_2_b N G (nI h) (nI m) (nI m) (fo (sR w p tn dn kf bf) (T.take k) R) := by
  intro k
  induction k with
  | zero =>
    intro n n9 T R hn h9 hk hT hst r1 r2 r3 r4 r5 r6
    obtain ⟨n9, rfl⟩ : ∃ z, n9 = z + 1 := ⟨n9 - 1, by omega⟩
    obtain rfl : n = m := by omega
    exact gets_exit _ _
  | succ k ih =>
    intro n n9 T R hn h9 hk hT hst r1 r2 r3 r4 r5 r6
    obtain ⟨n9, rfl⟩ : ∃ z, n9 = z + 1 := ⟨n9 - 1, by omega⟩
    cases T with
    | nil => simp at hk
    | cons b t =>
      rw [List.length_cons] at hk
      have hbm : b ∈ offl nb (R 26) (R 19) a := by rw [hT]; exact List.mem_cons_self
      have hb5 := (rg_m.mp (List.mem_filter.mp hbm).1).2
      have hfo : f_X10_firstOf N (nI a) R = some (nI b, R) := by
        rw [r_firstOf (M := R) r1 (by omega) hN, hT]
        rfl
      obtain ⟨s1, s2, s3⟩ := hst b (by omega)
      have hT1 : offl nb (sR w p tn dn kf bf b R 26) (sR w p tn dn kf bf b R 19) a = t := by
        rw [sR_26, sR_19]
        exact offl_hd hT (by decide)
      have z0 : sR w p tn dn kf bf b R 0 = R 0 := sR_0
      rw [List.take_succ_cons]
      refine Eq.trans ?_ (ih (n + 1) n9 t _ (by omega) (by omega) (by omega) hT1 (stt_s hst) (by rw [z0]; exact r1) (by rw [z0]; exact r2) (by rw [z0]; exact r3) ((congrFun (sR_27 (by omega)) h).trans r4) ((congrFun (sR_27 (by omega)) h).trans r5) ((congrFun (sR_27 (by omega)) h).trans r6))
      show f_X10_gets_2_b N (f_X10_gets_2 N n9) (nI h) (nI m) (nI n) R = _
      have he : ¬ m ≤ n := by omega
      generalize f_X10_gets_2 N n9 = F
      unfold f_X10_gets_2_b sR
      simp (disch := omega) only [nI_leI, he, ↓reduceIte, g_inN, nI_clamp, gq_l_e, r4, hfo, gq_b_s, up_no, up_same, r5, r6, r2, r3, s1, s2, nI_1]
theorem pk_again (H : PK S nb nl nr tn dn M R) (hh : h < 3) : PK S nb nl nr tn dn (bgL h 0 (gq_up (gq_up M 115 (8 * h) 1) 115 (8 * h + 4) (-1))) (bgR h (8 * h) (gq_up (gq_up R 35 h 1) 39 h (-1))) := by
  obtain ⟨hnb, hnl, hnr, htn, hdn, hop, hdr, hkd, hby, hqu, hbt, hha, hpr, hbx, hbz, hlt, hlo⟩ := H
  refine ⟨hnb, hnl, hnr, htn, hdn, hop, hdr, hkd, hby, hqu, hbt, fun q hq => ?_, PR_bg hh (fun a h1 h2 => ?_) (fun a h1 h2 => ?_) hpr, hbx, hbz, hlt, hlo⟩
  · obtain ⟨k1, k2⟩ := hha q hq
    refine ⟨HS_cg k1 (fun i h1 h2 => ?_) (fun a h1 => ?_), fun hs => ?_⟩
    · simp (disch := omega) only [bgL_o, up_no]
    · rcases h1 with rfl | rfl | rfl <;> simp (disch := omega) only [bgR_o, up_no]
    · obtain ⟨q1, q2, q3, q4, q5, q6, q7⟩ := k2 hs
      by_cases hc : q = h
      · subst hc
        refine ⟨?_, ?_, ?_, ?_, ?_, ?_, ?_⟩
        · simp (disch := omega) only [bgL_o, bgR_o, up_no, up_same]
        · simp (disch := omega) only [bgL_o, bgR_o, up_no, up_same]; exact q2
        · simp (disch := omega) only [bgL_o, bgR_o, up_no, up_same]; exact q3
        · simp (disch := omega) only [bgL_o, bgR_o, up_no, up_same]
        · simp (disch := omega) only [bgR_o, up_no, up_same]
          exact q5
        · refine Or.inl ?_
          simp (disch := omega) only [bgR_o, up_same]
        · simp (disch := omega) only [bgR_o, up_no, up_same]
          exact q7
      · refine HA_cg ⟨q1, q2, q3, q4, q5, q6, q7⟩ (fun i h1 h2 => ?_) (fun a h1 h2 h3 => ?_) (Nat.le_refl _) (fun a h1 h2 h3 => ⟨h2, h3⟩)
        · simp (disch := omega) only [bgL_o, up_no]
        · simp (disch := omega) only [bgR_o, up_no]
  · simp (disch := omega) only [up_ne]
  · simp (disch := omega) only [up_ne]
set_option maxHeartbeats 1000000 in
theorem s2_goesOn {a : Nat} (H : PK S nb nl nr tn dn M R) (hh : h < 3) (hN : 600 ≤ N) (hs : S h) (ha : a < nl) (hat : R 36 h = nI a) (hdz : R 32 a = 0) (hlh : R 31 a = nI h) : ∃ M2 R2, f_L_goesOn N (nI h) M = some (0, M2) ∧ (∀ (G : Int32 → Int32 → Int32 → gq_M → Option (Int32 × gq_M)) (m : Nat), f_X10_gets_2_b N G (nI h) (nI m) (nI m) R = some (0, R2)) ∧ PK S nb nl nr tn dn M2 R2 ∧ R2 0 = R 0 := by
  have hnb := pq_nb H
  have hMa : M 115 (8 * h + 1) = nI a := ((pq_ha H h hh).2 hs).2.1.trans hat
  have e8 : 8 * nI h = nI (8 * h) := pl8z h
  have e1 : nI (8 * h) + 1 = nI (8 * h + 1) := nI_1 _
  have e4 : nI (8 * h) + 4 = nI (8 * h + 4) := by rw [show (4 : Int32) = nI 4 from rfl, nI_add]
  have hl1 := l_left (N := N) (l := a) hnb.1 hnb.2.2 (pq_bx H) hN
  have hr1 := r_leftOf (N := N) (l := a) (M := R) hnb.2.1 (by omega) hN
  by_cases c : (offl nb (R 26) (R 19) a).length = 0
  · obtain ⟨M2, R2, d1, d2, P2, d3, -, -⟩ := s2_ends (N := N) H hh hN ha hat hdz hlh hMa
    refine ⟨M2, R2, ?_, fun G m => ?_, pk_S P2 (fun q _ z => Or.inl z), d3⟩
    · unfold f_L_goesOn
      simp (disch := omega) only [e8, e1, g_inN, nI_clamp, gq_l_e, hMa, hl1, gq_b_s, c, nI_0, ↓reduceIte, d1]
    · unfold f_X10_gets_2_b
      rw [if_pos (Int32.le_refl _)]
      simp (disch := omega) only [g_inN, nI_clamp, gq_l_e, hat, hr1, gq_b_s, c, nI_0, ↓reduceIte, d2]
  · have hlen : (offl nb (R 26) (R 19) a).length ≤ nb := cnt_rg 0 nb _
    have hne : ¬ nI (offl nb (R 26) (R 19) a).length = 0 := fun z => c ((nI_j (b := 0) (by omega) (by omega)).mp z)
    refine ⟨_, _, ?_, fun G m => ?_, pk_again H hh, rfl⟩
    · unfold f_L_goesOn
      simp (disch := omega) only [e8, e1, e4, g_inN, nI_clamp, gq_l_e, hMa, hl1, gq_b_s, eq_false hne, ↓reduceIte, l_begins hh hN]
    · unfold f_X10_gets_2_b
      rw [if_pos (Int32.le_refl _)]
      simp (disch := omega) only [g_inN, nI_clamp, gq_l_e, hat, hr1, gq_b_s, eq_false hne, ↓reduceIte, r_begins hh hN]
end

