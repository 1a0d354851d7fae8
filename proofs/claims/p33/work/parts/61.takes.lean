/-! pure: a winner takes -/
theorem hall_s3 {h nb nl tn : Nat} {C R : gq_M} (k : K_hall h nb nl tn C R) (hc : R 35 h = 3) : ∃ a p w : Nat, a < nl ∧ R 36 h = nI a ∧ R 31 a = nI h ∧ (∀ l, l < nl → R 31 l = nI h → (R 32 l = 0 ↔ a ≤ l)) ∧ R 37 h = nI p ∧ 1 ≤ p ∧ p ≤ 10000 ∧ C 88 h = R 38 h ∧ w < 8 ∧ R 39 h = nI w := by
  obtain ⟨-, -, -, -, -, -, k7⟩ := k
  rcases k7 with ⟨q1, -⟩ | ⟨a, p, q1, q2, q3, q4, q5, q6, q7, ⟨w1, -⟩ | ⟨w1, -⟩ | ⟨-, w1, w, -, w2, w3⟩⟩
  · rw [hc] at q1; exact absurd q1 (by decide)
  · rw [hc] at w1; exact absurd w1 (by decide)
  · rw [hc] at w1; exact absurd w1 (by decide)
  · exact ⟨a, p, w, q1, q2, q3, q4, q5, q6, q7, w1, by omega, w3⟩
theorem invd_thr {nb nl nr tn : Nat} {C R : gq_M} {v : Int32} (I : INVd nb nl nr tn C R) : INVd nb nl nr tn C (thr R v) := by
  obtain ⟨H, hwt, hsg, hhl⟩ := I
  obtain ⟨hnb, hnl, hnr, htn, hda, hop, hdr, hqu, hai, hid, hac, hlk, hla, hks, hkm, hkh, hbg, hbd, hbo, hbl, hbb, hst, hpw, hxb, hxk, hxr, hxs, hxf, hxl, hxc, hxi, hxp, hsu, hmo, hsb, hlo, hlb, hlf, hlh, hld, hlr, hcl⟩ := H
  exact ⟨⟨hnb, hnl, hnr, htn, hda, hop, hdr, hqu, hai, hid, hac, hlk, hla, hks, hkm, hkh, hbg, hbd, hbo, hbl, hbb, hst, hpw, hxb, hxk, hxr, hxs, hxf, hxl, hxc, hxi, hxp, hsu, hmo, hsb, hlo, hlb, hlf, hlh, hld, hlr, hcl⟩, hwt, hsg, hhl⟩
theorem invd_inv {nb nl nr tn : Nat} {C R : gq_M} (I : INVd nb nl nr tn C R) : INV C R := core_inv I.1 I.2.1 I.2.2.1 I.2.2.2
theorem inv_invd {C R : gq_M} (I : INV C R) : ∃ nb nl nr tn, INVd nb nl nr tn C R := inv_core I
set_option maxHeartbeats 1000000 in
theorem s_nosale {N h nb nl nr tn : Nat} {C R : gq_M} (I : INVd nb nl nr tn C R) (hN : 600 ≤ N) (hh : h < 3) (hc : R 35 h = 3) : ∃ C2 R2, f_X9_goOn N (nI h) C = some (0, C2) ∧ f_X10_gets N (nI h) 0 R = some (0, R2) ∧ INVd nb nl nr tn C2 R2 ∧ R2 0 = R 0 := by
  obtain ⟨H, hwt, hsg, hhl⟩ := I
  obtain ⟨a, p, w, q1, q2, q3, q4, q5, q6, q7, -, -, -⟩ := hall_s3 (hhl h hh) hc
  obtain ⟨k1, k2, k3, k4, k5, k6, -⟩ := hhl h hh
  obtain ⟨z, rfl⟩ : ∃ z, N = z + 1 := ⟨N - 1, by omega⟩
  obtain ⟨C2, R2, t1, t2, H2, K2, O2, f1, f2⟩ := s_post (N := z + 1) (m := 0) (f_X10_gets_2 (z + 1) z) H hN hh q1 (k2.trans q2) q2 q3 q4 k5 (fun l hl _ hd => k6 l hl hd) (k3.trans q5) q5 q6 q7 (hsg a q1)
  refine ⟨C2, R2, t1, t2, ⟨H2, ?_, ?_, fun h2 hh2 => ?_⟩, f2 0 (by decide)⟩
  · rw [f1 15 (by decide)]; exact hwt
  · rw [f1 69 (by decide), f1 71 (by decide), f1 73 (by decide), f2 26 (by decide), f2 19 (by decide)]; exact hsg
  · by_cases hhh : h2 = h
    · subst hhh; exact K2
    · exact O2 h2 hh2 hhh (hhl h2 hh2)
set_option maxHeartbeats 1000000 in
theorem s_sale {N a h m nb nl nr tn : Nat} {C R : gq_M} (I : INVd nb nl nr tn C R) (hN : 600 ≤ N) (hh : h < 3) (hc : R 35 h = 3) (hat : R 36 h = nI a) (ha : a < nl) (hm : m ≤ (offl nb (R 26) (R 19) a).length) : ∃ C1 C2 R2, f_X9_sellFirst N (nI h) (nI m) C = some (0, C1) ∧ f_X9_goOn N (nI h) C1 = some (0, C2) ∧ f_X10_gets N (nI h) (nI m) R = some (0, R2) ∧ INVd nb nl nr tn C2 R2 ∧ R2 0 = R 0 := by
  obtain ⟨H, hwt, hsg, hhl⟩ := I
  have hnb := core_nb H
  have hnl := core_nl H
  have hlen := offl_len nb a (R 26) (R 19)
  obtain ⟨a2, p, w, q1, q2, q3, q4, q5, q6, q7, -, hw, w3⟩ := hall_s3 (hhl h hh) hc
  obtain rfl : a2 = a := (nI_eq (by omega) (by omega)).mp (q2.symm.trans hat)
  obtain ⟨k1, k2, k3, k4, k5, k6, -⟩ := hhl h hh
  obtain ⟨f, g1, g2, g3, g4⟩ := hsg a2 q1
  obtain ⟨C1, R1, t1, t2, H1, t3, t4, f1, f2⟩ := s_sells (N := N) (a := a2) (f := f) (h := h) (m := m) hw q6 q7 hh (by omega) (by omega) (fun _ _ _ _ => none) m 0 N N (offl nb (R 26) (R 19) a2) C R (by omega) (by omega) (by omega) H g1 (fun i b hi => g4 i b hi) (by omega) rfl hm q2 w3 q5 hN
  have hI2 : isNd (R1 31) (R1 32) h = isNd (R 31) (R 32) h := by rw [f2 31 (by decide), f2 32 (by decide)]
  have H1' : CORE nb nl nr tn (gq_up C1 69 a2 (nI (f + m))) R1 := H1
  have hb1 : C1 71 = C 71 := f1 71 (by decide)
  have ho1 : C1 73 = C 73 := f1 73 (by decide)
  have hf1 : C1 69 = C 69 := f1 69 (by decide)
  have hseg : K_seg nb nl (upd (C1 69) a2 (nI (f + m))) (C1 71) (C1 73) (R1 26) (R1 19) := by
    intro l hl
    rw [hb1, ho1, hf1]
    by_cases hla2 : l = a2
    · subst hla2
      rw [t3]
      refine ⟨f + m, upd_s _ _ _, ?_, ?_, fun i b hi => ?_⟩
      · rw [g2, List.length_drop]
        congr 1
        omega
      · rw [List.length_drop]; omega
      · rw [List.getElem?_drop] at hi
        rw [Nat.add_assoc]
        exact g4 (m + i) b hi
    · rw [t4 l (by omega) hla2]
      obtain ⟨f', e1, e2, e3, e4⟩ := hsg l hl
      exact ⟨f', (upd_n hla2).trans e1, e2, e3, e4⟩
  have hne2 : ∀ l, l < nl → l ≠ a2 → isNd (R1 31) (R1 32) h l = true → offl nb (R1 26) (R1 19) l ≠ [] := fun l hl hn hd => by
    rw [t4 l (by omega) hn]
    rw [hI2] at hd
    exact k6 l hl hd
  obtain ⟨C2, R2, u1, u2, H2, K2, O2, f3, f4⟩ := s_post (N := N) (h := h) (a := a2) (m := m) (p := p) (fun _ _ _ _ => none) H1' hN hh q1 ((congrFun (f1 80 (by decide)) h).trans (k2.trans q2)) ((congrFun (f2 36 (by decide)) h).trans q2) ((congrFun (f2 31 (by decide)) a2).trans q3) (fun l hl hq => by
      have e5 : R1 32 l = R 32 l := congrFun (f2 32 (by decide)) l
      have e6 : R1 31 l = R 31 l := congrFun (f2 31 (by decide)) l
      rw [e5]; rw [e6] at hq
      exact q4 l hl hq) (by
      rw [hI2]
      exact (congrFun (f1 86 (by decide)) h).trans k5) hne2 ((congrFun (f1 82 (by decide)) h).trans (k3.trans q5)) ((congrFun (f2 37 (by decide)) h).trans q5) q6 q7 (hseg a2 q1)
  have hlotC : C 80 h = nI a2 := k2.trans q2
  have hwC : C 84 h = nI w := k4.trans w3
  have hpC : C 82 h = nI p := k3.trans q5
  refine ⟨_, C2, R2, ?_, u1, ?_, ⟨H2, ?_, ?_, fun h2 hh2 => ?_⟩, ?_⟩
  · unfold f_X9_sellFirst
    rw [b_atN hh (by omega), b_atN hh (by omega), b_atN hh (by omega), hlotC, hwC, hpC]
    exact t1
  · exact t2.trans u2
  · rw [f3 15 (by decide)]
    have e5 : C1 15 = C 15 := f1 15 (by decide)
    intro j hj
    exact (congrFun e5 j).trans (hwt j hj)
  · rw [f3 69 (by decide), f3 71 (by decide), f3 73 (by decide), f4 26 (by decide), f4 19 (by decide)]; exact hseg
  · by_cases hhh : h2 = h
    · subst hhh; exact K2
    · refine O2 h2 hh2 hhh (hall_fr (hhl h2 hh2) (congrFun (f1 78 (by decide)) _) (congrFun (f1 80 (by decide)) _) (congrFun (f1 82 (by decide)) _) (congrFun (f1 84 (by decide)) _) (congrFun (f1 86 (by decide)) _) (congrFun (f1 88 (by decide)) _) (congrFun (f2 _ (by decide)) _) (congrFun (f2 _ (by decide)) _) (congrFun (f2 _ (by decide)) _) (congrFun (f2 _ (by decide)) _) (congrFun (f2 _ (by decide)) _) (fun l _ => congrFun (f2 _ (by decide)) l) (fun l _ _ => congrFun (f2 _ (by decide)) l) (fun l hl hd q => ?_) (Nat.le_refl _) (fun j hj => ⟨congrFun (f1 95 (by decide)) _, congrFun (f1 97 (by decide)) _, congrFun (f1 99 (by decide)) _, congrFun (f2 _ (by decide)) _, congrFun (f2 _ (by decide)) _, congrFun (f2 _ (by decide)) _, congrFun (f2 _ (by decide)) _⟩))
      have hlh := (of_decide_eq_true hd).1
      have hla2 : l ≠ a2 := fun h9 => by
        subst h9
        exact hhh ((nI_eq (by omega) (by omega)).mp (hlh.symm.trans q3))
      rw [t4 l (by omega) hla2]
      exact q
  · rw [f4 0 (by decide), f2 0 (by decide)]
set_option maxHeartbeats 1000000 in
theorem s_taking {N h nb nl nr tn : Nat} {C R : gq_M} (I : INVd nb nl nr tn C R) (hN : 600 ≤ N) (hh : h < 3) (hc : R 35 h = 3) : TOUT nb nl nr tn R (f_X9_tickTaking N (nI h) C) (f_X10_waits N (nI h) R) := by
  have I0 := I
  obtain ⟨H, hwt, hsg, hhl⟩ := I
  have H0 := H
  obtain ⟨hnb, hnl, hnr, htn, hda, hop, hdr, hqu, hai, hid, hac, hlk, hla, hks, hkm, hkh, hbg, hbd, hbo, hbl, hbb, hst, hpw, hxb, hxk, hxr, hxs, hxf, hxl, hxc, hxi, hxp, hsu, hmo, hsb, hlo, hlb, hlf, hlh, hld, hlr, hcl⟩ := H0
  have hb150 := hnb.2.2
  have hl150 := hnl.2.2
  obtain ⟨a, p, w, q1, q2, q3, q4, q5, q6, q7, w1, hw, w3⟩ := hall_s3 (hhl h hh) hc
  obtain ⟨k1, k2, k3, k4, k5, k6, -⟩ := hhl h hh
  have hne := k6 a q1 (decide_eq_true ⟨q3, (q4 a q1 q3).mpr (Nat.le_refl _)⟩)
  have hlen1 : 1 ≤ (offl nb (R 26) (R 19) a).length := Nat.pos_of_ne_zero fun h9 => hne (List.length_eq_zero_iff.mp h9)
  have hcC : f_X9_costOfFirst N (nI h) 1 C = some (lsum ((offl nb (R 26) (R 19) a).take 1) (R 17) * nI p, C) := by
    have := m_cost (N := N) (m := 1) H hN hh q1 (k2.trans q2) (hsg a q1) hlen1
    rw [k3.trans q5] at this
    exact this
  have hcR : f_X10_costOf N (nI a) 1 (nI p) R = some (lsum ((offl nb (R 26) (R 19) a).take 1) (R 17) * nI p, R) := r_cost (N := N) (m := 1) hnb.2.1 hb150 (by omega) hN
  generalize lsum ((offl nb (R 26) (R 19) a).take 1) (R 17) * nI p = cost at hcC hcR
  have hwC : C 84 h = nI w := k4.trans w3
  unfold f_X9_tickTaking f_X10_waits f_X9_tickTaking_52 f_X10_waits_50 f_X2_leftOf
  by_cases cU : R 38 h ≤ nI tn
  · have cU2 : ¬ nI tn < R 38 h := Int32.not_lt.mpr cU
    by_cases cP : cost ≤ R 9 w - R 11 w
    · have cP2 : ¬ R 9 w - R 11 w < cost := Int32.not_lt.mpr cP
      obtain ⟨C1, C2, R2, e1, e2, e3, I2, e4⟩ := s_sale (N := N) (m := 1) I0 hN hh hc q2 q1 hlen1
      have e1' : f_X9_sellFirst N (nI h) 1 C = some (0, C1) := e1
      have e3' : f_X10_gets N (nI h) 1 R = some (0, R2) := e3
      simp (disch := omega) only [↓b_atN, w1, htn.1, htn.2.1, cU, cU2, ↓reduceIte, hcC, ↓gq_b_s, hwC, hbg w hw, hbo w hw, cP2, e1', e2, ↓g_inN, ↓gq_l_e, nI_clamp, w3, q2, q5, hcR, b_canPay, bI_z, cP, e3', not_true_eq_false]
      exact ⟨C2, R2, rfl, rfl, I2, by rw [e4]⟩
    · have cP2 : R 9 w - R 11 w < cost := Int32.not_le.mp cP
      obtain ⟨C2, R2, e2, e3, I2, e4⟩ := s_nosale (N := N) I0 hN hh hc
      simp (disch := omega) only [↓b_atN, w1, htn.1, htn.2.1, cU, cU2, ↓reduceIte, hcC, ↓gq_b_s, hwC, hbg w hw, hbo w hw, cP2, e2, ↓g_inN, ↓gq_l_e, nI_clamp, w3, q2, q5, hcR, b_canPay, bI_z, cP, e3, not_false_eq_true]
      exact ⟨C2, R2, rfl, rfl, I2, by rw [e4]⟩
  · have cU2 : nI tn < R 38 h := Int32.not_le.mp cU
    simp (disch := omega) only [↓b_atN, w1, htn.1, htn.2.1, cU, cU2, ↓reduceIte, ↓g_inN, ↓gq_l_e, nI_clamp]
    exact ⟨C, R, rfl, rfl, I0, rfl⟩

