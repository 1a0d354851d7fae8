/-! a lot's boxes withdrawn, counted, sold -/
section
variable {S : Nat → Prop} {N h l nb nl nr tn dn : Nat} {M R : gq_M}
theorem pq_nb (H : PK S nb nl nr tn dn M R) : M 119 4 = nI nb ∧ R 0 16 = nI nb ∧ nb ≤ 40 := H.1
theorem pq_nl (H : PK S nb nl nr tn dn M R) : M 119 5 = nI nl ∧ R 0 31 = nI nl ∧ nl ≤ nb := H.2.1
theorem pq_bx (H : PK S nb nl nr tn dn M R) : ∀ b, b < nb → BX M R b := by
  obtain ⟨hnb, hnl, hnr, htn, hdn, hop, hdr, hkd, hby, hqu, hbt, hha, hpr, hbx, hbz, hlt, hlo⟩ := H
  exact hbx
theorem pq_ha (H : PK S nb nl nr tn dn M R) : ∀ q, q < 3 → HS M R q ∧ (S q → HA nl M R q) := by
  obtain ⟨hnb, hnl, hnr, htn, hdn, hop, hdr, hkd, hby, hqu, hbt, hha, hpr, hbx, hbz, hlt, hlo⟩ := H
  exact hha
theorem s2_wdAll_l : ∀ (k i n8 n9 : Nat) (acc : Int32) (M R : gq_M), PK S nb nl nr tn dn M R → i + k = nb → k < n8 → k < n9 → ∃ v M2 R2, f_L_withdraws_6 N n8 (nI l) acc (nI i) M = some (v, M2) ∧ f_X10_withdrawsAll_4 N n9 (nI l) acc (nI i) R = some (v, R2) ∧ PK S nb nl nr tn dn M2 R2 ∧ R2 0 = R 0 ∧ R2 26 = R 26 ∧ (∀ a, 27 ≤ a → R2 a = R a) ∧ (∀ a, a ≠ 109 → a ≠ 121 → M2 a = M a) := by
  intro k
  induction k with
  | zero =>
    intro i n8 n9 acc M R H hi h8 h9
    obtain ⟨n8, rfl⟩ : ∃ z, n8 = z + 1 := ⟨n8 - 1, by omega⟩
    obtain ⟨n9, rfl⟩ : ∃ z, n9 = z + 1 := ⟨n9 - 1, by omega⟩
    have hnb := pq_nb H
    have he : nb ≤ i := by omega
    have hb := hnb.2.2
    refine ⟨acc, M, R, ?_, ?_, H, rfl, rfl, fun a _ => rfl, fun a _ _ => rfl⟩
    · show f_L_withdraws_6_b N (f_L_withdraws_6 N n8) (nI l) acc (nI i) M = _
      unfold f_L_withdraws_6_b
      simp (disch := omega) only [gi4_56, cl4, gq_l_e, hnb.1, nI_leI, he, ↓reduceIte]
    · show f_X10_withdrawsAll_4_b N (f_X10_withdrawsAll_4 N n9) (nI l) acc (nI i) R = _
      unfold f_X10_withdrawsAll_4_b
      simp (disch := omega) only [hnb.2.1, nI_leI, he, ↓reduceIte]
  | succ k ih =>
    intro i n8 n9 acc M R H hi h8 h9
    obtain ⟨n8, rfl⟩ : ∃ z, n8 = z + 1 := ⟨n8 - 1, by omega⟩
    obtain ⟨n9, rfl⟩ : ∃ z, n9 = z + 1 := ⟨n9 - 1, by omega⟩
    have hnb := pq_nb H
    have hb := hnb.2.2
    have he : ¬ nb ≤ i := by omega
    have hB := pq_bx H i (by omega)
    by_cases ho : isO R l i = true
    · obtain ⟨M1, R1, e1, e2, P1, z1, z2, z3, z4, z5⟩ := s2_wd (N := N) H (by omega) ho
      obtain ⟨v, M2, R2, t1, t2, P2, y1, y2, y3, y4⟩ := ih (i + 1) n8 n9 (acc + 1) M1 R1 P1 (by omega) (by omega) (by omega)
      obtain ⟨o1, o2⟩ := of_decide_eq_true ho
      refine ⟨v, M2, R2, (e1 _ _).trans t1, ?_, P2, y1.trans z1, y2.trans z3, fun a ha => (y3 a ha).trans (z4 a ha), fun a h1 h2 => (y4 a h1 h2).trans (z5 a h1 h2)⟩
      show f_X10_withdrawsAll_4_b N (f_X10_withdrawsAll_4 N n9) (nI l) acc (nI i) R = _
      unfold f_X10_withdrawsAll_4_b f_X10_withdrawsAll_40
      simp (disch := omega) only [hnb.2.1, nI_leI, he, ↓reduceIte, g_inN, nI_clamp, gq_l_e, o1, o2, e2, gq_b_s, nI_1]
      exact t2
    · obtain ⟨v, M2, R2, t1, t2, P2, y1, y2, y3, y4⟩ := ih (i + 1) n8 n9 acc M R H (by omega) (by omega) (by omega)
      refine ⟨v, M2, R2, ?_, ?_, P2, y1, y2, y3, y4⟩
      · show f_L_withdraws_6_b N (f_L_withdraws_6 N n8) (nI l) acc (nI i) M = _
        unfold f_L_withdraws_6_b f_L_withdraws_195
        simp (disch := omega) only [gi4_56, cl4, gq_l_e, hnb.1, nI_leI, he, ↓reduceIte, b_isLeft hB (show i < 40 by omega), bI_f ho, nI_1]
        exact t1
      · show f_X10_withdrawsAll_4_b N (f_X10_withdrawsAll_4 N n9) (nI l) acc (nI i) R = _
        unfold f_X10_withdrawsAll_4_b f_X10_withdrawsAll_40
        by_cases c1 : R 26 i = nI l
        · have c2 : ¬ R 19 i = 2 := fun c2 => ho (by unfold isO; simp [c1, c2])
          simp (disch := omega) only [hnb.2.1, nI_leI, he, ↓reduceIte, g_inN, nI_clamp, gq_l_e, c1, c2, nI_1]
          exact t2
        · simp (disch := omega) only [hnb.2.1, nI_leI, he, ↓reduceIte, g_inN, nI_clamp, gq_l_e, c1, nI_1]
          exact t2
theorem s2_wdAll (H : PK S nb nl nr tn dn M R) (hN : 600 ≤ N) : ∃ v M2 R2, f_L_withdraws N (nI l) M = some (v, M2) ∧ f_X10_withdrawsAll N (nI l) R = some (v, R2) ∧ PK S nb nl nr tn dn M2 R2 ∧ R2 0 = R 0 ∧ R2 26 = R 26 ∧ (∀ a, 27 ≤ a → R2 a = R a) ∧ (∀ a, a ≠ 109 → a ≠ 121 → M2 a = M a) := by
  have hb := (pq_nb H).2.2
  exact s2_wdAll_l nb 0 N N 0 M R H (by omega) (by omega) (by omega)
-- what the first boxes cost
theorem l_cost_l {m : Nat} {v w : Int32} (hM : M 119 4 = nI nb) (hb : nb ≤ 40) (hm : m ≤ 150) (hB : ∀ b, b < nb → BX M R b) : ∀ (k i n9 c : Nat) (acc : Int32), i + k = nb → k < n9 → c ≤ m → f_L_costs_45 N n9 (nI m) 0 (nI l) v w acc (nI c) (nI i) M = some (acc + lsum (((rg i k).filter (isO R l)).take (m - c)) (fun b => R 17 b * v), M) := by
  intro k
  induction k with
  | zero =>
    intro i n9 c acc hi h9 hc
    obtain ⟨n9, rfl⟩ : ∃ z, n9 = z + 1 := ⟨n9 - 1, by omega⟩
    have he : nb ≤ i := by omega
    show f_L_costs_45_b N (f_L_costs_45 N n9) (nI m) 0 (nI l) v w acc (nI c) (nI i) M = _
    unfold f_L_costs_45_b f_L_costs_176
    simp (disch := omega) only [gi4_56, cl4, gq_l_e, hM, nI_leI, he, ↓reduceIte]
    rw [show (rg i 0).filter (isO R l) = [] from rfl, List.take_nil]
    exact congrArg (fun x => some (x, M)) (Int32.add_zero acc).symm
  | succ k ih =>
    intro i n9 c acc hi h9 hc
    obtain ⟨n9, rfl⟩ : ∃ z, n9 = z + 1 := ⟨n9 - 1, by omega⟩
    have he : ¬ nb ≤ i := by omega
    have hBi := hB i (by omega)
    show f_L_costs_45_b N (f_L_costs_45 N n9) (nI m) 0 (nI l) v w acc (nI c) (nI i) M = _
    rw [rg_s, List.filter_cons]
    unfold f_L_costs_45_b f_L_costs_176 f_L_costs_170
    by_cases c3 : m ≤ c
    · simp (disch := omega) only [gi4_56, cl4, gq_l_e, hM, nI_leI, he, c3, ↓reduceIte]
      rw [show m - c = 0 by omega, List.take_zero]
      exact congrArg (fun x => some (x, M)) (Int32.add_zero acc).symm
    · by_cases c1 : isO R l i = true
      · simp (disch := omega) only [gi4_56, cl4, gq_l_e, hM, nI_leI, he, c3, ↓reduceIte, b_isLeft hBi (show i < 40 by omega), bI_t c1, f10, g_inN, nI_clamp, (BX_e hBi).1, nI_1]
        rw [ih (i + 1) n9 (c + 1) _ (by omega) (by omega) (by omega), show m - c = (m - (c + 1)) + 1 by omega, if_pos c1, List.take_succ_cons, Int32.add_assoc]
        rfl
      · simp (disch := omega) only [gi4_56, cl4, gq_l_e, hM, nI_leI, he, c3, ↓reduceIte, b_isLeft hBi (show i < 40 by omega), bI_f c1, nI_1]
        rw [if_neg c1]
        exact ih (i + 1) n9 c acc (by omega) (by omega) hc
theorem l_cost {m : Nat} (H : PK S nb nl nr tn dn M R) (hN : 600 ≤ N) (hm : m ≤ 150) (hh : h < 3) (hs : S h) (hat : R 36 h = nI l) : f_L_costs N (nI h) (nI m) 0 M = some (lsum ((offl nb (R 26) (R 19) l).take m) (R 17) * R 37 h, M) := by
  obtain ⟨k1, k2, k3, -⟩ := (pq_ha H h hh).2 hs
  have hnb := pq_nb H
  unfold f_L_costs
  have e8 : 8 * nI h = nI (8 * h) := pl8z h
  have e1 : nI (8 * h) + 1 = nI (8 * h + 1) := nI_1 _
  have e2 : nI (8 * h) + 2 = nI (8 * h + 2) := by rw [show (2 : Int32) = nI 2 from rfl, nI_add]
  have e4 : nI (8 * h) + 4 = nI (8 * h + 4) := by rw [show (4 : Int32) = nI 4 from rfl, nI_add]
  simp (disch := omega) only [e8, e1, e2, e4, g_inN, nI_clamp, gq_l_e, k2, k3, hat]
  rw [← lsum_mul, show f_L_costs_45 N N (nI m) 0 (nI l) (R 37 h) (M 115 (8 * h + 4)) 0 0 0 M = _ from l_cost_l (v := R 37 h) (w := M 115 (8 * h + 4)) hnb.1 hnb.2.2 hm (pq_bx H) nb 0 N 0 0 (by omega) (by omega) (Nat.zero_le _), Int32.zero_add]
  rfl
-- boxes are sold
def sR (w p tn dn : Nat) (kf : Nat → Int32) (bf : Nat → Nat) (b : Nat) (R : gq_M) : gq_M := gq_up (gq_up (gq_up (gq_up (gq_up (gq_up (gq_up R 19 b 3) 21 b (nI w)) 22 b (nI p)) 23 b (nI tn)) 24 b (nI dn)) 11 w (R 11 w + kf b * nI p)) 5 (bf b) (R 5 (bf b) + kf b * nI p)
def sL (w p tn dn : Nat) (kf : Nat → Int32) (bf : Nat → Nat) (b : Nat) (M : gq_M) : gq_M := gq_up (gq_up (gq_up (gq_up (gq_up M 109 b (M 109 b + 2048 * (3 - 2))) 112 b (nI w + 1 + 16 * nI p)) 113 b (nI tn + 131072 * nI dn)) 119 (40 + w) (M 119 (40 + w) + kf b * nI p)) 121 (16 + bf b) (M 121 (16 + bf b) + kf b * nI p)
def fo (f : Nat → gq_M → gq_M) : List Nat → gq_M → gq_M
  | [], M => M
  | b :: t, M => fo f t (f b M)
set_option maxHeartbeats 1000000 in
theorem pk_sell {b w p : Nat} {kf : Nat → Int32} {bf : Nat → Nat} (H : PK S nb nl nr tn dn M R) (hb : b < nb) (hs : R 19 b = 2) (hw : w < 8) (hp1 : 1 ≤ p) (hp2 : p ≤ 10000) (hk : R 17 b = kf b) (hbf : R 13 b = nI (bf b)) (hbf8 : bf b < 8) : PK S nb nl nr tn dn (sL w p tn dn kf bf b M) (sR w p tn dn kf bf b R) := by
  obtain ⟨hnb, hnl, hnr, htn, hdn, hop, hdr, hkd, hby, hqu, hbt, hha, hpr, hbx, hbz, hlt, hlo⟩ := H
  unfold sL sR
  refine ⟨⟨(by simp (disch := omega) only [up_no]; exact hnb.1), hnb.2⟩, ⟨(by simp (disch := omega) only [up_no]; exact hnl.1), hnl.2⟩, ⟨(by simp (disch := omega) only [up_no]; exact hnr.1), hnr.2⟩, ⟨(by simp (disch := omega) only [up_no]; exact htn.1), htn.2⟩, ⟨(by simp (disch := omega) only [up_no]; exact hdn.1), hdn.2⟩, ⟨(by simp (disch := omega) only [up_no]; exact hop.1), hop.2⟩, (by simp (disch := omega) only [up_no]; exact hdr), (fun j hj => by simp (disch := omega) only [up_no]; exact hkd j hj), fun j hj => ?_, hqu, fun j hj => ?_, fun q hq => ?_, hpr, fun j hj => ?_, fun j h1 h2 => ?_, hlt, hlo⟩
  · obtain ⟨p1, p2, p3, p4, p5, p6⟩ := hby j hj
    by_cases e : j = w
    · subst e
      simp (disch := omega) only [up_no, up_same]
      exact ⟨p1, p2, by rw [p3], p4, p5, p6⟩
    · simp (disch := omega) only [up_no]
      exact ⟨p1, p2, p3, p4, p5, p6⟩
  · obtain ⟨p1, p2, p3, p4⟩ := hbt j hj
    by_cases e : j = bf b
    · subst e
      simp (disch := omega) only [up_no, up_same]
      exact ⟨p1, p2, by rw [p3], p4⟩
    · simp (disch := omega) only [up_no]
      exact ⟨p1, p2, p3, p4⟩
  · obtain ⟨k1, k2⟩ := hha q hq
    refine ⟨HS_cg k1 (fun i h1 h2 => by simp (disch := omega) only [up_no]) (fun a h1 => by rcases h1 with rfl | rfl | rfl <;> simp (disch := omega) only [up_no]), fun hs => HA_cg (k2 hs) (fun i h1 h2 => by simp (disch := omega) only [up_no]) (fun a h1 h2 h3 => by simp (disch := omega) only [up_no]) (Nat.le_refl _) (fun a h1 h2 h3 => ⟨h2, h3⟩)⟩
  · by_cases e : j = b
    · subst e
      obtain ⟨bo, ki, si, fr, st, wc, cl, kl, re, so, h1, h2, h3, h4, h5, h6⟩ := hbx j hj
      obtain ⟨g1, g2, g3, g4, g5, g6, g7, g8, g9⟩ := h2
      rw [hs] at g5
      have hst : st = 2 := ((nI_j (a := 2) (by omega) (by omega)).mp g5).symm
      subst hst
      refine ⟨bo, ki, si, fr, 3, wc, cl, kl, re, so, by omega, ⟨?_, ?_, ?_, ?_, ?_, ?_, ?_, ?_, ?_⟩, ?_, ?_, ?_, Or.inr ⟨w, p, tn, dn, hw, hp1, hp2, htn.2.2, hdn.2.2, ?_, ?_, ?_, ?_, ?_, ?_⟩⟩
      · simp (disch := omega) only [up_no]; exact g1
      · simp (disch := omega) only [up_no]; exact g2
      · simp (disch := omega) only [up_no]; exact g3
      · simp (disch := omega) only [up_no]; exact g4
      · simp (disch := omega) only [up_no, up_same]; rfl
      · simp (disch := omega) only [up_no]; exact g6
      · simp (disch := omega) only [up_no]; exact g7
      · simp (disch := omega) only [up_no]; exact g8
      · simp (disch := omega) only [up_no]; exact g9
      · simp (disch := omega) only [up_no, up_same]
        rw [h3, nI_ad (x := 2048 * (3 - 2)) (m := 2048) (by decide)]
        congr 1; omega
      · simp (disch := omega) only [up_no]; exact h4
      · simp (disch := omega) only [up_no]; exact h5
      · simp (disch := omega) only [up_no, up_same]
      · simp (disch := omega) only [up_no, up_same]
      · simp (disch := omega) only [up_no, up_same]
      · simp (disch := omega) only [up_no, up_same]
      · simp (disch := omega) only [up_no, up_same]
        rw [nI_1, show (16 : Int32) = nI 16 from rfl, nI_mul, nI_add]
      · simp (disch := omega) only [up_no, up_same]
        rw [show (131072 : Int32) = nI 131072 from rfl, nI_mul, nI_add]
    · exact BX_cg (hbx j hj) (fun a h1 h2 => by simp (disch := omega) only [up_no]) (fun a h1 h2 => by simp (disch := omega) only [up_no])
  · have hjb : j ≠ b := by omega
    simp (disch := omega) only [up_no]
    exact hbz j h1 h2
end

