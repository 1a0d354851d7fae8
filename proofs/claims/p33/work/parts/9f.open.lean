/-! open, end -/
section
variable {N nb nl nr tn dn : Nat} {M R : gq_M}
theorem ir_cl (J : IR nb nl nr tn R) : bits 8 (R 4) ∧ rngs nb 0 7 (R 13) ∧ bit (R 0 2) ∧ (R 0 2 = 0 → nl = 0 ∧ ∀ b, b < nb → R 26 b = -1) := by
  obtain ⟨C, Hc, -⟩ := J
  obtain ⟨hnb, hnl, hnr, htn, hda, hop, hdr, hqu, hai, hid, hac, hlk, hla, hks, hkm, hkh, hbg, hbd, hbo, hbl, hbb, hst, hpw, hxb, hxk, hxr, hxs, hxf, hxl, hxc, hxi, hxp, hsu, hmo, hsb, hlo, hlb, hlf, hlh, hld, hlr, hcl⟩ := Hc
  refine ⟨hid.2, hxb.2, hop.2, fun h => ?_⟩
  obtain ⟨e, -⟩ := hcl h
  subst e
  exact ⟨rfl, fun b hb => (hlr b hb).elim id fun h => h.elim fun l hl => absurd hl.1 (Nat.not_lt_zero _)⟩
theorem x_open22 : f_X10_open_22 N R = some (0, thr R 1) := by
  unfold f_X10_open_22 f_X10_open_27
  rw [b_fails, bI_t (show (0 : Int32) < 1 by decide), if_neg (show ¬ (1 : Int32) = 0 by decide)]
theorem e_open_0 (h : ¬ R 0 2 = 0) : f_X10_open N R = some (0, thr R 1) := by
  unfold f_X10_open
  rw [if_neg h]
  exact x_open22
theorem e_open_1 (hN : 600 ≤ N) (J : IR nb nl nr tn R) (hn : R 0 16 = nI nb) (hb : nb ≤ 40) (h : R 0 2 = 0) : f_X10_open N R = if 0 < cnt (rg 0 nb) (isW (R 19)) then f_X10_open_27 N 0 R else some (0, thr R 1) := by
  obtain ⟨j1, j2, -, -⟩ := ir_cl J
  obtain ⟨s1, a1, a2, a3⟩ := r_ready (N := N) (d := 1) hN hn (by omega) j2
  obtain ⟨s0, b1, b2, b3⟩ := r_ready (N := N) (d := 0) hN hn (by omega) j2
  have hz := sets_0 a2 b2 j1 j2 a3 b3
  unfold f_X10_open
  rw [if_pos h, a1, gq_b_s, b1, gq_b_s]
  by_cases c : cnt (rg 0 nb) (isW (R 19)) = 0
  · rw [if_pos (hz.mpr c), if_neg (by omega), x_open22]
  · rw [if_neg (fun z => c (hz.mp z)), if_pos (by omega)]
def endO (N : Nat) (can has : Int32) (M : gq_M) : Option (Int32 × gq_M) := gq_b (f_L_does N 8 0 0 0 0 0 0 M) fun v69 M71 => if can = 0 then (f_L_isSale_511 N v69 M71) else (if has = 0 then (f_L_isSale_511 N v69 M71) else (gq_b (f_L_opens N M71) fun v74 M76 => f_L_isSale_513 N v69 v74 M76))
theorem l_435 {can : Int32} (hM : M 119 4 = nI nb) (hb : nb ≤ 40) (hB : ∀ b, b < nb → BX M R b) : ∀ (k i n9 c : Nat), i + k = nb → k < n9 → f_L_isSale_435 N n9 can (bI (0 < c)) (nI i) M = endO N can (bI (0 < c + cnt (rg i k) (isW (R 19)))) M := by
  intro k
  induction k with
  | zero =>
    intro i n9 c hi h9
    obtain ⟨n9, rfl⟩ : ∃ z, n9 = z + 1 := ⟨n9 - 1, by omega⟩
    show f_L_isSale_435_b N (f_L_isSale_435 N n9) can (bI (0 < c)) (nI i) M = endO N can (bI (0 < c)) M
    unfold f_L_isSale_435_b endO
    rw [gi4_56, cl4, gq_l_e, hM, if_pos (nI_le (by omega) (by omega))]
  | succ k ih =>
    intro i n9 c hi h9
    obtain ⟨n9, rfl⟩ : ∃ z, n9 = z + 1 := ⟨n9 - 1, by omega⟩
    show f_L_isSale_435_b N (f_L_isSale_435 N n9) can (bI (0 < c)) (nI i) M = _
    unfold f_L_isSale_435_b f_L_isSale_458 f_L_isSale_463
    rw [gi4_56, cl4, gq_l_e, hM, if_neg (nI_ge (by omega) (by omega)), rg_s, cnt_cons, nI_1]
    by_cases q : 0 < c
    · rw [if_neg (fun z => bI_z.mp z q), show (1 : Int32) = bI (0 < 1) from (bI_t (by omega)).symm, ih (i + 1) n9 1 (by omega) (by omega)]
      congr 1
      rw [bI_t (by omega), bI_t (by omega)]
    · rw [if_pos (bI_z.mpr q), l_toSell (hB i (by omega)) (by omega), gq_b_s]
      by_cases w : R 19 i = 0 ∨ R 19 i = 6
      · rw [bI_t w, if_neg (show ¬ (1 : Int32) = 0 by decide), if_pos (show isW (R 19) i = true from decide_eq_true w), show (1 : Int32) = bI (0 < 1) from (bI_t (by omega)).symm, ih (i + 1) n9 1 (by omega) (by omega)]
        congr 1
        rw [bI_t (by omega), bI_t (by omega)]
      · rw [bI_f w, if_pos rfl, if_neg (show ¬ isW (R 19) i = true from fun z => w (of_decide_eq_true z)), show (0 : Int32) = bI (0 < 0) from (bI_f (by omega)).symm, ih (i + 1) n9 0 (by omega) (by omega)]
        obtain rfl : c = 0 := by omega
        rw [Nat.zero_add (cnt (rg (i + 1) k) (isW (R 19))), Nat.zero_add (cnt (rg (i + 1) k) (isW (R 19)))]
theorem l_511 {M2 : gq_M} : f_L_isSale_511 N (-100000000) M2 = some (1, M2) := by
  unfold f_L_isSale_511 f_L_isSale_513 f_L_isSale_521
  rw [if_pos rfl, g_bb1]
theorem t_open {x15 x16 x17 : Int32} (hN : 600 ≤ N) (H : PK T0 nb nl nr tn dn M R) (I : INV M R) (hx : ¬ 2 ≤ x15) : ∃ M2 R2 nl2, f_L_isSale_409 N x15 x16 x17 M = some (1, M2) ∧ INV M2 R2 ∧ PK T0 nb nl2 nr tn dn M2 R2 := by
  have J := ir_of I H
  obtain ⟨j1, j2, j3, j4⟩ := ir_cl J
  have hnb := pq_nb H
  have hbx := pq_bx H
  have hop : M 119 2 = R 0 2 := by
    obtain ⟨hnb, hnl, hnr, htn, hdn, hop, hdr, hkd, hby, hqu, hbt, hha, hpr, hbx, hbz, hlt, hlo⟩ := H
    exact hop.1
  have top : ∀ can, f_L_isSale_427 N can M = endO N can (bI (0 < cnt (rg 0 nb) (isW (R 19)))) M := fun can => by
    have e := l_435 (N := N) (can := can) hnb.1 hnb.2.2 hbx nb 0 N 0 (by omega) (by omega)
    rw [Nat.zero_add (cnt (rg 0 nb) (isW (R 19)))] at e
    exact e
  have e0 : f_L_isSale_409 N x15 x16 x17 M = endO N (if R 0 2 = 0 then 1 else 0) (bI (0 < cnt (rg 0 nb) (isW (R 19)))) M := by
    unfold f_L_isSale_409
    rw [if_neg hx, gi2_56, cl2, gq_l_e, hop]
    by_cases c : R 0 2 = 0
    · rw [if_pos c, if_pos c]; exact top 1
    · rw [if_neg c, if_neg c]; exact top 0
  rw [e0]
  by_cases c : R 0 2 = 0
  · by_cases w : 0 < cnt (rg 0 nb) (isW (R 19))
    · obtain ⟨e, hlm⟩ := j4 c
      subst e
      have hr := e_open_1 (N := N) hN J hnb.2.1 hnb.2.2 c
      rw [if_pos w] at hr
      obtain ⟨M1, R2, nl2, g1, g2, g3, g4⟩ := s2_open (N := N) hN H hlm
      obtain ⟨M2, y1, y2, y3⟩ := y_open (N := N) (M := M) (hN := hN) (a1 := 0) (a2 := 0) (a3 := 0) (a4 := 0) (a5 := 0) (a6 := 0) (x := nI nl2) I (hr.trans g2) (by rw [g4]; rfl)
      obtain ⟨M3, R3, nl3, k1, k2, k3, k4⟩ := s2_open (N := N) hN (pk_mc H y3) hlm
      have e3 : (nI nl3, R3) = (nI nl2, R2) := Option.some.inj (k2.symm.trans g2)
      have e4 : nI nl3 = nI nl2 := congrArg Prod.fst e3
      have e5 : R3 = R2 := congrArg Prod.snd e3
      subst e5
      refine ⟨M3, R3, nl3, ?_, inv_cg y2 (e9_fb (fq_opens e9_r) k1), k3⟩
      unfold endO
      rw [y1, gq_b_s, if_pos c, if_neg (show ¬ (1 : Int32) = 0 by decide), bI_t w, if_neg (show ¬ (1 : Int32) = 0 by decide), k1, gq_b_s, e4]
      unfold f_L_isSale_513 f_L_isSale_521
      rw [if_pos rfl, g_bb1]
    · have hr := e_open_1 (N := N) hN J hnb.2.1 hnb.2.2 c
      rw [if_neg w] at hr
      obtain ⟨M2, y1, y2, y3⟩ := y_open (N := N) (M := M) (hN := hN) (a1 := 0) (a2 := 0) (a3 := 0) (a4 := 0) (a5 := 0) (a6 := 0) (x := -100000000) I hr rfl
      refine ⟨M2, _, nl, ?_, y2, pk_mc (pk_thr H) y3⟩
      unfold endO
      rw [y1, gq_b_s, if_pos c, if_neg (show ¬ (1 : Int32) = 0 by decide), bI_f w, if_pos rfl, l_511]
  · have hr := e_open_0 (N := N) c
    obtain ⟨M2, y1, y2, y3⟩ := y_open (N := N) (M := M) (hN := hN) (a1 := 0) (a2 := 0) (a3 := 0) (a4 := 0) (a5 := 0) (a6 := 0) (x := -100000000) I hr rfl
    refine ⟨M2, _, nl, ?_, y2, pk_mc (pk_thr H) y3⟩
    unfold endO
    rw [y1, gq_b_s, if_neg c, if_pos rfl, l_511]
-- end
theorem s2_rests (hN : 600 ≤ N) : ∀ (k i n8 n9 : Nat) (acc : Int32) (M R : gq_M), PK T0 nb nl nr tn dn M R → i + k = nl → k < n8 → k < n9 → ∃ M2 R2 acc2, f_L_isSale_549 N n8 acc 1 (nI i) M = f_L_isSale_586 N acc2 1 M2 ∧ f_X10_end_25 N n9 acc (nI i) R = f_X10_end_69 N N acc2 0 (gq_up (gq_up (gq_up R2 0 2 0) 0 31 0) 0 1 (R2 0 1 + 1)) ∧ PK T0 nb nl nr tn dn M2 R2 ∧ R2 0 = R 0 ∧ E9 M2 M := by
  intro k
  induction k with
  | zero =>
    intro i n8 n9 acc M R H hi h8 h9
    obtain ⟨n8, rfl⟩ : ∃ z, n8 = z + 1 := ⟨n8 - 1, by omega⟩
    obtain ⟨n9, rfl⟩ : ∃ z, n9 = z + 1 := ⟨n9 - 1, by omega⟩
    have hnb := pq_nb H
    have hnl := pq_nl H
    refine ⟨M, R, acc, ?_, ?_, H, rfl, e9_r⟩
    · show f_L_isSale_549_b N (f_L_isSale_549 N n8) acc 1 (nI i) M = _
      unfold f_L_isSale_549_b
      rw [gi5_56, cl5, gq_l_e, hnl.1, if_pos (nI_le (by omega) (by omega))]
    · show f_X10_end_25_b N (f_X10_end_25 N n9) acc (nI i) R = _
      unfold f_X10_end_25_b
      rw [hnl.2.1, if_pos (nI_le (by omega) (by omega))]
      rfl
  | succ k ih =>
    intro i n8 n9 acc M R H hi h8 h9
    obtain ⟨n8, rfl⟩ : ∃ z, n8 = z + 1 := ⟨n8 - 1, by omega⟩
    obtain ⟨n9, rfl⟩ : ∃ z, n9 = z + 1 := ⟨n9 - 1, by omega⟩
    have hnb := pq_nb H
    have hnl := pq_nl H
    obtain ⟨v, M1, R1, t1, t2, P1, t3, -⟩ := s2_wdAll (N := N) (l := i) H hN
    obtain ⟨M2, R2, acc2, y1, y2, P2, y3, y4⟩ := ih (i + 1) n8 n9 (acc + v) M1 R1 P1 (by omega) (by omega) (by omega)
    have F1 : E9 M1 M := e9_fb (fq_withdraws e9_r) t1
    refine ⟨M2, R2, acc2, ?_, ?_, P2, y3.trans t3, fun a ha => (y4 a ha).trans (F1 a ha)⟩
    · show f_L_isSale_549_b N (f_L_isSale_549 N n8) acc 1 (nI i) M = _
      unfold f_L_isSale_549_b
      rw [gi5_56, cl5, gq_l_e, hnl.1, if_neg (nI_ge (by omega) (by omega)), if_neg (show ¬ (1 : Int32) = 0 by decide), t1, gq_b_s, nI_1]
      exact y1
    · show f_X10_end_25_b N (f_X10_end_25 N n9) acc (nI i) R = _
      unfold f_X10_end_25_b
      rw [hnl.2.1, if_neg (nI_ge (by omega) (by omega)), t2, gq_b_s, nI_1]
      exact y2
theorem s2_shut {acc : Int32} (hN : 600 ≤ N) : ∀ (k i n8 n9 : Nat) (M R : gq_M), PK (fun q => q < i) nb nl nr tn dn M R → i + k = 3 → k < n8 → k < n9 → ∃ M2 R2, f_L_isSale_612 N n8 acc 1 (nI i) M = f_L_isSale_640 N N acc 1 0 M2 ∧ f_X10_end_69 N n9 acc (nI i) R = f_X10_end_87 N N acc 0 R2 ∧ PK T0 nb nl nr tn dn M2 R2 ∧ R2 0 = R 0 ∧ E9 M2 M := by
  intro k
  induction k with
  | zero =>
    intro i n8 n9 M R H hi h8 h9
    obtain ⟨n8, rfl⟩ : ∃ z, n8 = z + 1 := ⟨n8 - 1, by omega⟩
    obtain ⟨n9, rfl⟩ : ∃ z, n9 = z + 1 := ⟨n9 - 1, by omega⟩
    obtain rfl : i = 3 := by omega
    refine ⟨M, R, ?_, ?_, pk_S H (fun q hq _ => hq), rfl, e9_r⟩
    · show f_L_isSale_612_b N (f_L_isSale_612 N n8) acc 1 (nI 3) M = _
      unfold f_L_isSale_612_b
      rw [if_pos (show (3 : Int32) ≤ nI 3 by decide)]
    · show f_X10_end_69_b N (f_X10_end_69 N n9) acc (nI 3) R = _
      unfold f_X10_end_69_b
      rw [if_pos (show (3 : Int32) ≤ nI 3 by decide)]
  | succ k ih =>
    intro i n8 n9 M R H hi h8 h9
    obtain ⟨n8, rfl⟩ : ∃ z, n8 = z + 1 := ⟨n8 - 1, by omega⟩
    obtain ⟨n9, rfl⟩ : ∃ z, n9 = z + 1 := ⟨n9 - 1, by omega⟩
    have he : ¬ (3 : Int32) ≤ nI i := fun h2 => by have := (nI_leI (a := 3) (by omega) (by omega)).mp h2; omega
    obtain ⟨M1, R1, t1, t2, P1, t3, -, -⟩ := s2_comes (N := N) H (h := i) (by omega) hN
    obtain ⟨M2, R2, y1, y2, P2, y3, y4⟩ := ih (i + 1) n8 n9 M1 R1 (pk_S P1 (fun q _ z => by omega)) (by omega) (by omega) (by omega)
    have F1 : E9 M1 M := e9_fb (fq_comes e9_r) t1
    refine ⟨M2, R2, ?_, ?_, P2, y3.trans t3, fun a ha => (y4 a ha).trans (F1 a ha)⟩
    · show f_L_isSale_612_b N (f_L_isSale_612 N n8) acc 1 (nI i) M = _
      unfold f_L_isSale_612_b
      rw [if_neg he, t1, gq_b_s, nI_1]
      exact y1
    · show f_X10_end_69_b N (f_X10_end_69 N n9) acc (nI i) R = _
      unfold f_X10_end_69_b
      rw [if_neg he, t2, gq_b_s, nI_1]
      exact y2
theorem s2_clear {S : Nat → Prop} {acc : Int32} (hN : 600 ≤ N) : ∀ (k i n8 n9 : Nat) (M R : gq_M), PK S nb nl nr tn dn M R → i + k = nb → k < n8 → k < n9 → ∃ M2 R2, f_L_isSale_640 N n8 acc 1 (nI i) M = f_L_isSale_660 N acc 1 M2 ∧ f_X10_end_87 N n9 acc (nI i) R = some (acc, R2) ∧ PK S nb nl nr tn dn M2 R2 ∧ R2 0 = R 0 ∧ E9 M2 M := by
  intro k
  induction k with
  | zero =>
    intro i n8 n9 M R H hi h8 h9
    obtain ⟨n8, rfl⟩ : ∃ z, n8 = z + 1 := ⟨n8 - 1, by omega⟩
    obtain ⟨n9, rfl⟩ : ∃ z, n9 = z + 1 := ⟨n9 - 1, by omega⟩
    have hnb := pq_nb H
    have hb := hnb.2.2
    refine ⟨M, R, ?_, ?_, H, rfl, e9_r⟩
    · show f_L_isSale_640_b N (f_L_isSale_640 N n8) acc 1 (nI i) M = _
      unfold f_L_isSale_640_b
      rw [gi4_56, cl4, gq_l_e, hnb.1, if_pos (nI_le (by omega) (by omega))]
    · show f_X10_end_87_b N (f_X10_end_87 N n9) acc (nI i) R = _
      unfold f_X10_end_87_b
      rw [hnb.2.1, if_pos (nI_le (by omega) (by omega))]
  | succ k ih =>
    intro i n8 n9 M R H hi h8 h9
    obtain ⟨n8, rfl⟩ : ∃ z, n8 = z + 1 := ⟨n8 - 1, by omega⟩
    obtain ⟨n9, rfl⟩ : ∃ z, n9 = z + 1 := ⟨n9 - 1, by omega⟩
    have H0 := H
    obtain ⟨hnb, hnl, hnr, htn, hdn, hop, hdr, hkd, hby, hqu, hbt, hha, hpr, hbx, hbz, hlt, hlo⟩ := H0
    have hb := hnb.2.2
    have P : PK S nb nl nr tn dn (gq_up M 111 i (-1)) (gq_up R 26 i (-1)) := by
      refine ⟨hnb, hnl, hnr, htn, hdn, hop, hdr, hkd, hby, hqu, hbt, hha, hpr, fun j hj => ?_, hbz, hlt, hlo⟩
      by_cases e : j = i
      · subst e
        obtain ⟨bo, ki, si, fr, st, wc, cl, kl, re, so, h1, h2, h3, h4, h5, h6⟩ := hbx j hj
        exact ⟨bo, ki, si, fr, st, wc, cl, kl, re, so, h1, h2, h3, h4, (up_same _ _ _ _).trans (up_same _ _ _ _).symm, h6⟩
      · exact BX_cg (hbx j hj) (fun a h1 h2 => up_no (by omega)) (fun a _ _ => up_no (by omega))
    obtain ⟨M2, R2, t1, t2, P2, t3, t4⟩ := ih (i + 1) n8 n9 _ _ P (by omega) (by omega) (by omega)
    refine ⟨M2, R2, ?_, ?_, P2, t3.trans (up_ne (by omega)), fun a ha => (t4 a ha).trans (up_ne (by omega))⟩
    · show f_L_isSale_640_b N (f_L_isSale_640 N n8) acc 1 (nI i) M = _
      unfold f_L_isSale_640_b
      rw [gi4_56, cl4, gq_l_e, hnb.1, if_neg (nI_ge (by omega) (by omega)), g_inN (by omega) (by omega), gq_l_e, nI_clamp (by omega), nI_1]
      exact t1
    · show f_X10_end_87_b N (f_X10_end_87 N n9) acc (nI i) R = _
      unfold f_X10_end_87_b
      rw [hnb.2.1, if_neg (nI_ge (by omega) (by omega)), g_inN (by omega) (by omega), gq_l_e, nI_clamp (by omega), nI_1]
      exact t2
theorem l_660 {acc : Int32} {can v : Int32} {M2 : gq_M} (y1 : f_L_does N 9 0 0 0 0 0 0 M = some (v, M2)) (h : v = if can = 0 then -100000000 else acc) : f_L_isSale_660 N acc can M = some (1, M2) := by
  unfold f_L_isSale_660 f_L_isSale_684 f_L_isSale_692
  rw [y1, gq_b_s]
  by_cases c : can = 0
  · rw [if_pos c] at h
    rw [if_pos c, if_pos h, g_bb1]
  · rw [if_neg c] at h
    rw [if_neg c, if_pos h, g_bb1]
set_option maxHeartbeats 1000000 in
theorem t_end {x16 x17 : Int32} (hN : 600 ≤ N) (H : PK T0 nb nl nr tn dn M R) (I : INV M R) (hdn2 : dn < 100) : ∃ M2 R2 nl2 dn2, f_L_isSale_409 N 2 x16 x17 M = some (1, M2) ∧ INV M2 R2 ∧ PK T0 nb nl2 nr tn dn2 M2 R2 ∧ dn2 ≤ dn + 1 := by
  have J := ir_of I H
  obtain ⟨j1, j2, j3, j4⟩ := ir_cl J
  have hop : M 119 2 = R 0 2 := by
    obtain ⟨hnb, hnl, hnr, htn, hdn, hop, hdr, hkd, hby, hqu, hbt, hha, hpr, hbx, hbz, hlt, hlo⟩ := H
    exact hop.1
  unfold f_L_isSale_409
  rw [if_pos (show (2 : Int32) ≤ 2 by decide), if_pos rfl, gi2_56, cl2, gq_l_e, hop]
  unfold f_L_isSale_544
  obtain ⟨N1, hN1⟩ : ∃ z, N = z + 1 := ⟨N - 1, by omega⟩
  rcases j3 with c | c
  · have hr : f_X10_end N R = some (0, thr R 1) := by
      unfold f_X10_end f_X10_end_13
      rw [if_pos c, b_fails, bI_t (show (0 : Int32) < 1 by decide), if_neg (show ¬ (1 : Int32) = 0 by decide)]
    obtain ⟨M2, y1, y2, y3⟩ := y_end (N := N) (M := M) (hN := hN) (a1 := 0) (a2 := 0) (a3 := 0) (a4 := 0) (a5 := 0) (a6 := 0) (x := -100000000) I hr rfl
    refine ⟨M2, _, nl, dn, ?_, y2, pk_mc (pk_thr H) y3, by omega⟩
    have e : ∀ n, n = N1 + 1 → f_L_isSale_549 N n 0 0 0 M = f_L_isSale_660 N 0 0 M := fun n hn => by
      subst hn
      show f_L_isSale_549_b N (f_L_isSale_549 N N1) 0 0 0 M = _
      unfold f_L_isSale_549_b f_L_isSale_586
      rw [gi5_56, cl5, gq_l_e, if_pos rfl, if_pos rfl]
      split
      · rfl
      · rfl
    rw [if_neg (show ¬ R 0 2 = 1 by rw [c]; decide), e N hN1]
    exact l_660 y1 rfl
  · have H9 := pk_thr (w := 0) H
    obtain ⟨M1, R1, acc, t1, t2, P1, t3, t4⟩ := s2_rests (N := N) hN nl 0 N N 0 M (thr R 0) H9 (by omega) (by have := (pq_nl H).2.2; have := (pq_nb H).2.2; omega) (by have := (pq_nl H).2.2; have := (pq_nb H).2.2; omega)
    have P2 : PK (fun q => q < 0) nb 0 nr tn (dn + 1) (gq_up (gq_up (gq_up M1 119 2 0) 119 5 0) 119 1 (nI (dn + 1))) (gq_up (gq_up (gq_up R1 0 2 0) 0 31 0) 0 1 (R1 0 1 + 1)) := by
      obtain ⟨hnb, hnl, hnr, htn, hdn, hop, hdr, hkd, hby, hqu, hbt, hha, hpr, hbx, hbz, hlt, hlo⟩ := P1
      have e1 : R1 0 1 + 1 = nI (dn + 1) := by rw [hdn.2.1, nI_1]
      rw [e1]
      have x1 : (gq_up (gq_up (gq_up M1 119 2 0) 119 5 0) 119 1 (nI (dn + 1))) 119 2 = (gq_up (gq_up (gq_up R1 0 2 0) 0 31 0) 0 1 (nI (dn + 1))) 0 2 ∧ bit ((gq_up (gq_up (gq_up R1 0 2 0) 0 31 0) 0 1 (nI (dn + 1))) 0 2) := by simp (disch := omega) only [up_no, up_same]; exact ⟨trivial, Or.inl rfl⟩
      exact ⟨hnb, ⟨rfl, rfl, Nat.zero_le _⟩, hnr, htn, ⟨up_same _ _ _ _, up_same _ _ _ _, by omega⟩, x1, hdr, (fun j hj => by simp (disch := omega) only [up_no]; exact hkd j hj), (fun j hj => by simp (disch := omega) only [up_no]; exact hby j hj), hqu, hbt, fun q hq => ⟨(hha q hq).1, fun z => absurd z (Nat.not_lt_zero _)⟩, hpr, hbx, hbz, fun k hk => absurd hk (Nat.not_lt_zero _), hlo⟩
    have hd1 : M1 119 1 = nI dn := by
      obtain ⟨hnb, hnl, hnr, htn, hdn, hop, hdr, hkd, hby, hqu, hbt, hha, hpr, hbx, hbz, hlt, hlo⟩ := P1
      exact hdn.1
    obtain ⟨M3, R3, u1, u2, P3, u3, u4⟩ := s2_shut (N := N) (acc := acc) hN 3 0 N N _ _ P2 (by omega) (by omega) (by omega)
    obtain ⟨M4, R4, v1, v2, P4, v3, v4⟩ := s2_clear (N := N) (acc := acc) hN nb 0 N N _ _ P3 (by omega) (by have := (pq_nb H).2.2; omega) (by have := (pq_nb H).2.2; omega)
    have h54 : R4 0 54 = 0 := by
      rw [v3, u3]
      simp (disch := omega) only [up_no]
      rw [t3]
      exact thr_v R 0
    have hr : f_X10_end N R = some (acc, R4) := by
      unfold f_X10_end f_X10_end_13
      rw [if_neg (show ¬ R 0 2 = 0 by rw [c]; decide), b_fails, bI_f (show ¬ (0 : Int32) < 0 by decide), if_pos rfl]
      refine Eq.trans t2 ?_
      refine Eq.trans u2 ?_
      exact v2
    have F4 : E9 M4 M := fun a ha => by rw [v4 a ha, u4 a ha, up_ne (by omega), up_ne (by omega), up_ne (by omega), t4 a ha]
    obtain ⟨M2, y1, y2, y3⟩ := y_end (N := N) (M := M4) (hN := hN) (a1 := 0) (a2 := 0) (a3 := 0) (a4 := 0) (a5 := 0) (a6 := 0) (x := acc) (inv_cg I F4) hr (by rw [h54]; rfl)
    refine ⟨M2, R4, 0, dn + 1, ?_, y2, pk_mc P4 y3, Nat.le_refl _⟩
    rw [if_pos c]
    refine Eq.trans t1 ?_
    unfold f_L_isSale_586
    rw [if_neg (show ¬ (1 : Int32) = 0 by decide), gi2_56, cl2, gq_l_e, gi5_56, cl5, gq_l_e, gi1_56, cl1, gq_l_e, gi1_56, gq_l_e, up_no (by omega), up_no (by omega), hd1, nI_1]
    refine Eq.trans u1 ?_
    refine Eq.trans v1 ?_
    exact l_660 y1 rfl
end

