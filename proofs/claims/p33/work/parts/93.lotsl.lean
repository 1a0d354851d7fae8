/-! all lots of a boat; the draws; the sale is opened -/
section
variable {S : Nat → Prop} {N h nb nl nr tn dn : Nat} {M R : gq_M}
theorem mkP_z {c : Nat} {P : Nat → Bool} (hP : ∀ b, b < nb → P b = false) : mkP 0 nb c P R = R := by
  funext a
  unfold mkP
  by_cases e : a = 19
  · subst e
    rw [if_pos rfl]
    funext b
    exact if_neg (fun z => by rw [hP b z.2.1] at z; exact absurd z.2.2 (by decide))
  · rw [if_neg e]
    by_cases e2 : a = 26
    · subst e2
      rw [if_pos rfl]
      funext b
      exact if_neg (fun z => by rw [hP b z.2.1] at z; exact absurd z.2.2 (by decide))
    · rw [if_neg e2]
theorem r_one {g n c n9 : Nat} (hN : 600 ≤ N) (hb : nb ≤ 150) (hM : R 0 16 = nI nb) (hl : R 0 31 = nI c) (hn : n < 108) (hc : c < 150) : f_X10_parts_2 N (n9 + 1) (nI g) (nI n) R = f_X10_parts_2 N n9 (nI g) (nI (n + 1)) (if 0 < cnt (rg 0 nb) (pR R g (n / 27) (n / 9 % 3) (9 - n % 9)) then mkL g n c (mkP 0 nb c (pR R g (n / 27) (n / 9 % 3) (9 - n % 9)) R) else mkP 0 nb c (pR R g (n / 27) (n / 9 % 3) (9 - n % 9)) R) := by
  have he : ¬ (108 : Int32) ≤ nI n := fun h2 => by have := (nI_leI (a := 108) (by omega) (by omega)).mp h2; omega
  obtain ⟨d1, d2, d3⟩ := rk_dec n (by omega)
  show f_X10_parts_2_b N (f_X10_parts_2 N n9) (nI g) (nI n) R = _
  unfold f_X10_parts_2_b
  rw [if_neg he, d1, d2, d3]
  have e1 := r_parts_l (N := N) (g := g) (n := n) (x := n / 27) (y := n / 9 % 3) (z := 9 - n % 9) (K := f_X10_parts_2 N n9) hb (fun _ _ _ _ _ _ _ _ => none) nb 0 N 0 R hM hl (by omega) (by omega)
  have e1' : f_X10_parts_36 N (f_X10_parts_2 N n9) N (nI g) (nI n) (nI (n / 27)) (nI (n / 9 % 3)) (nI (9 - n % 9)) 0 0 R = _ := e1
  rw [e1', r_parts_x (N := N) (c := c) (n := n) (R := mkP 0 nb c (pR R g (n / 27) (n / 9 % 3) (9 - n % 9)) R) hM hl hn (Or.inr hc)]
  by_cases h0 : 0 < cnt (rg 0 nb) (pR R g (n / 27) (n / 9 % 3) (9 - n % 9))
  · rw [if_pos h0, if_neg (show ¬ (1 : Int32) = 0 by decide), if_pos h0]
  · rw [if_neg h0, if_pos rfl, if_neg h0]
theorem vl_dec : ∀ n, n < 108 → nI (vln n) / 100 = nI (n / 27) ∧ nI (vln n) / 10 - nI (vln n) / 10 / 10 * 10 = nI (n / 9 % 3) ∧ 9 - (nI (vln n) - nI (vln n) / 10 * 10) = nI (9 - n % 9) := by decide +kernel
def lotM (g n c : Nat) (v : Int32) (M : gq_M) : gq_M := gq_up (gq_up M 114 c v) 119 5 (nI (c + 1))
theorem pk_lot {g n c ha : Nat} (H : PK S nb c nr tn dn M R) (hg : g < 8) (hn : n < 108) (hc : c + 1 ≤ nb) (hh : ha < 3) (hr : R 8 (n / 27) = nI ha) : PK S nb (c + 1) nr tn dn (lotM g n c (nI (g + 8 * (n / 27) + 32 * (n / 9 % 3) + 128 * (9 - n % 9) + 2048 * ha)) M) (mkL g n c R) := by
  obtain ⟨hnb, hnl, hnr, htn, hdn, hop, hdr, hkd, hby, hqu, hbt, hha, hpr, hbx, hbz, hlt, hlo⟩ := H
  have hb := hnb.2.2
  have x1 : lotM g n c (nI (g + 8 * (n / 27) + 32 * (n / 9 % 3) + 128 * (9 - n % 9) + 2048 * ha)) M 119 4 = nI nb ∧ mkL g n c R 0 16 = nI nb ∧ nb ≤ 40 := by unfold lotM mkL; simp (disch := omega) only [up_no]; exact hnb
  have x2 : lotM g n c (nI (g + 8 * (n / 27) + 32 * (n / 9 % 3) + 128 * (9 - n % 9) + 2048 * ha)) M 119 5 = nI (c + 1) ∧ mkL g n c R 0 31 = nI (c + 1) ∧ c + 1 ≤ nb := by unfold lotM mkL; simp (disch := omega) only [up_same]; exact ⟨trivial, trivial, hc⟩
  have x3 : lotM g n c (nI (g + 8 * (n / 27) + 32 * (n / 9 % 3) + 128 * (9 - n % 9) + 2048 * ha)) M 119 6 = nI nr ∧ mkL g n c R 0 49 = nI nr ∧ nr ≤ 10 := by unfold lotM mkL; simp (disch := omega) only [up_no]; exact hnr
  have x4 : lotM g n c (nI (g + 8 * (n / 27) + 32 * (n / 9 % 3) + 128 * (9 - n % 9) + 2048 * ha)) M 119 0 = nI tn ∧ mkL g n c R 0 0 = nI tn ∧ tn ≤ 3000 := by unfold lotM mkL; simp (disch := omega) only [up_no]; exact htn
  have x5 : lotM g n c (nI (g + 8 * (n / 27) + 32 * (n / 9 % 3) + 128 * (9 - n % 9) + 2048 * ha)) M 119 1 = nI dn ∧ mkL g n c R 0 1 = nI dn ∧ dn ≤ 100 := by unfold lotM mkL; simp (disch := omega) only [up_no]; exact hdn
  have x6 : lotM g n c (nI (g + 8 * (n / 27) + 32 * (n / 9 % 3) + 128 * (9 - n % 9) + 2048 * ha)) M 119 2 = mkL g n c R 0 2 ∧ bit (mkL g n c R 0 2) := by unfold lotM mkL; simp (disch := omega) only [up_no]; exact hop
  have x7 : lotM g n c (nI (g + 8 * (n / 27) + 32 * (n / 9 % 3) + 128 * (9 - n % 9) + 2048 * ha)) M 119 3 = mkL g n c R 0 3 := by unfold lotM mkL; simp (disch := omega) only [up_no]; exact hdr
  refine ⟨x1, x2, x3, x4, x5, x6, x7, fun j hj => ?_, fun j hj => ?_, hqu, hbt, fun q hq => ⟨(hha q hq).1, fun hs => ?_⟩, hpr, hbx, hbz, fun k hk => ?_, hlo⟩
  · unfold lotM mkL; simp (disch := omega) only [up_no]; exact hkd j hj
  · unfold lotM mkL; simp (disch := omega) only [up_no]; exact hby j hj
  · refine HA_cg ((hha q hq).2 hs) (fun i h1 h2 => by unfold lotM; simp (disch := omega) only [up_no]) (fun a h1 h2 h3 => by unfold mkL; simp (disch := omega) only [up_no]) (Nat.le_succ _) (fun a h1 h2 h3 => ⟨?_, ?_⟩)
    · unfold mkL; simp (disch := omega) only [up_no]; exact h2
    · unfold mkL; simp (disch := omega) only [up_no]; exact h3
  · by_cases e : k = c
    · subst e
      unfold lotM mkL
      refine ⟨g, n / 27, n / 9 % 3, 9 - n % 9, ha, 0, by omega, ⟨?_, ?_, ?_, ?_, ?_, ?_⟩, ?_⟩
      · simp (disch := omega) only [up_no, up_same]
      · simp (disch := omega) only [up_no, up_same]
      · simp (disch := omega) only [up_no, up_same]
      · simp (disch := omega) only [up_no, up_same]
      · simp (disch := omega) only [up_no, up_same]; exact hr
      · simp (disch := omega) only [up_no, up_same]; rfl
      · simp (disch := omega) only [up_no, up_same]; rfl
    · exact LT_cg (hlt k (by omega)) (by unfold lotM; simp (disch := omega) only [up_no]) (fun a h1 h2 => by unfold mkL; simp (disch := omega) only [up_no])
theorem cW_mk {c : Nat} {P : Nat → Bool} (hP : ∀ b, b < nb → P b = true → isW (R 19) b = true) : cnt (rg 0 nb) (isW (R 19)) = cnt (rg 0 nb) P + cnt (rg 0 nb) (isW (mkP 0 nb c P R 19)) := by
  refine cnt_part fun b hb => ?_
  have hbn : b < nb := by have := (rg_m.mp hb).2; omega
  have e : mkP 0 nb c P R 19 b = if 0 ≤ b ∧ b < nb ∧ P b = true then 2 else R 19 b := rfl
  have e2 : isW (mkP 0 nb c P R 19) b = true ↔ ((if 0 ≤ b ∧ b < nb ∧ P b = true then (2 : Int32) else R 19 b) = 0 ∨ (if 0 ≤ b ∧ b < nb ∧ P b = true then (2 : Int32) else R 19 b) = 6) := by
    unfold isW
    rw [e]
    exact decide_eq_true_iff
  rw [e2]
  by_cases c1 : P b = true
  · rw [if_pos ⟨Nat.zero_le _, hbn, c1⟩]
    refine ⟨⟨fun _ => Or.inl c1, fun _ => hP b hbn c1⟩, fun z => ?_⟩
    rcases z.2 with z | z <;> exact absurd z (by decide)
  · rw [if_neg (fun z => c1 z.2.2)]
    refine ⟨⟨fun z => Or.inr (of_decide_eq_true z), fun z => z.elim (fun z => absurd z c1) (fun z => decide_eq_true z)⟩, fun z => c1 z.1⟩
theorem vln_all : ∀ n, n < 108 → ∀ m, m < 108 → n < m → vln n < vln m := by decide +kernel
theorem vln_lt {n m : Nat} (h : n < m) (hm : m < 108) : vln n < vln m := vln_all n (by omega) m hm h
set_option maxHeartbeats 4000000 in
theorem s2_lots_l {g : Nat} (hN : 600 ≤ N) (hg : g < 8) : ∀ (k i n8 n9 c : Nat) (lastv : Int32) (M R : gq_M), PK S nb c nr tn dn M R → i + k = 108 → k + 1 < n8 → k < n9 → (∀ b, b < nb → wb (R 19) (R 13) g b = true → i ≤ rkR R b) → (∀ m, i ≤ m → m < 108 → ¬ nI (vln m) ≤ lastv) → c + cnt (rg 0 nb) (isW (R 19)) ≤ nb → ∃ M2 R2 c2, f_L_lots_6 N n8 (nI g) lastv 1 M = some (0, M2) ∧ f_X10_parts_2 N n9 (nI g) (nI i) R = some (0, R2) ∧ PK S nb c2 nr tn dn M2 R2 ∧ c2 + cnt (rg 0 nb) (isW (R2 19)) ≤ nb ∧ R2 0 54 = R 0 54 := by
  intro k
  induction k with
  | zero =>
    intro i n8 n9 c lastv M R H hi h8 h9 hW hlv hcw
    obtain ⟨n8, rfl⟩ : ∃ z, n8 = z + 1 + 1 := ⟨n8 - 2, by omega⟩
    obtain ⟨n9, rfl⟩ : ∃ z, n9 = z + 1 := ⟨n9 - 1, by omega⟩
    obtain rfl : i = 108 := by omega
    have hnb := pq_nb H
    have hb := hnb.2.2
    have hB := pq_bx H
    have hno : ∀ b, b < nb → ¬ wb (R 19) (R 13) g b = true := fun b hb hw => by
      have h1 := hW b hb hw
      have h2 := (vl_lt (hB b hb)).2.1
      omega
    have e1 := l_min_l (N := N) (g := g) (lastv := lastv) (kh := f_L_lots_6 N (n8 + 1)) hnb.1 hb hg hB (fun b hb hw => absurd hw (hno b hb)) nb 0 N 1000 (by omega) (by omega) (Nat.le_refl _)
    rw [mnf_z (fun b hb hw => absurd hw (hno b (by have := (rg_m.mp hb).2; omega))), if_pos (Nat.le_refl _)] at e1
    refine ⟨M, R, c, ?_, ?_, H, hcw, rfl⟩
    · show f_L_lots_6_b N (f_L_lots_6 N (n8 + 1)) (nI g) lastv 1 M = _
      unfold f_L_lots_6_b
      rw [if_neg (show ¬ (1 : Int32) = 0 by decide)]
      refine Eq.trans e1 ?_
      unfold f_L_lots_132
      obtain ⟨N', rfl⟩ : ∃ z, N = z + 1 := ⟨N - 1, by omega⟩
      show f_L_lots_137_b (N' + 1) (f_L_lots_6 (N' + 1) (n8 + 1)) (f_L_lots_137 (N' + 1) (f_L_lots_6 (N' + 1) (n8 + 1)) N') (nI g) 0 (nI 1000) 0 M = _
      unfold f_L_lots_137_b f_L_lots_240 f_L_lots_308
      rw [gi4_56, cl4, gq_l_e]
      simp only [↓reduceIte, ite_self]
      show f_L_lots_6_b (N' + 1) (f_L_lots_6 (N' + 1) n8) (nI g) (nI 1000) 0 M = _
      unfold f_L_lots_6_b
      rw [if_pos rfl]
    · show f_X10_parts_2_b N (f_X10_parts_2 N n9) (nI g) (nI 108) R = _
      unfold f_X10_parts_2_b
      rw [if_pos (show (108 : Int32) ≤ nI 108 by decide)]
  | succ k ih =>
    intro i n8 n9 c lastv M R H hi h8 h9 hW hlv hcw
    obtain ⟨n8, rfl⟩ : ∃ z, n8 = z + 1 := ⟨n8 - 1, by omega⟩
    obtain ⟨n9, rfl⟩ : ∃ z, n9 = z + 1 := ⟨n9 - 1, by omega⟩
    have H0 := H
    obtain ⟨hnb, hnl, hnr, htn, hdn, hop, hdr, hkd, hby, hqu, hbt, hha, hpr, hbx, hbz, hlt, hlo⟩ := H0
    have hb := hnb.2.2
    have hi108 : i < 108 := by omega
    have hone := r_one (N := N) (g := g) (n := i) (c := c) (n9 := n9) (R := R) hN (by omega) hnb.2.1 hnl.2.1 hi108 (by omega)
    have hPW : ∀ b, b < nb → (pR R g (i / 27) (i / 9 % 3) (9 - i % 9) b = true ↔ (wb (R 19) (R 13) g b = true ∧ rkR R b = i)) := fun b hbn => by
      have w1 := ((vl_lt (hbx b hbn)).2.2 i hi108).1
      constructor
      · intro z
        obtain ⟨p1, p2, p3⟩ := of_decide_eq_true z
        exact ⟨decide_eq_true ⟨p1, p2⟩, w1.mp p3⟩
      · intro z
        obtain ⟨p1, p2⟩ := of_decide_eq_true z.1
        exact decide_eq_true ⟨p1, p2, w1.mpr z.2⟩
    by_cases hex : 0 < cnt (rg 0 nb) (pR R g (i / 27) (i / 9 % 3) (9 - i % 9))
    · obtain ⟨b0, hb0, hp0⟩ := cnt_ex hex
      have hb0n : b0 < nb := by have := (rg_m.mp hb0).2; omega
      obtain ⟨hw0, hr0⟩ := (hPW b0 hb0n).mp hp0
      have hcwP := cW_mk (nb := nb) (c := c) (R := R) (P := pR R g (i / 27) (i / 9 % 3) (9 - i % 9)) (fun b hbn hp => by
        obtain ⟨p1, p2, p3⟩ := of_decide_eq_true hp
        exact decide_eq_true p1)
      rw [if_pos hex] at hone
      have hc40 : c < 40 := by omega
      have e1 := l_min_l (N := N) (g := g) (lastv := lastv) (kh := f_L_lots_6 N n8) hnb.1 hb hg hbx (fun b hb hw => by
        have h1 := hW b hb hw
        obtain ⟨z1, z2, z3⟩ := vl_lt (hbx b hb)
        rw [(z3 (rkR R b) z2).2.1.mpr rfl]
        exact hlv _ h1 z2) nb 0 N 1000 (by omega) (by omega) (Nat.le_refl _)
      have hvl : vln i < 1000 := by unfold vln; omega
      rw [mnf_m (m := vln i) (fun b hb hw => by
        have hbn : b < nb := by have := (rg_m.mp hb).2; omega
        exact ((vl_lt (hbx b hbn)).2.2 i hi108).2.2 (hW b hbn hw)) (by omega) (Or.inr ⟨b0, hb0, hw0, ((vl_lt (hbx b0 hb0n)).2.2 i hi108).2.1.mpr hr0⟩), if_neg (by omega)] at e1
      obtain ⟨M1, t1, P1⟩ := l_off_l (N := N) (g := g) (n := i) (c := c) (kh := f_L_lots_6 N n8) hg hi108 hc40 nb 0 N M R H (by omega) (by omega)
      obtain ⟨g1, g2, g3, g4, g5, ⟨hal, hal1, hal2, hal3⟩⟩ := hkd (i / 27) (by omega)
      have hr8 : mkP 0 nb c (pR R g (i / 27) (i / 9 % 3) (9 - i % 9)) R 8 (i / 27) = nI hal := hal3
      have P2 := pk_lot (g := g) (n := i) (ha := hal) P1 hg hi108 (by omega) (by omega) hr8
      have H1 := P1
      obtain ⟨pnb, pnl, -, -, -, -, -, pkd, -⟩ := H1
      have pk8 := (pkd (i / 27) (by omega)).2.2.1
      rw [hr8] at pk8
      obtain ⟨M2, R2, c2, y1, y2, y3, y4, y5⟩ := ih (i + 1) n8 n9 (c + 1) (nI (vln i)) _ _ P2 (by omega) (by omega) (by omega) (fun b hbn hw => by
        obtain ⟨p1, p2⟩ := of_decide_eq_true hw
        have e : mkL g i c (mkP 0 nb c (pR R g (i / 27) (i / 9 % 3) (9 - i % 9)) R) 19 b = if 0 ≤ b ∧ b < nb ∧ pR R g (i / 27) (i / 9 % 3) (9 - i % 9) b = true then 2 else R 19 b := rfl
        rw [e] at p1
        by_cases cp : pR R g (i / 27) (i / 9 % 3) (9 - i % 9) b = true
        · rw [if_pos ⟨Nat.zero_le _, hbn, cp⟩] at p1
          rcases p1 with p1 | p1 <;> exact absurd p1 (by decide)
        · rw [if_neg (fun z => cp z.2.2)] at p1
          have hw2 : wb (R 19) (R 13) g b = true := decide_eq_true ⟨p1, p2⟩
          have h1 := hW b hbn hw2
          have h2 : rkR R b ≠ i := fun z => cp ((hPW b hbn).mpr ⟨hw2, z⟩)
          show i + 1 ≤ rkR R b
          omega) (fun m h1 h2 z => by
        have := (nI_leI (by unfold vln; omega) (by omega)).mp z
        have := vln_lt (show i < m by omega) h2
        omega) (by
        show c + 1 + cnt (rg 0 nb) (isW (mkP 0 nb c (pR R g (i / 27) (i / 9 % 3) (9 - i % 9)) R 19)) ≤ nb
        omega)
      have z54 : mkL g i c (mkP 0 nb c (pR R g (i / 27) (i / 9 % 3) (9 - i % 9)) R) 0 54 = R 0 54 := by unfold mkL; simp (disch := omega) only [up_no]; rfl
      refine ⟨M2, R2, c2, ?_, hone.trans y2, y3, y4, y5.trans z54⟩
      refine Eq.trans ?_ y1
      show f_L_lots_6_b N (f_L_lots_6 N n8) (nI g) lastv 1 M = _
      unfold f_L_lots_6_b
      rw [if_neg (show ¬ (1 : Int32) = 0 by decide)]
      refine Eq.trans e1 ?_
      unfold f_L_lots_132
      refine Eq.trans t1 ?_
      obtain ⟨v1, v2, v3⟩ := vl_dec i hi108
      have e16 : 16 + nI (i / 27) = nI (16 + i / 27) := by rw [show (16 : Int32) = nI 16 from rfl, nI_add]
      unfold f_L_lots_240 f_L_lots_308 lotM
      have ev : (nI g + 8 * nI (i / 27)) + 32 * nI (i / 9 % 3) + 128 * nI (9 - i % 9) + 2048 * nI hal = nI (g + 8 * (i / 27) + 32 * (i / 9 % 3) + 128 * (9 - i % 9) + 2048 * hal) := by
        rw [show (8 : Int32) = nI 8 from rfl, show (32 : Int32) = nI 32 from rfl, show (128 : Int32) = nI 128 from rfl, show (2048 : Int32) = nI 2048 from rfl, nI_mul, nI_mul, nI_mul, nI_mul, nI_add, nI_add, nI_add, nI_add]
      simp (maxSteps := 1000000) (disch := omega) only [f10, ↓reduceIte, gi5_56, cl5, gq_l_e, pnl.1, v1, v2, v3, e16, g_inN, nI_clamp, pk8, up_no, up_same, nI_1, ev]
    · rw [if_neg hex] at hone
      have hno : ∀ b, b < nb → pR R g (i / 27) (i / 9 % 3) (9 - i % 9) b = false := fun b hbn => Bool.eq_false_iff.mpr fun z => hex (cnt_pos (b := b) (rg_m.mpr ⟨Nat.zero_le _, by omega⟩) z)
      rw [mkP_z hno] at hone
      obtain ⟨M2, R2, c2, y1, y2, y3, y4, y5⟩ := ih (i + 1) (n8 + 1) n9 c lastv M R H (by omega) (by omega) (by omega) (fun b hbn hw => by
        have h1 := hW b hbn hw
        have h2 : rkR R b ≠ i := fun z => by
          have := (hPW b hbn).mpr ⟨hw, z⟩
          rw [hno b hbn] at this
          cases this
        omega) (fun m h1 h2 => hlv m (by omega) h2) hcw
      exact ⟨M2, R2, c2, y1, hone.trans y2, y3, y4, y5⟩
theorem s2_lots {g : Nat} (hN : 600 ≤ N) (hg : g < 8) (H : PK S nb nl nr tn dn M R) (hcw : nl + cnt (rg 0 nb) (isW (R 19)) ≤ nb) : ∃ M2 R2 nl2, f_L_lots N (nI g) M = some (0, M2) ∧ f_X10_parts N (nI g) R = some (0, R2) ∧ PK S nb nl2 nr tn dn M2 R2 ∧ nl2 + cnt (rg 0 nb) (isW (R2 19)) ≤ nb ∧ R2 0 54 = R 0 54 :=
  s2_lots_l (N := N) hN hg 108 0 N N nl (-1) M R H (by omega) (by omega) (by omega) (fun b _ _ => Nat.zero_le _) (fun m _ hm z => by
    rw [Int32.le_iff_toInt_le, nI_toInt (by unfold vln; omega)] at z
    have : (-1 : Int32).toInt = -1 := rfl
    omega) hcw
end

