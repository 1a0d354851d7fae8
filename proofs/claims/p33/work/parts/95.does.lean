/-! the class is called, through the law's does -/
section
variable {N : Nat} {M R : gq_M}
theorem inv_mrg {C R X : gq_M} (H : INV C R) : INV (mrg 109 C X) R := by
  obtain ⟨nb, nl, nr, tn, hnb, hnl, hnr, htn, hda, hop, hdr, hqu, hai, hid, hac, hlk, hla, hwt, hks, hkm, hkh, hbg, hbd, hbo, hbl, hbb, hst, hpw, hxb, hxk, hxr, hxs, hxf, hxl, hxc, hxi, hxp, hsu, hmo, hsb, hlo, hlb, hlf, hlh, hld, hsg, hlr, hcl, hhl⟩ := H
  exact ⟨nb, nl, nr, tn, hnb, hnl, hnr, htn, hda, hop, hdr, hqu, hai, hid, hac, hlk, hla, hwt, hks, hkm, hkh, hbg, hbd, hbo, hbl, hbb, hst, hpw, hxb, hxk, hxr, hxs, hxf, hxl, hxc, hxi, hxp, hsu, hmo, hsb, hlo, hlb, hlf, hlh, hld, hsg, hlr, hcl, hhl⟩
theorem inv_cg {M R M1 : gq_M} (H : INV M R) (h : ∀ a, a < 109 → M1 a = M a) : INV M1 R := by
  have e : M1 = mrg 109 M M1 := by
    funext a
    by_cases c : a < 109
    · rw [mrg_lt c, h a c]
    · rw [mrg_ge c]
  rw [e]
  exact inv_mrg H
theorem inv_up {M R : gq_M} {k j : Nat} {v : Int32} (H : INV M R) (hk : 109 ≤ k) : INV (gq_up M k j v) R := inv_cg H fun a ha => up_ne (by omega)
theorem pk_mc {S : Nat → Prop} {nb nl nr tn dn : Nat} {M M2 R : gq_M} (H : PK S nb nl nr tn dn M R) (h : ∀ k, 109 ≤ k → M2 k = M k) : PK S nb nl nr tn dn M2 R := by
  unfold PK HS HA PR BX LT at *
  simp only [h 109 (by omega), h 110 (by omega), h 111 (by omega), h 112 (by omega), h 113 (by omega), h 114 (by omega), h 115 (by omega), h 116 (by omega), h 117 (by omega), h 118 (by omega), h 119 (by omega), h 120 (by omega), h 121 (by omega), h 122 (by omega)]
  exact H
def dv (x1 x2 x3 w v : Int32) : Int32 := if w = 0 then v else if w = 1 then x1 else if w = 2 then x2 else x3
abbrev dvB : Int32 → Int32 → Int32 := dv (-300000000) (-200000000) 0
abbrev dvC : Int32 → Int32 → Int32 := dv (-300000000) (-200000000) (-100000000)
abbrev dvE : Int32 → Int32 → Int32 := dv (-300000000) (-100000000) 0
abbrev dvD : Int32 → Int32 → Int32 := dv (-100000000) 0 0
abbrev dvF : Int32 → Int32 → Int32 := dv (-200000000) (-100000000) 0
abbrev dvG : Int32 → Int32 → Int32 := dv (-200000000) 0 0
def isV (kk : Nat → Option Int32) (D : Int32 → Int32 → Int32) : Prop := ∀ e w v, kk e = some w → (e = 0 ∧ D w v = v) ∨ (e = 1 ∧ D w v = -300000000) ∨ (e = 2 ∧ D w v = -200000000) ∨ (e = 3 ∧ D w v = -100000000)
theorem koA : isV kA dvB := by
  intro e w v h
  rcases e with _ | _ | _ | _ | e
  · cases h; exact Or.inl ⟨rfl, rfl⟩
  · cases h; exact Or.inr (Or.inl ⟨rfl, rfl⟩)
  · cases h
  · cases h
  · cases h
theorem koB : isV kB dvB := by
  intro e w v h
  rcases e with _ | _ | _ | _ | e
  · cases h; exact Or.inl ⟨rfl, rfl⟩
  · cases h; exact Or.inr (Or.inl ⟨rfl, rfl⟩)
  · cases h; exact Or.inr (Or.inr (Or.inl ⟨rfl, rfl⟩))
  · cases h
  · cases h
theorem koC : isV kC dvC := by
  intro e w v h
  rcases e with _ | _ | _ | _ | e
  · cases h; exact Or.inl ⟨rfl, rfl⟩
  · cases h; exact Or.inr (Or.inl ⟨rfl, rfl⟩)
  · cases h; exact Or.inr (Or.inr (Or.inl ⟨rfl, rfl⟩))
  · cases h; exact Or.inr (Or.inr (Or.inr ⟨rfl, rfl⟩))
  · cases h
theorem koD : isV kD dvD := by
  intro e w v h
  rcases e with _ | _ | _ | _ | e
  · cases h; exact Or.inl ⟨rfl, rfl⟩
  · cases h
  · cases h
  · cases h; exact Or.inr (Or.inr (Or.inr ⟨rfl, rfl⟩))
  · cases h
theorem koE : isV kE dvE := by
  intro e w v h
  rcases e with _ | _ | _ | _ | e
  · cases h; exact Or.inl ⟨rfl, rfl⟩
  · cases h; exact Or.inr (Or.inl ⟨rfl, rfl⟩)
  · cases h
  · cases h; exact Or.inr (Or.inr (Or.inr ⟨rfl, rfl⟩))
  · cases h
theorem koF : isV kF dvF := by
  intro e w v h
  rcases e with _ | _ | _ | _ | e
  · cases h; exact Or.inl ⟨rfl, rfl⟩
  · cases h
  · cases h; exact Or.inr (Or.inr (Or.inl ⟨rfl, rfl⟩))
  · cases h; exact Or.inr (Or.inr (Or.inr ⟨rfl, rfl⟩))
  · cases h
theorem koG : isV kG dvG := by
  intro e w v h
  rcases e with _ | _ | _ | _ | e
  · cases h; exact Or.inl ⟨rfl, rfl⟩
  · cases h
  · cases h; exact Or.inr (Or.inr (Or.inl ⟨rfl, rfl⟩))
  · cases h
  · cases h
theorem DO {kk : Nat → Option Int32} {c : Option (Nat × Int32 × gq_M)} {R2 : gq_M} {v2 x : Int32} {D : Int32 → Int32 → Int32} (h : OUT kk c (some (v2, R2))) (hD : isV kk D) (hx : D (R2 0 54) v2 = x) : ∃ M2, gq_c M (fun C9 => mrg 109 C9 M) c (fun v Cv => gq_l (mrg 109 Cv M) fun M9 => f_L_does_360 N v M9) = some (x, M2) ∧ INV M2 R2 ∧ ∀ k, 109 ≤ k → M2 k = M k := by
  obtain ⟨e, v, v3, C2, R3, h1, h2, h3, h4, h5⟩ := h
  cases h2
  subst h1
  refine ⟨mrg 109 C2 M, ?_, inv_mrg h5, fun k hk => mrg_ge (by omega)⟩
  rcases hD e _ v2 h3 with ⟨rfl, q⟩ | ⟨rfl, q⟩ | ⟨rfl, q⟩ | ⟨rfl, q⟩
  · rw [← hx, q, ← h4 rfl]; rfl
  · rw [← hx, q]; rfl
  · rw [← hx, q]; rfl
  · rw [← hx, q]; rfl
theorem DOb {kk : Nat → Option Int32} {c : Option (Nat × Int32 × gq_M)} {R2 : gq_M} {v2 x : Int32} {D : Int32 → Int32 → Int32} (h : OUT kk c (some (v2, R2))) (hD : isV kk D) (hb : bit v2) (hx : D (R2 0 54) v2 = x) : ∃ M2, gq_c M (fun C9 => mrg 109 C9 M) c (fun v Cv => gq_l (mrg 109 Cv M) fun M9 => if v = 0 then (f_L_does_360 N 0 M9) else (f_L_does_360 N 1 M9)) = some (x, M2) ∧ INV M2 R2 ∧ ∀ k, 109 ≤ k → M2 k = M k := by
  obtain ⟨e, v, v3, C2, R3, h1, h2, h3, h4, h5⟩ := h
  cases h2
  subst h1
  refine ⟨mrg 109 C2 M, ?_, inv_mrg h5, fun k hk => mrg_ge (by omega)⟩
  rcases hD e _ v2 h3 with ⟨rfl, q⟩ | ⟨rfl, q⟩ | ⟨rfl, q⟩ | ⟨rfl, q⟩
  · rw [← hx, q, h4 rfl]
    rcases hb with hb | hb
    · rw [hb]; rfl
    · rw [hb]; rfl
  · rw [← hx, q]; rfl
  · rw [← hx, q]; rfl
  · rw [← hx, q]; rfl
theorem DOk {c : Option (Nat × Int32 × gq_M)} {R2 : gq_M} {v2 x : Int32} (h : OUT kB c (some (v2, R2))) (hx : dvB (R2 0 54) 0 = x) : ∃ M2, gq_c M (fun C9 => C9) (gq_x3 (fun C9 => mrg 109 C9 M) c fun v1 Cv1 => gq_l (mrg 109 Cv1 M) fun M4 => some (0, 0, M4)) (fun v Cv => f_L_does_360 N v Cv) = some (x, M2) ∧ INV M2 R2 ∧ ∀ k, 109 ≤ k → M2 k = M k := by
  obtain ⟨e, v, v3, C2, R3, h1, h2, h3, h4, h5⟩ := h
  cases h2
  subst h1
  refine ⟨mrg 109 C2 M, ?_, inv_mrg h5, fun k hk => mrg_ge (by omega)⟩
  rcases koB e _ 0 h3 with ⟨rfl, q⟩ | ⟨rfl, q⟩ | ⟨rfl, q⟩ | ⟨rfl, q⟩
  · rw [← hx, q]; rfl
  · rw [← hx, q]; rfl
  · rw [← hx, q]; rfl
  · rw [← hx, q]; rfl
theorem y_quota {R2 : gq_M} {a1 a2 a3 a4 a5 a6 v2 x : Int32} (I : INV M R) (hr : f_X10_quota N a1 a2 a3 R = some (v2, R2)) (hx : dvB (R2 0 54) v2 = x) : ∃ M2, f_L_does N 0 a1 a2 a3 a4 a5 a6 M = some (x, M2) ∧ INV M2 R2 ∧ ∀ k, 109 ≤ k → M2 k = M k := by
  unfold f_L_does
  rw [if_pos (show (0 : Int32) = 0 from rfl)]
  exact DO (by rw [← hr]; exact c_quota I) koB hx
theorem y_step {R2 : gq_M} {a1 a2 a3 a4 a5 a6 v2 x : Int32} (I : INV M R) (hr : f_X10_step N a1 a2 R = some (v2, R2)) (hx : dvB (R2 0 54) v2 = x) : ∃ M2, f_L_does N 3 a1 a2 a3 a4 a5 a6 M = some (x, M2) ∧ INV M2 R2 ∧ ∀ k, 109 ≤ k → M2 k = M k := by
  unfold f_L_does
  rw [if_neg (show ¬ (3 : Int32) = 0 by decide), if_neg (show ¬ (3 : Int32) = 1 by decide), if_neg (show ¬ (3 : Int32) = 2 by decide), if_pos (show (3 : Int32) = 3 from rfl)]
  exact DO (by rw [← hr]; exact c_step I) koB hx
theorem y_buyer {R2 : gq_M} {a1 a2 a3 a4 a5 a6 v2 x : Int32} (I : INV M R) (hr : f_X10_buyer N a1 a2 a3 R = some (v2, R2)) (hx : dvB (R2 0 54) v2 = x) : ∃ M2, f_L_does N 4 a1 a2 a3 a4 a5 a6 M = some (x, M2) ∧ INV M2 R2 ∧ ∀ k, 109 ≤ k → M2 k = M k := by
  unfold f_L_does
  rw [if_neg (show ¬ (4 : Int32) = 0 by decide), if_neg (show ¬ (4 : Int32) = 1 by decide), if_neg (show ¬ (4 : Int32) = 2 by decide), if_neg (show ¬ (4 : Int32) = 3 by decide), if_pos (show (4 : Int32) = 4 from rfl)]
  exact DO (by rw [← hr]; exact c_buyer I) koB hx
theorem y_land {R2 : gq_M} {a1 a2 a3 a4 a5 a6 v2 x : Int32} (hN : 600 ≤ N) (I : INV M R) (hr : f_X10_land N a1 a2 a3 a4 a5 a6 R = some (v2, R2)) (hx : dvC (R2 0 54) v2 = x) : ∃ M2, f_L_does N 7 a1 a2 a3 a4 a5 a6 M = some (x, M2) ∧ INV M2 R2 ∧ ∀ k, 109 ≤ k → M2 k = M k := by
  unfold f_L_does
  rw [if_neg (show ¬ (7 : Int32) = 0 by decide), if_neg (show ¬ (7 : Int32) = 1 by decide), if_neg (show ¬ (7 : Int32) = 2 by decide), if_neg (show ¬ (7 : Int32) = 3 by decide), if_neg (show ¬ (7 : Int32) = 4 by decide), if_neg (show ¬ (7 : Int32) = 5 by decide), if_neg (show ¬ (7 : Int32) = 6 by decide), if_pos (show (7 : Int32) = 7 from rfl)]
  exact DO (by rw [← hr]; exact c_land hN I) koC hx
theorem y_open {R2 : gq_M} {a1 a2 a3 a4 a5 a6 v2 x : Int32} (hN : 600 ≤ N) (I : INV M R) (hr : f_X10_open N R = some (v2, R2)) (hx : dvD (R2 0 54) v2 = x) : ∃ M2, f_L_does N 8 a1 a2 a3 a4 a5 a6 M = some (x, M2) ∧ INV M2 R2 ∧ ∀ k, 109 ≤ k → M2 k = M k := by
  unfold f_L_does
  rw [if_neg (show ¬ (8 : Int32) = 0 by decide), if_neg (show ¬ (8 : Int32) = 1 by decide), if_neg (show ¬ (8 : Int32) = 2 by decide), if_neg (show ¬ (8 : Int32) = 3 by decide), if_neg (show ¬ (8 : Int32) = 4 by decide), if_neg (show ¬ (8 : Int32) = 5 by decide), if_neg (show ¬ (8 : Int32) = 6 by decide), if_neg (show ¬ (8 : Int32) = 7 by decide), if_pos (show (8 : Int32) = 8 from rfl)]
  exact DO (by rw [← hr]; exact c_open hN I) koD hx
theorem y_end {R2 : gq_M} {a1 a2 a3 a4 a5 a6 v2 x : Int32} (hN : 600 ≤ N) (I : INV M R) (hr : f_X10_end N R = some (v2, R2)) (hx : dvD (R2 0 54) v2 = x) : ∃ M2, f_L_does N 9 a1 a2 a3 a4 a5 a6 M = some (x, M2) ∧ INV M2 R2 ∧ ∀ k, 109 ≤ k → M2 k = M k := by
  unfold f_L_does
  rw [if_neg (show ¬ (9 : Int32) = 0 by decide), if_neg (show ¬ (9 : Int32) = 1 by decide), if_neg (show ¬ (9 : Int32) = 2 by decide), if_neg (show ¬ (9 : Int32) = 3 by decide), if_neg (show ¬ (9 : Int32) = 4 by decide), if_neg (show ¬ (9 : Int32) = 5 by decide), if_neg (show ¬ (9 : Int32) = 6 by decide), if_neg (show ¬ (9 : Int32) = 7 by decide), if_neg (show ¬ (9 : Int32) = 8 by decide), if_pos (show (9 : Int32) = 9 from rfl)]
  exact DO (by rw [← hr]; exact c_end hN I) koD hx
theorem y_press {R2 : gq_M} {a1 a2 a3 a4 a5 a6 v2 x : Int32} (hN : 600 ≤ N) (I : INV M R) (hr : f_X10_press N a1 a2 R = some (v2, R2)) (hx : dvE (R2 0 54) v2 = x) : ∃ M2, f_L_does N 10 a1 a2 a3 a4 a5 a6 M = some (x, M2) ∧ INV M2 R2 ∧ ∀ k, 109 ≤ k → M2 k = M k := by
  unfold f_L_does
  rw [if_neg (show ¬ (10 : Int32) = 0 by decide), if_neg (show ¬ (10 : Int32) = 1 by decide), if_neg (show ¬ (10 : Int32) = 2 by decide), if_neg (show ¬ (10 : Int32) = 3 by decide), if_neg (show ¬ (10 : Int32) = 4 by decide), if_neg (show ¬ (10 : Int32) = 5 by decide), if_neg (show ¬ (10 : Int32) = 6 by decide), if_neg (show ¬ (10 : Int32) = 7 by decide), if_neg (show ¬ (10 : Int32) = 8 by decide), if_neg (show ¬ (10 : Int32) = 9 by decide), if_pos (show (10 : Int32) = 10 from rfl)]
  exact DO (by rw [← hr]; exact c_press hN I) koE hx
theorem y_take {R2 : gq_M} {a1 a2 a3 a4 a5 a6 v2 x : Int32} (hN : 600 ≤ N) (I : INV M R) (hr : f_X10_take N a1 a2 a3 R = some (v2, R2)) (hx : dvE (R2 0 54) v2 = x) : ∃ M2, f_L_does N 11 a1 a2 a3 a4 a5 a6 M = some (x, M2) ∧ INV M2 R2 ∧ ∀ k, 109 ≤ k → M2 k = M k := by
  unfold f_L_does
  rw [if_neg (show ¬ (11 : Int32) = 0 by decide), if_neg (show ¬ (11 : Int32) = 1 by decide), if_neg (show ¬ (11 : Int32) = 2 by decide), if_neg (show ¬ (11 : Int32) = 3 by decide), if_neg (show ¬ (11 : Int32) = 4 by decide), if_neg (show ¬ (11 : Int32) = 5 by decide), if_neg (show ¬ (11 : Int32) = 6 by decide), if_neg (show ¬ (11 : Int32) = 7 by decide), if_neg (show ¬ (11 : Int32) = 8 by decide), if_neg (show ¬ (11 : Int32) = 9 by decide), if_neg (show ¬ (11 : Int32) = 10 by decide), if_pos (show (11 : Int32) = 11 from rfl)]
  exact DO (by rw [← hr]; exact c_take hN I) koE hx
theorem y_lorry {R2 : gq_M} {a1 a2 a3 a4 a5 a6 v2 x : Int32} (hN : 600 ≤ N) (I : INV M R) (hr : f_X10_lorry N a1 a2 a3 R = some (v2, R2)) (hx : dvC (R2 0 54) v2 = x) : ∃ M2, f_L_does N 12 a1 a2 a3 a4 a5 a6 M = some (x, M2) ∧ INV M2 R2 ∧ ∀ k, 109 ≤ k → M2 k = M k := by
  unfold f_L_does
  rw [if_neg (show ¬ (12 : Int32) = 0 by decide), if_neg (show ¬ (12 : Int32) = 1 by decide), if_neg (show ¬ (12 : Int32) = 2 by decide), if_neg (show ¬ (12 : Int32) = 3 by decide), if_neg (show ¬ (12 : Int32) = 4 by decide), if_neg (show ¬ (12 : Int32) = 5 by decide), if_neg (show ¬ (12 : Int32) = 6 by decide), if_neg (show ¬ (12 : Int32) = 7 by decide), if_neg (show ¬ (12 : Int32) = 8 by decide), if_neg (show ¬ (12 : Int32) = 9 by decide), if_neg (show ¬ (12 : Int32) = 10 by decide), if_neg (show ¬ (12 : Int32) = 11 by decide), if_pos (show (12 : Int32) = 12 from rfl)]
  exact DO (by rw [← hr]; exact c_lorry hN I) koC hx
theorem y_pay {R2 : gq_M} {a1 a2 a3 a4 a5 a6 v2 x : Int32} (hN : 600 ≤ N) (I : INV M R) (hr : f_X10_pay N a1 a2 R = some (v2, R2)) (hx : dvB (R2 0 54) v2 = x) : ∃ M2, f_L_does N 13 a1 a2 a3 a4 a5 a6 M = some (x, M2) ∧ INV M2 R2 ∧ ∀ k, 109 ≤ k → M2 k = M k := by
  unfold f_L_does
  rw [if_neg (show ¬ (13 : Int32) = 0 by decide), if_neg (show ¬ (13 : Int32) = 1 by decide), if_neg (show ¬ (13 : Int32) = 2 by decide), if_neg (show ¬ (13 : Int32) = 3 by decide), if_neg (show ¬ (13 : Int32) = 4 by decide), if_neg (show ¬ (13 : Int32) = 5 by decide), if_neg (show ¬ (13 : Int32) = 6 by decide), if_neg (show ¬ (13 : Int32) = 7 by decide), if_neg (show ¬ (13 : Int32) = 8 by decide), if_neg (show ¬ (13 : Int32) = 9 by decide), if_neg (show ¬ (13 : Int32) = 10 by decide), if_neg (show ¬ (13 : Int32) = 11 by decide), if_neg (show ¬ (13 : Int32) = 12 by decide), if_pos (show (13 : Int32) = 13 from rfl)]
  exact DO (by rw [← hr]; exact c_pay hN I) koB hx
theorem y_claim {R2 : gq_M} {a1 a2 a3 a4 a5 a6 v2 x : Int32} (hN : 600 ≤ N) (I : INV M R) (hr : f_X10_claim N a1 a2 R = some (v2, R2)) (hx : dvE (R2 0 54) v2 = x) : ∃ M2, f_L_does N 14 a1 a2 a3 a4 a5 a6 M = some (x, M2) ∧ INV M2 R2 ∧ ∀ k, 109 ≤ k → M2 k = M k := by
  unfold f_L_does
  rw [if_neg (show ¬ (14 : Int32) = 0 by decide), if_neg (show ¬ (14 : Int32) = 1 by decide), if_neg (show ¬ (14 : Int32) = 2 by decide), if_neg (show ¬ (14 : Int32) = 3 by decide), if_neg (show ¬ (14 : Int32) = 4 by decide), if_neg (show ¬ (14 : Int32) = 5 by decide), if_neg (show ¬ (14 : Int32) = 6 by decide), if_neg (show ¬ (14 : Int32) = 7 by decide), if_neg (show ¬ (14 : Int32) = 8 by decide), if_neg (show ¬ (14 : Int32) = 9 by decide), if_neg (show ¬ (14 : Int32) = 10 by decide), if_neg (show ¬ (14 : Int32) = 11 by decide), if_neg (show ¬ (14 : Int32) = 12 by decide), if_neg (show ¬ (14 : Int32) = 13 by decide), if_pos (show (14 : Int32) = 14 from rfl)]
  exact DO (by rw [← hr]; exact c_claim hN I) koE hx
theorem y_settle {R2 : gq_M} {a1 a2 a3 a4 a5 a6 v2 x : Int32} (hN : 600 ≤ N) (I : INV M R) (hr : f_X10_settle N a1 a2 a3 R = some (v2, R2)) (hx : dvB (R2 0 54) v2 = x) : ∃ M2, f_L_does N 15 a1 a2 a3 a4 a5 a6 M = some (x, M2) ∧ INV M2 R2 ∧ ∀ k, 109 ≤ k → M2 k = M k := by
  unfold f_L_does
  rw [if_neg (show ¬ (15 : Int32) = 0 by decide), if_neg (show ¬ (15 : Int32) = 1 by decide), if_neg (show ¬ (15 : Int32) = 2 by decide), if_neg (show ¬ (15 : Int32) = 3 by decide), if_neg (show ¬ (15 : Int32) = 4 by decide), if_neg (show ¬ (15 : Int32) = 5 by decide), if_neg (show ¬ (15 : Int32) = 6 by decide), if_neg (show ¬ (15 : Int32) = 7 by decide), if_neg (show ¬ (15 : Int32) = 8 by decide), if_neg (show ¬ (15 : Int32) = 9 by decide), if_neg (show ¬ (15 : Int32) = 10 by decide), if_neg (show ¬ (15 : Int32) = 11 by decide), if_neg (show ¬ (15 : Int32) = 12 by decide), if_neg (show ¬ (15 : Int32) = 13 by decide), if_neg (show ¬ (15 : Int32) = 14 by decide), if_pos (show (15 : Int32) = 15 from rfl)]
  exact DO (by rw [← hr]; exact c_settle hN I) koB hx
theorem y_pass {R2 : gq_M} {a1 a2 a3 a4 a5 a6 v2 x : Int32} (hN : 600 ≤ N) (I : INV M R) (hr : f_X10_pass N a1 R = some (v2, R2)) (hx : dvF (R2 0 54) v2 = x) : ∃ M2, f_L_does N 16 a1 a2 a3 a4 a5 a6 M = some (x, M2) ∧ INV M2 R2 ∧ ∀ k, 109 ≤ k → M2 k = M k := by
  unfold f_L_does
  rw [if_neg (show ¬ (16 : Int32) = 0 by decide), if_neg (show ¬ (16 : Int32) = 1 by decide), if_neg (show ¬ (16 : Int32) = 2 by decide), if_neg (show ¬ (16 : Int32) = 3 by decide), if_neg (show ¬ (16 : Int32) = 4 by decide), if_neg (show ¬ (16 : Int32) = 5 by decide), if_neg (show ¬ (16 : Int32) = 6 by decide), if_neg (show ¬ (16 : Int32) = 7 by decide), if_neg (show ¬ (16 : Int32) = 8 by decide), if_neg (show ¬ (16 : Int32) = 9 by decide), if_neg (show ¬ (16 : Int32) = 10 by decide), if_neg (show ¬ (16 : Int32) = 11 by decide), if_neg (show ¬ (16 : Int32) = 12 by decide), if_neg (show ¬ (16 : Int32) = 13 by decide), if_neg (show ¬ (16 : Int32) = 14 by decide), if_neg (show ¬ (16 : Int32) = 15 by decide), if_pos (show (16 : Int32) = 16 from rfl)]
  exact DO (by rw [← hr]; exact c_pass hN I) koF hx
theorem y_told {R2 : gq_M} {a1 a2 a3 a4 a5 a6 v2 x : Int32} (hN : 600 ≤ N) (I : INV M R) (hr : f_X10_told N a1 a2 R = some (v2, R2)) (hx : dvB (R2 0 54) v2 = x) : ∃ M2, f_L_does N 17 a1 a2 a3 a4 a5 a6 M = some (x, M2) ∧ INV M2 R2 ∧ ∀ k, 109 ≤ k → M2 k = M k := by
  unfold f_L_does
  rw [if_neg (show ¬ (17 : Int32) = 0 by decide), if_neg (show ¬ (17 : Int32) = 1 by decide), if_neg (show ¬ (17 : Int32) = 2 by decide), if_neg (show ¬ (17 : Int32) = 3 by decide), if_neg (show ¬ (17 : Int32) = 4 by decide), if_neg (show ¬ (17 : Int32) = 5 by decide), if_neg (show ¬ (17 : Int32) = 6 by decide), if_neg (show ¬ (17 : Int32) = 7 by decide), if_neg (show ¬ (17 : Int32) = 8 by decide), if_neg (show ¬ (17 : Int32) = 9 by decide), if_neg (show ¬ (17 : Int32) = 10 by decide), if_neg (show ¬ (17 : Int32) = 11 by decide), if_neg (show ¬ (17 : Int32) = 12 by decide), if_neg (show ¬ (17 : Int32) = 13 by decide), if_neg (show ¬ (17 : Int32) = 14 by decide), if_neg (show ¬ (17 : Int32) = 15 by decide), if_neg (show ¬ (17 : Int32) = 16 by decide), if_pos (show (17 : Int32) = 17 from rfl)]
  exact DO (by rw [← hr]; exact c_told hN I) koB hx
theorem y_lot {R2 : gq_M} {a1 a2 a3 a4 a5 a6 v2 x : Int32} (hN : 600 ≤ N) (I : INV M R) (hr : f_X10_lot N a1 a2 R = some (v2, R2)) (hx : dvB (R2 0 54) v2 = x) : ∃ M2, f_L_does N 18 a1 a2 a3 a4 a5 a6 M = some (x, M2) ∧ INV M2 R2 ∧ ∀ k, 109 ≤ k → M2 k = M k := by
  unfold f_L_does
  rw [if_neg (show ¬ (18 : Int32) = 0 by decide), if_neg (show ¬ (18 : Int32) = 1 by decide), if_neg (show ¬ (18 : Int32) = 2 by decide), if_neg (show ¬ (18 : Int32) = 3 by decide), if_neg (show ¬ (18 : Int32) = 4 by decide), if_neg (show ¬ (18 : Int32) = 5 by decide), if_neg (show ¬ (18 : Int32) = 6 by decide), if_neg (show ¬ (18 : Int32) = 7 by decide), if_neg (show ¬ (18 : Int32) = 8 by decide), if_neg (show ¬ (18 : Int32) = 9 by decide), if_neg (show ¬ (18 : Int32) = 10 by decide), if_neg (show ¬ (18 : Int32) = 11 by decide), if_neg (show ¬ (18 : Int32) = 12 by decide), if_neg (show ¬ (18 : Int32) = 13 by decide), if_neg (show ¬ (18 : Int32) = 14 by decide), if_neg (show ¬ (18 : Int32) = 15 by decide), if_neg (show ¬ (18 : Int32) = 16 by decide), if_neg (show ¬ (18 : Int32) = 17 by decide), if_pos (show (18 : Int32) = 18 from rfl)]
  exact DO (by rw [← hr]; exact c_lot hN I) koB hx
theorem y_average {R2 : gq_M} {a1 a2 a3 a4 a5 a6 v2 x : Int32} (hN : 600 ≤ N) (I : INV M R) (hr : f_X10_average N a1 a2 R = some (v2, R2)) (hx : dvB (R2 0 54) v2 = x) : ∃ M2, f_L_does N 19 a1 a2 a3 a4 a5 a6 M = some (x, M2) ∧ INV M2 R2 ∧ ∀ k, 109 ≤ k → M2 k = M k := by
  unfold f_L_does
  rw [if_neg (show ¬ (19 : Int32) = 0 by decide), if_neg (show ¬ (19 : Int32) = 1 by decide), if_neg (show ¬ (19 : Int32) = 2 by decide), if_neg (show ¬ (19 : Int32) = 3 by decide), if_neg (show ¬ (19 : Int32) = 4 by decide), if_neg (show ¬ (19 : Int32) = 5 by decide), if_neg (show ¬ (19 : Int32) = 6 by decide), if_neg (show ¬ (19 : Int32) = 7 by decide), if_neg (show ¬ (19 : Int32) = 8 by decide), if_neg (show ¬ (19 : Int32) = 9 by decide), if_neg (show ¬ (19 : Int32) = 10 by decide), if_neg (show ¬ (19 : Int32) = 11 by decide), if_neg (show ¬ (19 : Int32) = 12 by decide), if_neg (show ¬ (19 : Int32) = 13 by decide), if_neg (show ¬ (19 : Int32) = 14 by decide), if_neg (show ¬ (19 : Int32) = 15 by decide), if_neg (show ¬ (19 : Int32) = 16 by decide), if_neg (show ¬ (19 : Int32) = 17 by decide), if_neg (show ¬ (19 : Int32) = 18 by decide), if_pos (show (19 : Int32) = 19 from rfl)]
  exact DO (by rw [← hr]; exact c_average hN I) koB hx
theorem y_loaded {R2 : gq_M} {a1 a2 a3 a4 a5 a6 v2 x : Int32} (hN : 600 ≤ N) (I : INV M R) (hr : f_X10_loaded N a1 R = some (v2, R2)) (hx : dvB (R2 0 54) v2 = x) : ∃ M2, f_L_does N 20 a1 a2 a3 a4 a5 a6 M = some (x, M2) ∧ INV M2 R2 ∧ ∀ k, 109 ≤ k → M2 k = M k := by
  unfold f_L_does
  rw [if_neg (show ¬ (20 : Int32) = 0 by decide), if_neg (show ¬ (20 : Int32) = 1 by decide), if_neg (show ¬ (20 : Int32) = 2 by decide), if_neg (show ¬ (20 : Int32) = 3 by decide), if_neg (show ¬ (20 : Int32) = 4 by decide), if_neg (show ¬ (20 : Int32) = 5 by decide), if_neg (show ¬ (20 : Int32) = 6 by decide), if_neg (show ¬ (20 : Int32) = 7 by decide), if_neg (show ¬ (20 : Int32) = 8 by decide), if_neg (show ¬ (20 : Int32) = 9 by decide), if_neg (show ¬ (20 : Int32) = 10 by decide), if_neg (show ¬ (20 : Int32) = 11 by decide), if_neg (show ¬ (20 : Int32) = 12 by decide), if_neg (show ¬ (20 : Int32) = 13 by decide), if_neg (show ¬ (20 : Int32) = 14 by decide), if_neg (show ¬ (20 : Int32) = 15 by decide), if_neg (show ¬ (20 : Int32) = 16 by decide), if_neg (show ¬ (20 : Int32) = 17 by decide), if_neg (show ¬ (20 : Int32) = 18 by decide), if_neg (show ¬ (20 : Int32) = 19 by decide)]
  exact DO (by rw [← hr]; exact c_loaded hN I) koA hx
theorem y_kind {R2 : gq_M} {a1 a2 a3 a4 a5 a6 v2 x : Int32} (I : INV M R) (hr : f_X10_kind N a1 a2 a3 a4 R = some (v2, R2)) (hx : dvB (R2 0 54) 0 = x) : ∃ M2, f_L_does N 2 a1 a2 a3 a4 a5 a6 M = some (x, M2) ∧ INV M2 R2 ∧ ∀ k, 109 ≤ k → M2 k = M k := by
  unfold f_L_does f_L_told
  rw [if_neg (show ¬ (2 : Int32) = 0 by decide), if_neg (show ¬ (2 : Int32) = 1 by decide), if_pos (show (2 : Int32) = 2 from rfl)]
  exact DOk (by rw [← hr]; exact c_kind I) hx
theorem y_aid {R2 : gq_M} {a1 a2 a3 a4 a5 a6 v2 x : Int32} (I : INV M R) (hb : bit a3) (hr : f_X10_aid N a1 a2 a3 R = some (v2, R2)) (hx : dvB (R2 0 54) v2 = x) : ∃ M2, f_L_does N 1 a1 a2 a3 a4 a5 a6 M = some (x, M2) ∧ INV M2 R2 ∧ ∀ k, 109 ≤ k → M2 k = M k := by
  unfold f_L_does f_L_does_34
  rw [if_neg (show ¬ (1 : Int32) = 0 by decide), if_pos (show (1 : Int32) = 1 from rfl)]
  have := DO (N := N) (M := M) (D := dvB) (by rw [← hr]; exact c_aid I hb) koB hx
  rcases hb with rfl | rfl
  · rw [if_neg (show ¬ (0 : Int32) = 1 by decide)]; exact this
  · rw [if_pos (show (1 : Int32) = 1 from rfl)]; exact this
theorem y_power {R2 : gq_M} {a1 a2 a3 a4 a5 a6 v2 x : Int32} (I : INV M R) (hb : bit a2) (hv : bit v2) (hr : f_X10_power N a1 a2 R = some (v2, R2)) (hx : dvB (R2 0 54) v2 = x) : ∃ M2, f_L_does N 5 a1 a2 a3 a4 a5 a6 M = some (x, M2) ∧ INV M2 R2 ∧ ∀ k, 109 ≤ k → M2 k = M k := by
  unfold f_L_does f_L_does_105
  rw [if_neg (show ¬ (5 : Int32) = 0 by decide), if_neg (show ¬ (5 : Int32) = 1 by decide), if_neg (show ¬ (5 : Int32) = 2 by decide), if_neg (show ¬ (5 : Int32) = 3 by decide), if_neg (show ¬ (5 : Int32) = 4 by decide), if_pos (show (5 : Int32) = 5 from rfl)]
  have := DOb (N := N) (M := M) (D := dvB) (by rw [← hr]; exact c_power I hb) koA hv hx
  rcases hb with rfl | rfl
  · rw [if_neg (show ¬ (0 : Int32) = 1 by decide)]; exact this
  · rw [if_pos (show (1 : Int32) = 1 from rfl)]; exact this
theorem y_line {R2 : gq_M} {a1 a2 a3 a4 a5 a6 v2 x : Int32} (I : INV M R) (hb : bit a2) (hv : bit v2) (hr : f_X10_line N a1 a2 R = some (v2, R2)) (hx : dvB (R2 0 54) v2 = x) : ∃ M2, f_L_does N 6 a1 a2 a3 a4 a5 a6 M = some (x, M2) ∧ INV M2 R2 ∧ ∀ k, 109 ≤ k → M2 k = M k := by
  unfold f_L_does f_L_does_137
  rw [if_neg (show ¬ (6 : Int32) = 0 by decide), if_neg (show ¬ (6 : Int32) = 1 by decide), if_neg (show ¬ (6 : Int32) = 2 by decide), if_neg (show ¬ (6 : Int32) = 3 by decide), if_neg (show ¬ (6 : Int32) = 4 by decide), if_neg (show ¬ (6 : Int32) = 5 by decide), if_pos (show (6 : Int32) = 6 from rfl)]
  have := DOb (N := N) (M := M) (D := dvB) (by rw [← hr]; exact c_line I hb) koA hv hx
  rcases hb with rfl | rfl
  · rw [if_neg (show ¬ (0 : Int32) = 1 by decide)]; exact this
  · rw [if_pos (show (1 : Int32) = 1 from rfl)]; exact this
end

