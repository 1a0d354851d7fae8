/-! pure: the law's cases from outcomes -/
theorem cmp_rf (x : Int64) : lg_cmp x x = 0 := by
  unfold lg_cmp
  have : ¬ x < x := by rw [Int64.lt_iff_toInt_lt]; omega
  simp [this]
theorem kk_of {kk : Nat → Option Int32} {e : Nat} {w : Int32} (h : kk e = some w) (hk : ∀ e, kk (e + 4) = none) : e = 0 ∨ e = 1 ∨ e = 2 ∨ e = 3 := by
  rcases e with _ | _ | _ | _ | e
  · omega
  · omega
  · omega
  · omega
  · rw [hk] at h; cases h
theorem fc_0 {N : Nat} {p1 p2 p3 p4 p5 p6 : Int32} {C R : gq_M} {ov : Int64} (h : OUT kB (f_X9_quota N p1 p2 p3 C) (f_X10_quota N p1 p2 p3 R)) : ∃ C2 R2 ov2, fl_0 N p1 p2 p3 p4 p5 p6 C R ov = some (C2, R2, ov2) ∧ INV C2 R2 := by
  obtain ⟨e, v, v2, C2, R2, h1, h2, h3, h4, h5⟩ := h
  suffices hh : ∃ ov2, fl_0 N p1 p2 p3 p4 p5 p6 C R ov = some (C2, R2, ov2) from hh.elim fun x hx => ⟨C2, R2, x, hx, h5⟩
  unfold fl_0 fh_L_quota
  simp only [h1, h2, gq_y, gq_h, gq_b, r_thrown]
  rcases kk_of h3 (fun _ => rfl) with rfl | rfl | rfl | rfl
  · have h6 := Option.some.inj h3
    simp [← h6, ← h4 rfl, cmp_rf]; try rfl
  · have h6 := Option.some.inj h3
    simp [← h6]; try rfl
  · have h6 := Option.some.inj h3
    simp [← h6]; try rfl
  · cases h3
theorem fc_1 {N : Nat} {p1 p2 p3 p4 p5 p6 : Int32} {C R : gq_M} {ov : Int64} (h : ∀ q, bit q → OUT kB (f_X9_aid N p1 p2 q C) (f_X10_aid N p1 p2 q R)) : ∃ C2 R2 ov2, fl_1 N p1 p2 p3 p4 p5 p6 C R ov = some (C2, R2, ov2) ∧ INV C2 R2 := by
  by_cases hq : p3 = 0
  · obtain ⟨e, v, v2, C2, R2, h1, h2, h3, h4, h5⟩ := h 0 (by simp [bit])
    suffices hh : ∃ ov2, fl_1 N p1 p2 p3 p4 p5 p6 C R ov = some (C2, R2, ov2) from hh.elim fun x hx => ⟨C2, R2, x, hx, h5⟩
    unfold fl_1 fh_L_aid
    simp only [h1, h2, gq_y, gq_h, gq_b, r_thrown, if_pos hq]
    rcases kk_of h3 (fun _ => rfl) with rfl | rfl | rfl | rfl
    · have h6 := Option.some.inj h3
      simp [← h6, ← h4 rfl, cmp_rf]; try rfl
    · have h6 := Option.some.inj h3
      simp [← h6]; try rfl
    · have h6 := Option.some.inj h3
      simp [← h6]; try rfl
    · cases h3
  · obtain ⟨e, v, v2, C2, R2, h1, h2, h3, h4, h5⟩ := h 1 (by simp [bit])
    suffices hh : ∃ ov2, fl_1 N p1 p2 p3 p4 p5 p6 C R ov = some (C2, R2, ov2) from hh.elim fun x hx => ⟨C2, R2, x, hx, h5⟩
    unfold fl_1 fh_L_aid
    simp only [h1, h2, gq_y, gq_h, gq_b, r_thrown, if_neg hq]
    rcases kk_of h3 (fun _ => rfl) with rfl | rfl | rfl | rfl
    · have h6 := Option.some.inj h3
      simp [← h6, ← h4 rfl, cmp_rf]; try rfl
    · have h6 := Option.some.inj h3
      simp [← h6]; try rfl
    · have h6 := Option.some.inj h3
      simp [← h6]; try rfl
    · cases h3
theorem fc_2 {N : Nat} {p1 p2 p3 p4 p5 p6 : Int32} {C R : gq_M} {ov : Int64} (h : OUT kB (f_X9_kind N p1 p2 p3 p4 C) (f_X10_kind N p1 p2 p3 p4 R)) : ∃ C2 R2 ov2, fl_2 N p1 p2 p3 p4 p5 p6 C R ov = some (C2, R2, ov2) ∧ INV C2 R2 := by
  obtain ⟨e, v, v2, C2, R2, h1, h2, h3, h4, h5⟩ := h
  suffices hh : ∃ ov2, fl_2 N p1 p2 p3 p4 p5 p6 C R ov = some (C2, R2, ov2) from hh.elim fun x hx => ⟨C2, R2, x, hx, h5⟩
  unfold fl_2 fh_L_kind
  simp only [h1, h2, gq_y, gq_h, gq_b, r_thrown]
  rcases kk_of h3 (fun _ => rfl) with rfl | rfl | rfl | rfl
  · have h6 := Option.some.inj h3
    simp [← h6]
  · have h6 := Option.some.inj h3
    simp [← h6]; try rfl
  · have h6 := Option.some.inj h3
    simp [← h6]; try rfl
  · cases h3
theorem fc_3 {N : Nat} {p1 p2 p3 p4 p5 p6 : Int32} {C R : gq_M} {ov : Int64} (h : OUT kB (f_X9_step N p1 p2 C) (f_X10_step N p1 p2 R)) : ∃ C2 R2 ov2, fl_3 N p1 p2 p3 p4 p5 p6 C R ov = some (C2, R2, ov2) ∧ INV C2 R2 := by
  obtain ⟨e, v, v2, C2, R2, h1, h2, h3, h4, h5⟩ := h
  suffices hh : ∃ ov2, fl_3 N p1 p2 p3 p4 p5 p6 C R ov = some (C2, R2, ov2) from hh.elim fun x hx => ⟨C2, R2, x, hx, h5⟩
  unfold fl_3 fh_L_step
  simp only [h1, h2, gq_y, gq_h, gq_b, r_thrown]
  rcases kk_of h3 (fun _ => rfl) with rfl | rfl | rfl | rfl
  · have h6 := Option.some.inj h3
    simp [← h6, ← h4 rfl, cmp_rf]; try rfl
  · have h6 := Option.some.inj h3
    simp [← h6]; try rfl
  · have h6 := Option.some.inj h3
    simp [← h6]; try rfl
  · cases h3
theorem fc_4 {N : Nat} {p1 p2 p3 p4 p5 p6 : Int32} {C R : gq_M} {ov : Int64} (h : OUT kB (f_X9_buyer N p1 p2 p3 C) (f_X10_buyer N p1 p2 p3 R)) : ∃ C2 R2 ov2, fl_4 N p1 p2 p3 p4 p5 p6 C R ov = some (C2, R2, ov2) ∧ INV C2 R2 := by
  obtain ⟨e, v, v2, C2, R2, h1, h2, h3, h4, h5⟩ := h
  suffices hh : ∃ ov2, fl_4 N p1 p2 p3 p4 p5 p6 C R ov = some (C2, R2, ov2) from hh.elim fun x hx => ⟨C2, R2, x, hx, h5⟩
  unfold fl_4 fh_L_buyer
  simp only [h1, h2, gq_y, gq_h, gq_b, r_thrown]
  rcases kk_of h3 (fun _ => rfl) with rfl | rfl | rfl | rfl
  · have h6 := Option.some.inj h3
    simp [← h6, ← h4 rfl, cmp_rf]; try rfl
  · have h6 := Option.some.inj h3
    simp [← h6]; try rfl
  · have h6 := Option.some.inj h3
    simp [← h6]; try rfl
  · cases h3
theorem fc_6 {N : Nat} {p1 p2 p3 p4 p5 p6 : Int32} {C R : gq_M} {ov : Int64} (h : ∀ q, bit q → OUT kA (f_X9_power N p1 q C) (f_X10_power N p1 q R)) (hv : ∀ q, bit q → ∀ e v C2, f_X9_power N p1 q C = some (e, v, C2) → bit v) : ∃ C2 R2 ov2, fl_6 N p1 p2 p3 p4 p5 p6 C R ov = some (C2, R2, ov2) ∧ INV C2 R2 := by
  by_cases hq : p2 = 0
  · obtain ⟨e, v, v2, C2, R2, h1, h2, h3, h4, h5⟩ := h 0 (by simp [bit])
    suffices hh : ∃ ov2, fl_6 N p1 p2 p3 p4 p5 p6 C R ov = some (C2, R2, ov2) from hh.elim fun x hx => ⟨C2, R2, x, hx, h5⟩
    have hb := hv 0 (by simp [bit]) _ _ _ h1
    unfold fl_6 fh_L_power
    simp only [h1, h2, gq_y, gq_h, gq_b, r_thrown, if_pos hq]
    rcases kk_of h3 (fun _ => rfl) with rfl | rfl | rfl | rfl
    · have h6 := Option.some.inj h3
      rcases hb with rfl | rfl
      · simp [← h6, ← h4 rfl, cmp_rf]; try rfl
      · simp [← h6, ← h4 rfl, cmp_rf]; try rfl
    · have h6 := Option.some.inj h3
      simp [← h6]; try rfl
    · cases h3
    · cases h3
  · obtain ⟨e, v, v2, C2, R2, h1, h2, h3, h4, h5⟩ := h 1 (by simp [bit])
    suffices hh : ∃ ov2, fl_6 N p1 p2 p3 p4 p5 p6 C R ov = some (C2, R2, ov2) from hh.elim fun x hx => ⟨C2, R2, x, hx, h5⟩
    have hb := hv 1 (by simp [bit]) _ _ _ h1
    unfold fl_6 fh_L_power
    simp only [h1, h2, gq_y, gq_h, gq_b, r_thrown, if_neg hq]
    rcases kk_of h3 (fun _ => rfl) with rfl | rfl | rfl | rfl
    · have h6 := Option.some.inj h3
      rcases hb with rfl | rfl
      · simp [← h6, ← h4 rfl, cmp_rf]; try rfl
      · simp [← h6, ← h4 rfl, cmp_rf]; try rfl
    · have h6 := Option.some.inj h3
      simp [← h6]; try rfl
    · cases h3
    · cases h3
theorem fc_7 {N : Nat} {p1 p2 p3 p4 p5 p6 : Int32} {C R : gq_M} {ov : Int64} (h : ∀ q, bit q → OUT kA (f_X9_line N p1 q C) (f_X10_line N p1 q R)) (hv : ∀ q, bit q → ∀ e v C2, f_X9_line N p1 q C = some (e, v, C2) → bit v) : ∃ C2 R2 ov2, fl_7 N p1 p2 p3 p4 p5 p6 C R ov = some (C2, R2, ov2) ∧ INV C2 R2 := by
  by_cases hq : p2 = 0
  · obtain ⟨e, v, v2, C2, R2, h1, h2, h3, h4, h5⟩ := h 0 (by simp [bit])
    suffices hh : ∃ ov2, fl_7 N p1 p2 p3 p4 p5 p6 C R ov = some (C2, R2, ov2) from hh.elim fun x hx => ⟨C2, R2, x, hx, h5⟩
    have hb := hv 0 (by simp [bit]) _ _ _ h1
    unfold fl_7 fh_L_line
    simp only [h1, h2, gq_y, gq_h, gq_b, r_thrown, if_pos hq]
    rcases kk_of h3 (fun _ => rfl) with rfl | rfl | rfl | rfl
    · have h6 := Option.some.inj h3
      rcases hb with rfl | rfl
      · simp [← h6, ← h4 rfl, cmp_rf]; try rfl
      · simp [← h6, ← h4 rfl, cmp_rf]; try rfl
    · have h6 := Option.some.inj h3
      simp [← h6]; try rfl
    · cases h3
    · cases h3
  · obtain ⟨e, v, v2, C2, R2, h1, h2, h3, h4, h5⟩ := h 1 (by simp [bit])
    suffices hh : ∃ ov2, fl_7 N p1 p2 p3 p4 p5 p6 C R ov = some (C2, R2, ov2) from hh.elim fun x hx => ⟨C2, R2, x, hx, h5⟩
    have hb := hv 1 (by simp [bit]) _ _ _ h1
    unfold fl_7 fh_L_line
    simp only [h1, h2, gq_y, gq_h, gq_b, r_thrown, if_neg hq]
    rcases kk_of h3 (fun _ => rfl) with rfl | rfl | rfl | rfl
    · have h6 := Option.some.inj h3
      rcases hb with rfl | rfl
      · simp [← h6, ← h4 rfl, cmp_rf]; try rfl
      · simp [← h6, ← h4 rfl, cmp_rf]; try rfl
    · have h6 := Option.some.inj h3
      simp [← h6]; try rfl
    · cases h3
    · cases h3
theorem fc_8 {N : Nat} {p1 p2 p3 p4 p5 p6 : Int32} {C R : gq_M} {ov : Int64} (h : OUT kC (f_X9_land N p1 p2 p3 p4 p5 p6 C) (f_X10_land N p1 p2 p3 p4 p5 p6 R)) : ∃ C2 R2 ov2, fl_8 N p1 p2 p3 p4 p5 p6 C R ov = some (C2, R2, ov2) ∧ INV C2 R2 := by
  obtain ⟨e, v, v2, C2, R2, h1, h2, h3, h4, h5⟩ := h
  suffices hh : ∃ ov2, fl_8 N p1 p2 p3 p4 p5 p6 C R ov = some (C2, R2, ov2) from hh.elim fun x hx => ⟨C2, R2, x, hx, h5⟩
  unfold fl_8 fh_L_land
  simp only [h1, h2, gq_y, gq_h, gq_b, r_thrown]
  rcases kk_of h3 (fun _ => rfl) with rfl | rfl | rfl | rfl
  · have h6 := Option.some.inj h3
    simp [← h6, ← h4 rfl, cmp_rf]; try rfl
  · have h6 := Option.some.inj h3
    simp [← h6]; try rfl
  · have h6 := Option.some.inj h3
    simp [← h6]; try rfl
  · have h6 := Option.some.inj h3
    simp [← h6]; try rfl
theorem fc_9 {N : Nat} {p1 p2 p3 p4 p5 p6 : Int32} {C R : gq_M} {ov : Int64} (h : OUT kD (f_X9_open N  C) (f_X10_open N  R)) : ∃ C2 R2 ov2, fl_9 N p1 p2 p3 p4 p5 p6 C R ov = some (C2, R2, ov2) ∧ INV C2 R2 := by
  obtain ⟨e, v, v2, C2, R2, h1, h2, h3, h4, h5⟩ := h
  suffices hh : ∃ ov2, fl_9 N p1 p2 p3 p4 p5 p6 C R ov = some (C2, R2, ov2) from hh.elim fun x hx => ⟨C2, R2, x, hx, h5⟩
  unfold fl_9 fh_L_open
  simp only [h1, h2, gq_y, gq_h, gq_b, r_thrown]
  rcases kk_of h3 (fun _ => rfl) with rfl | rfl | rfl | rfl
  · have h6 := Option.some.inj h3
    simp [← h6, ← h4 rfl, cmp_rf]; try rfl
  · cases h3
  · cases h3
  · have h6 := Option.some.inj h3
    simp [← h6]; try rfl
theorem fc_10 {N : Nat} {p1 p2 p3 p4 p5 p6 : Int32} {C R : gq_M} {ov : Int64} (h : OUT kD (f_X9_end N  C) (f_X10_end N  R)) : ∃ C2 R2 ov2, fl_10 N p1 p2 p3 p4 p5 p6 C R ov = some (C2, R2, ov2) ∧ INV C2 R2 := by
  obtain ⟨e, v, v2, C2, R2, h1, h2, h3, h4, h5⟩ := h
  suffices hh : ∃ ov2, fl_10 N p1 p2 p3 p4 p5 p6 C R ov = some (C2, R2, ov2) from hh.elim fun x hx => ⟨C2, R2, x, hx, h5⟩
  unfold fl_10 fh_L_end
  simp only [h1, h2, gq_y, gq_h, gq_b, r_thrown]
  rcases kk_of h3 (fun _ => rfl) with rfl | rfl | rfl | rfl
  · have h6 := Option.some.inj h3
    simp [← h6, ← h4 rfl, cmp_rf]; try rfl
  · cases h3
  · cases h3
  · have h6 := Option.some.inj h3
    simp [← h6]; try rfl
theorem fc_11 {N : Nat} {p1 p2 p3 p4 p5 p6 : Int32} {C R : gq_M} {ov : Int64} (h : OUT kE (f_X9_press N p1 p2 C) (f_X10_press N p1 p2 R)) : ∃ C2 R2 ov2, fl_11 N p1 p2 p3 p4 p5 p6 C R ov = some (C2, R2, ov2) ∧ INV C2 R2 := by
  obtain ⟨e, v, v2, C2, R2, h1, h2, h3, h4, h5⟩ := h
  suffices hh : ∃ ov2, fl_11 N p1 p2 p3 p4 p5 p6 C R ov = some (C2, R2, ov2) from hh.elim fun x hx => ⟨C2, R2, x, hx, h5⟩
  unfold fl_11 fh_L_press
  simp only [h1, h2, gq_y, gq_h, gq_b, r_thrown]
  rcases kk_of h3 (fun _ => rfl) with rfl | rfl | rfl | rfl
  · have h6 := Option.some.inj h3
    simp [← h6, ← h4 rfl, cmp_rf]; try rfl
  · have h6 := Option.some.inj h3
    simp [← h6]; try rfl
  · cases h3
  · have h6 := Option.some.inj h3
    simp [← h6]; try rfl
theorem fc_12 {N : Nat} {p1 p2 p3 p4 p5 p6 : Int32} {C R : gq_M} {ov : Int64} (h : OUT kE (f_X9_take N p1 p2 p3 C) (f_X10_take N p1 p2 p3 R)) : ∃ C2 R2 ov2, fl_12 N p1 p2 p3 p4 p5 p6 C R ov = some (C2, R2, ov2) ∧ INV C2 R2 := by
  obtain ⟨e, v, v2, C2, R2, h1, h2, h3, h4, h5⟩ := h
  suffices hh : ∃ ov2, fl_12 N p1 p2 p3 p4 p5 p6 C R ov = some (C2, R2, ov2) from hh.elim fun x hx => ⟨C2, R2, x, hx, h5⟩
  unfold fl_12 fh_L_take
  simp only [h1, h2, gq_y, gq_h, gq_b, r_thrown]
  rcases kk_of h3 (fun _ => rfl) with rfl | rfl | rfl | rfl
  · have h6 := Option.some.inj h3
    simp [← h6, ← h4 rfl, cmp_rf]; try rfl
  · have h6 := Option.some.inj h3
    simp [← h6]; try rfl
  · cases h3
  · have h6 := Option.some.inj h3
    simp [← h6]; try rfl
theorem fc_13 {N : Nat} {p1 p2 p3 p4 p5 p6 : Int32} {C R : gq_M} {ov : Int64} (h : OUT kF (f_X9_pass N p1 C) (f_X10_pass N p1 R)) : ∃ C2 R2 ov2, fl_13 N p1 p2 p3 p4 p5 p6 C R ov = some (C2, R2, ov2) ∧ INV C2 R2 := by
  obtain ⟨e, v, v2, C2, R2, h1, h2, h3, h4, h5⟩ := h
  suffices hh : ∃ ov2, fl_13 N p1 p2 p3 p4 p5 p6 C R ov = some (C2, R2, ov2) from hh.elim fun x hx => ⟨C2, R2, x, hx, h5⟩
  unfold fl_13 fh_L_pass
  simp only [h1, h2, gq_y, gq_h, gq_b, r_thrown]
  rcases kk_of h3 (fun _ => rfl) with rfl | rfl | rfl | rfl
  · have h6 := Option.some.inj h3
    simp [← h6, ← h4 rfl, cmp_rf]; try rfl
  · cases h3
  · have h6 := Option.some.inj h3
    simp [← h6]; try rfl
  · have h6 := Option.some.inj h3
    simp [← h6]; try rfl
theorem fc_14 {N : Nat} {p1 p2 p3 p4 p5 p6 : Int32} {C R : gq_M} {ov : Int64} (h : OUT kC (f_X9_lorry N p1 p2 p3 C) (f_X10_lorry N p1 p2 p3 R)) : ∃ C2 R2 ov2, fl_14 N p1 p2 p3 p4 p5 p6 C R ov = some (C2, R2, ov2) ∧ INV C2 R2 := by
  obtain ⟨e, v, v2, C2, R2, h1, h2, h3, h4, h5⟩ := h
  suffices hh : ∃ ov2, fl_14 N p1 p2 p3 p4 p5 p6 C R ov = some (C2, R2, ov2) from hh.elim fun x hx => ⟨C2, R2, x, hx, h5⟩
  unfold fl_14 fh_L_lorry
  simp only [h1, h2, gq_y, gq_h, gq_b, r_thrown]
  rcases kk_of h3 (fun _ => rfl) with rfl | rfl | rfl | rfl
  · have h6 := Option.some.inj h3
    simp [← h6, ← h4 rfl, cmp_rf]; try rfl
  · have h6 := Option.some.inj h3
    simp [← h6]; try rfl
  · have h6 := Option.some.inj h3
    simp [← h6]; try rfl
  · have h6 := Option.some.inj h3
    simp [← h6]; try rfl
theorem fc_15 {N : Nat} {p1 p2 p3 p4 p5 p6 : Int32} {C R : gq_M} {ov : Int64} (h : OUT kB (f_X9_pay N p1 p2 C) (f_X10_pay N p1 p2 R)) : ∃ C2 R2 ov2, fl_15 N p1 p2 p3 p4 p5 p6 C R ov = some (C2, R2, ov2) ∧ INV C2 R2 := by
  obtain ⟨e, v, v2, C2, R2, h1, h2, h3, h4, h5⟩ := h
  suffices hh : ∃ ov2, fl_15 N p1 p2 p3 p4 p5 p6 C R ov = some (C2, R2, ov2) from hh.elim fun x hx => ⟨C2, R2, x, hx, h5⟩
  unfold fl_15 fh_L_pay
  simp only [h1, h2, gq_y, gq_h, gq_b, r_thrown]
  rcases kk_of h3 (fun _ => rfl) with rfl | rfl | rfl | rfl
  · have h6 := Option.some.inj h3
    simp [← h6, ← h4 rfl, cmp_rf]; try rfl
  · have h6 := Option.some.inj h3
    simp [← h6]; try rfl
  · have h6 := Option.some.inj h3
    simp [← h6]; try rfl
  · cases h3
theorem fc_16 {N : Nat} {p1 p2 p3 p4 p5 p6 : Int32} {C R : gq_M} {ov : Int64} (h : OUT kE (f_X9_claim N p1 p2 C) (f_X10_claim N p1 p2 R)) : ∃ C2 R2 ov2, fl_16 N p1 p2 p3 p4 p5 p6 C R ov = some (C2, R2, ov2) ∧ INV C2 R2 := by
  obtain ⟨e, v, v2, C2, R2, h1, h2, h3, h4, h5⟩ := h
  suffices hh : ∃ ov2, fl_16 N p1 p2 p3 p4 p5 p6 C R ov = some (C2, R2, ov2) from hh.elim fun x hx => ⟨C2, R2, x, hx, h5⟩
  unfold fl_16 fh_L_claim
  simp only [h1, h2, gq_y, gq_h, gq_b, r_thrown]
  rcases kk_of h3 (fun _ => rfl) with rfl | rfl | rfl | rfl
  · have h6 := Option.some.inj h3
    simp [← h6, ← h4 rfl, cmp_rf]; try rfl
  · have h6 := Option.some.inj h3
    simp [← h6]; try rfl
  · cases h3
  · have h6 := Option.some.inj h3
    simp [← h6]; try rfl
theorem fc_17 {N : Nat} {p1 p2 p3 p4 p5 p6 : Int32} {C R : gq_M} {ov : Int64} (h : OUT kB (f_X9_settle N p1 p2 p3 C) (f_X10_settle N p1 p2 p3 R)) : ∃ C2 R2 ov2, fl_17 N p1 p2 p3 p4 p5 p6 C R ov = some (C2, R2, ov2) ∧ INV C2 R2 := by
  obtain ⟨e, v, v2, C2, R2, h1, h2, h3, h4, h5⟩ := h
  suffices hh : ∃ ov2, fl_17 N p1 p2 p3 p4 p5 p6 C R ov = some (C2, R2, ov2) from hh.elim fun x hx => ⟨C2, R2, x, hx, h5⟩
  unfold fl_17 fh_L_settle
  simp only [h1, h2, gq_y, gq_h, gq_b, r_thrown]
  rcases kk_of h3 (fun _ => rfl) with rfl | rfl | rfl | rfl
  · have h6 := Option.some.inj h3
    simp [← h6, ← h4 rfl, cmp_rf]; try rfl
  · have h6 := Option.some.inj h3
    simp [← h6]; try rfl
  · have h6 := Option.some.inj h3
    simp [← h6]; try rfl
  · cases h3
theorem fc_21 {N : Nat} {p1 p2 p3 p4 p5 p6 : Int32} {C R : gq_M} {ov : Int64} (h : OUT kB (f_X9_told N p1 p2 C) (f_X10_told N p1 p2 R)) : ∃ C2 R2 ov2, fl_21 N p1 p2 p3 p4 p5 p6 C R ov = some (C2, R2, ov2) ∧ INV C2 R2 := by
  obtain ⟨e, v, v2, C2, R2, h1, h2, h3, h4, h5⟩ := h
  suffices hh : ∃ ov2, fl_21 N p1 p2 p3 p4 p5 p6 C R ov = some (C2, R2, ov2) from hh.elim fun x hx => ⟨C2, R2, x, hx, h5⟩
  unfold fl_21 fh_L_told
  simp only [h1, h2, gq_y, gq_h, gq_b, r_thrown]
  rcases kk_of h3 (fun _ => rfl) with rfl | rfl | rfl | rfl
  · have h6 := Option.some.inj h3
    simp [← h6, ← h4 rfl, cmp_rf]; try rfl
  · have h6 := Option.some.inj h3
    simp [← h6]; try rfl
  · have h6 := Option.some.inj h3
    simp [← h6]; try rfl
  · cases h3
theorem fc_22 {N : Nat} {p1 p2 p3 p4 p5 p6 : Int32} {C R : gq_M} {ov : Int64} (h : OUT kB (f_X9_lot N p1 p2 C) (f_X10_lot N p1 p2 R)) : ∃ C2 R2 ov2, fl_22 N p1 p2 p3 p4 p5 p6 C R ov = some (C2, R2, ov2) ∧ INV C2 R2 := by
  obtain ⟨e, v, v2, C2, R2, h1, h2, h3, h4, h5⟩ := h
  suffices hh : ∃ ov2, fl_22 N p1 p2 p3 p4 p5 p6 C R ov = some (C2, R2, ov2) from hh.elim fun x hx => ⟨C2, R2, x, hx, h5⟩
  unfold fl_22 fh_L_lot
  simp only [h1, h2, gq_y, gq_h, gq_b, r_thrown]
  rcases kk_of h3 (fun _ => rfl) with rfl | rfl | rfl | rfl
  · have h6 := Option.some.inj h3
    simp [← h6, ← h4 rfl, cmp_rf]; try rfl
  · have h6 := Option.some.inj h3
    simp [← h6]; try rfl
  · have h6 := Option.some.inj h3
    simp [← h6]; try rfl
  · cases h3
theorem fc_23 {N : Nat} {p1 p2 p3 p4 p5 p6 : Int32} {C R : gq_M} {ov : Int64} (h : OUT kB (f_X9_hall N p1 p2 C) (f_X10_hall N p1 p2 R)) : ∃ C2 R2 ov2, fl_23 N p1 p2 p3 p4 p5 p6 C R ov = some (C2, R2, ov2) ∧ INV C2 R2 := by
  obtain ⟨e, v, v2, C2, R2, h1, h2, h3, h4, h5⟩ := h
  suffices hh : ∃ ov2, fl_23 N p1 p2 p3 p4 p5 p6 C R ov = some (C2, R2, ov2) from hh.elim fun x hx => ⟨C2, R2, x, hx, h5⟩
  unfold fl_23 fh_L_hall
  simp only [h1, h2, gq_y, gq_h, gq_b, r_thrown]
  rcases kk_of h3 (fun _ => rfl) with rfl | rfl | rfl | rfl
  · have h6 := Option.some.inj h3
    simp [← h6, ← h4 rfl, cmp_rf]; try rfl
  · have h6 := Option.some.inj h3
    simp [← h6]; try rfl
  · have h6 := Option.some.inj h3
    simp [← h6]; try rfl
  · cases h3
theorem fc_24 {N : Nat} {p1 p2 p3 p4 p5 p6 : Int32} {C R : gq_M} {ov : Int64} (h : OUT kB (f_X9_account N p1 p2 C) (f_X10_account N p1 p2 R)) : ∃ C2 R2 ov2, fl_24 N p1 p2 p3 p4 p5 p6 C R ov = some (C2, R2, ov2) ∧ INV C2 R2 := by
  obtain ⟨e, v, v2, C2, R2, h1, h2, h3, h4, h5⟩ := h
  suffices hh : ∃ ov2, fl_24 N p1 p2 p3 p4 p5 p6 C R ov = some (C2, R2, ov2) from hh.elim fun x hx => ⟨C2, R2, x, hx, h5⟩
  unfold fl_24 fh_L_account
  simp only [h1, h2, gq_y, gq_h, gq_b, r_thrown]
  rcases kk_of h3 (fun _ => rfl) with rfl | rfl | rfl | rfl
  · have h6 := Option.some.inj h3
    simp [← h6, ← h4 rfl, cmp_rf]; try rfl
  · have h6 := Option.some.inj h3
    simp [← h6]; try rfl
  · have h6 := Option.some.inj h3
    simp [← h6]; try rfl
  · cases h3
theorem fc_25 {N : Nat} {p1 p2 p3 p4 p5 p6 : Int32} {C R : gq_M} {ov : Int64} (h : OUT kB (f_X9_ship N p1 p2 C) (f_X10_ship N p1 p2 R)) : ∃ C2 R2 ov2, fl_25 N p1 p2 p3 p4 p5 p6 C R ov = some (C2, R2, ov2) ∧ INV C2 R2 := by
  obtain ⟨e, v, v2, C2, R2, h1, h2, h3, h4, h5⟩ := h
  suffices hh : ∃ ov2, fl_25 N p1 p2 p3 p4 p5 p6 C R ov = some (C2, R2, ov2) from hh.elim fun x hx => ⟨C2, R2, x, hx, h5⟩
  unfold fl_25 fh_L_ship
  simp only [h1, h2, gq_y, gq_h, gq_b, r_thrown]
  rcases kk_of h3 (fun _ => rfl) with rfl | rfl | rfl | rfl
  · have h6 := Option.some.inj h3
    simp [← h6, ← h4 rfl, cmp_rf]; try rfl
  · have h6 := Option.some.inj h3
    simp [← h6]; try rfl
  · have h6 := Option.some.inj h3
    simp [← h6]; try rfl
  · cases h3
theorem fc_26 {N : Nat} {p1 p2 p3 p4 p5 p6 : Int32} {C R : gq_M} {ov : Int64} (h : OUT kG (f_X9_kilos N p1 C) (f_X10_kilos N p1 R)) : ∃ C2 R2 ov2, fl_26 N p1 p2 p3 p4 p5 p6 C R ov = some (C2, R2, ov2) ∧ INV C2 R2 := by
  obtain ⟨e, v, v2, C2, R2, h1, h2, h3, h4, h5⟩ := h
  suffices hh : ∃ ov2, fl_26 N p1 p2 p3 p4 p5 p6 C R ov = some (C2, R2, ov2) from hh.elim fun x hx => ⟨C2, R2, x, hx, h5⟩
  unfold fl_26 fh_L_kilos
  simp only [h1, h2, gq_y, gq_h, gq_b, r_thrown]
  rcases kk_of h3 (fun _ => rfl) with rfl | rfl | rfl | rfl
  · have h6 := Option.some.inj h3
    simp [← h6, ← h4 rfl, cmp_rf]; try rfl
  · cases h3
  · have h6 := Option.some.inj h3
    simp [← h6]; try rfl
  · cases h3
theorem fc_27 {N : Nat} {p1 p2 p3 p4 p5 p6 : Int32} {C R : gq_M} {ov : Int64} (h : OUT kG (f_X9_kilosAnew N p1 C) (f_X10_kilosAnew N p1 R)) : ∃ C2 R2 ov2, fl_27 N p1 p2 p3 p4 p5 p6 C R ov = some (C2, R2, ov2) ∧ INV C2 R2 := by
  obtain ⟨e, v, v2, C2, R2, h1, h2, h3, h4, h5⟩ := h
  suffices hh : ∃ ov2, fl_27 N p1 p2 p3 p4 p5 p6 C R ov = some (C2, R2, ov2) from hh.elim fun x hx => ⟨C2, R2, x, hx, h5⟩
  unfold fl_27 fh_L_kilosAnew
  simp only [h1, h2, gq_y, gq_h, gq_b, r_thrown]
  rcases kk_of h3 (fun _ => rfl) with rfl | rfl | rfl | rfl
  · have h6 := Option.some.inj h3
    simp [← h6, ← h4 rfl, cmp_rf]; try rfl
  · cases h3
  · have h6 := Option.some.inj h3
    simp [← h6]; try rfl
  · cases h3
theorem fc_28 {N : Nat} {p1 p2 p3 p4 p5 p6 : Int32} {C R : gq_M} {ov : Int64} (h : OUT kB (f_X9_average N p1 p2 C) (f_X10_average N p1 p2 R)) : ∃ C2 R2 ov2, fl_28 N p1 p2 p3 p4 p5 p6 C R ov = some (C2, R2, ov2) ∧ INV C2 R2 := by
  obtain ⟨e, v, v2, C2, R2, h1, h2, h3, h4, h5⟩ := h
  suffices hh : ∃ ov2, fl_28 N p1 p2 p3 p4 p5 p6 C R ov = some (C2, R2, ov2) from hh.elim fun x hx => ⟨C2, R2, x, hx, h5⟩
  unfold fl_28 fh_L_average
  simp only [h1, h2, gq_y, gq_h, gq_b, r_thrown]
  rcases kk_of h3 (fun _ => rfl) with rfl | rfl | rfl | rfl
  · have h6 := Option.some.inj h3
    simp [← h6, ← h4 rfl, cmp_rf]; try rfl
  · have h6 := Option.some.inj h3
    simp [← h6]; try rfl
  · have h6 := Option.some.inj h3
    simp [← h6]; try rfl
  · cases h3
theorem fc_29 {N : Nat} {p1 p2 p3 p4 p5 p6 : Int32} {C R : gq_M} {ov : Int64} (h : OUT kA (f_X9_loaded N p1 C) (f_X10_loaded N p1 R)) : ∃ C2 R2 ov2, fl_29 N p1 p2 p3 p4 p5 p6 C R ov = some (C2, R2, ov2) ∧ INV C2 R2 := by
  obtain ⟨e, v, v2, C2, R2, h1, h2, h3, h4, h5⟩ := h
  suffices hh : ∃ ov2, fl_29 N p1 p2 p3 p4 p5 p6 C R ov = some (C2, R2, ov2) from hh.elim fun x hx => ⟨C2, R2, x, hx, h5⟩
  unfold fl_29 fh_L_loaded
  simp only [h1, h2, gq_y, gq_h, gq_b, r_thrown]
  rcases kk_of h3 (fun _ => rfl) with rfl | rfl | rfl | rfl
  · have h6 := Option.some.inj h3
    simp [← h6, ← h4 rfl, cmp_rf]; try rfl
  · have h6 := Option.some.inj h3
    simp [← h6]; try rfl
  · cases h3
  · cases h3
theorem fc_5 {N : Nat} {p1 p2 p3 p4 p5 p6 : Int32} {C R : gq_M} {ov : Int64} (h : ∃ v C2 R2, f_X9_draw N p1 C = some (v, C2) ∧ f_X10_draw N p1 R = some (v, R2) ∧ INV C2 R2) : ∃ C2 R2 ov2, fl_5 N p1 p2 p3 p4 p5 p6 C R ov = some (C2, R2, ov2) ∧ INV C2 R2 := by
  obtain ⟨v, C2, R2, h1, h2, h5⟩ := h
  refine ⟨C2, R2, ov, ?_, h5⟩
  unfold fl_5
  simp only [h1, h2, gq_b, if_true]
theorem fc_18 {N : Nat} {p1 p2 p3 p4 p5 p6 : Int32} {C R : gq_M} {ov : Int64} (h : ∃ v C2 R2, f_X9_now N  C = some (v, C2) ∧ f_X10_now N  R = some (v, R2) ∧ INV C2 R2) : ∃ C2 R2 ov2, fl_18 N p1 p2 p3 p4 p5 p6 C R ov = some (C2, R2, ov2) ∧ INV C2 R2 := by
  obtain ⟨v, C2, R2, h1, h2, h5⟩ := h
  refine ⟨C2, R2, ov, ?_, h5⟩
  unfold fl_18
  simp only [h1, h2, gq_b, if_true]
theorem fc_19 {N : Nat} {p1 p2 p3 p4 p5 p6 : Int32} {C R : gq_M} {ov : Int64} (h : ∃ v C2 R2, f_X9_day N  C = some (v, C2) ∧ f_X10_day N  R = some (v, R2) ∧ INV C2 R2) : ∃ C2 R2 ov2, fl_19 N p1 p2 p3 p4 p5 p6 C R ov = some (C2, R2, ov2) ∧ INV C2 R2 := by
  obtain ⟨v, C2, R2, h1, h2, h5⟩ := h
  refine ⟨C2, R2, ov, ?_, h5⟩
  unfold fl_19
  simp only [h1, h2, gq_b, if_true]
theorem fc_20 {N : Nat} {p1 p2 p3 p4 p5 p6 : Int32} {C R : gq_M} {ov : Int64} (h : ∃ v C2 R2, f_X9_isOpen N  C = some (v, C2) ∧ f_X10_isOpen N  R = some (v, R2) ∧ INV C2 R2) : ∃ C2 R2 ov2, fl_20 N p1 p2 p3 p4 p5 p6 C R ov = some (C2, R2, ov2) ∧ INV C2 R2 := by
  obtain ⟨v, C2, R2, h1, h2, h5⟩ := h
  refine ⟨C2, R2, ov, ?_, h5⟩
  unfold fl_20
  simp only [h1, h2, gq_b, if_true]
