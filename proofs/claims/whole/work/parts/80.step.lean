/-! every call keeps the invariant; a new pair has it -/
set_option maxHeartbeats 2000000 in
theorem hstep (p0 p1 p2 p3 p4 p5 p6 : Int32) (C R : gq_M) (ov : Int64) (H : INV C R) : ∃ C2 R2 ov2, fl 600 p0 p1 p2 p3 p4 p5 p6 C R ov = some (C2, R2, ov2) ∧ INV C2 R2 := by
  have hN : 600 ≤ 600 := Nat.le_refl _
  unfold fl
  by_cases c0 : (p0 &&& 31) = 0
  · rw [if_pos c0]
    exact fc_0 (c_quota H)
  rw [if_neg c0]
  by_cases c1 : (p0 &&& 31) = 1
  · rw [if_pos c1]
    exact fc_1 (fun q hq => c_aid H hq)
  rw [if_neg c1]
  by_cases c2 : (p0 &&& 31) = 2
  · rw [if_pos c2]
    exact fc_2 (c_kind H)
  rw [if_neg c2]
  by_cases c3 : (p0 &&& 31) = 3
  · rw [if_pos c3]
    exact fc_3 (c_step H)
  rw [if_neg c3]
  by_cases c4 : (p0 &&& 31) = 4
  · rw [if_pos c4]
    exact fc_4 (c_buyer H)
  rw [if_neg c4]
  by_cases c5 : (p0 &&& 31) = 5
  · rw [if_pos c5]
    exact fc_5 (c_draw H)
  rw [if_neg c5]
  by_cases c6 : (p0 &&& 31) = 6
  · rw [if_pos c6]
    exact fc_6 (fun q hq => c_power H hq) (fun q _ e v C2 h => cb_power h)
  rw [if_neg c6]
  by_cases c7 : (p0 &&& 31) = 7
  · rw [if_pos c7]
    exact fc_7 (fun q hq => c_line H hq) (fun q _ e v C2 h => cb_line h)
  rw [if_neg c7]
  by_cases c8 : (p0 &&& 31) = 8
  · rw [if_pos c8]
    exact fc_8 (c_land hN H)
  rw [if_neg c8]
  by_cases c9 : (p0 &&& 31) = 9
  · rw [if_pos c9]
    exact fc_9 (c_open hN H)
  rw [if_neg c9]
  by_cases c10 : (p0 &&& 31) = 10
  · rw [if_pos c10]
    exact fc_10 (c_end hN H)
  rw [if_neg c10]
  by_cases c11 : (p0 &&& 31) = 11
  · rw [if_pos c11]
    exact fc_11 (c_press hN H)
  rw [if_neg c11]
  by_cases c12 : (p0 &&& 31) = 12
  · rw [if_pos c12]
    exact fc_12 (c_take hN H)
  rw [if_neg c12]
  by_cases c13 : (p0 &&& 31) = 13
  · rw [if_pos c13]
    exact fc_13 (c_pass hN H)
  rw [if_neg c13]
  by_cases c14 : (p0 &&& 31) = 14
  · rw [if_pos c14]
    exact fc_14 (c_lorry hN H)
  rw [if_neg c14]
  by_cases c15 : (p0 &&& 31) = 15
  · rw [if_pos c15]
    exact fc_15 (c_pay hN H)
  rw [if_neg c15]
  by_cases c16 : (p0 &&& 31) = 16
  · rw [if_pos c16]
    exact fc_16 (c_claim hN H)
  rw [if_neg c16]
  by_cases c17 : (p0 &&& 31) = 17
  · rw [if_pos c17]
    exact fc_17 (c_settle hN H)
  rw [if_neg c17]
  by_cases c18 : (p0 &&& 31) = 18
  · rw [if_pos c18]
    exact fc_18 (c_now H)
  rw [if_neg c18]
  by_cases c19 : (p0 &&& 31) = 19
  · rw [if_pos c19]
    exact fc_19 (c_day H)
  rw [if_neg c19]
  by_cases c20 : (p0 &&& 31) = 20
  · rw [if_pos c20]
    exact fc_20 (c_isOpen H)
  rw [if_neg c20]
  by_cases c21 : (p0 &&& 31) = 21
  · rw [if_pos c21]
    exact fc_21 (c_told hN H)
  rw [if_neg c21]
  by_cases c22 : (p0 &&& 31) = 22
  · rw [if_pos c22]
    exact fc_22 (c_lot hN H)
  rw [if_neg c22]
  by_cases c23 : (p0 &&& 31) = 23
  · rw [if_pos c23]
    exact fc_23 (c_hall hN H)
  rw [if_neg c23]
  by_cases c24 : (p0 &&& 31) = 24
  · rw [if_pos c24]
    exact fc_24 (c_account hN H)
  rw [if_neg c24]
  by_cases c25 : (p0 &&& 31) = 25
  · rw [if_pos c25]
    exact fc_25 (c_ship hN H)
  rw [if_neg c25]
  by_cases c26 : (p0 &&& 31) = 26
  · rw [if_pos c26]
    exact fc_26 (c_kilos hN H)
  rw [if_neg c26]
  by_cases c27 : (p0 &&& 31) = 27
  · rw [if_pos c27]
    exact fc_27 (c_kilosAnew hN H)
  rw [if_neg c27]
  by_cases c28 : (p0 &&& 31) = 28
  · rw [if_pos c28]
    exact fc_28 (c_average hN H)
  rw [if_neg c28]
  by_cases c29 : (p0 &&& 31) = 29
  · rw [if_pos c29]
    exact fc_29 (c_loaded hN H)
  rw [if_neg c29]
  exact ⟨C, R, ov, rfl, H⟩
theorem hnew : INV MC0 MR0 := by
  refine ⟨0, 0, 0, 0, ⟨by decide +kernel, by decide +kernel, by omega⟩, ⟨by decide +kernel, by decide +kernel, Nat.le_refl _⟩, ⟨by decide +kernel, by decide +kernel, by omega⟩, ⟨by decide +kernel, by decide +kernel, by omega⟩, (by decide +kernel), ⟨by decide +kernel, Or.inl (by decide +kernel)⟩, (by decide +kernel), (show ∀ j, j < 32 → MC0 3 j = MR0 1 j by decide +kernel), (show ∀ j, j < 8 → MC0 9 j = MR0 3 j by decide +kernel), ⟨(show ∀ j, j < 8 → MC0 11 j = MR0 4 j by decide +kernel), (show ∀ j, j < 8 → MR0 4 j = 0 ∨ MR0 4 j = 1 by decide +kernel)⟩, (show ∀ j, j < 8 → MC0 13 j = MR0 5 j by decide +kernel), (show ∀ j, j < 32 → MC0 5 j = MR0 2 j by decide +kernel), (show ∀ j, j < 8 → MC0 7 j = lsum (rg (4 * j) 4) (MR0 2) by decide +kernel), (by decide +kernel), ⟨(show ∀ j, j < 4 → MC0 18 j = MR0 6 j by decide +kernel), (fun j hj => ⟨1000, by omega, by omega, (show ∀ j, j < 4 → MR0 6 j = 1000 by decide +kernel) j hj⟩)⟩, ⟨(show ∀ j, j < 4 → MC0 20 j = MR0 7 j by decide +kernel), (fun j hj => ⟨100, by omega, by omega, (show ∀ j, j < 4 → MR0 7 j = 100 by decide +kernel) j hj⟩)⟩, ⟨(show ∀ j, j < 4 → MC0 22 j = MR0 8 j by decide +kernel), fun j hj => ⟨j % 3, by omega, by omega, (show ∀ j, j < 4 → MR0 8 j = nI (j % 3) by decide +kernel) j hj⟩⟩, (show ∀ j, j < 8 → MC0 25 j = MR0 9 j by decide +kernel), ⟨(show ∀ j, j < 8 → MC0 27 j = MR0 10 j by decide +kernel), (fun j hj => ⟨1, by omega, by omega, (show ∀ j, j < 8 → MR0 10 j = 1 by decide +kernel) j hj⟩)⟩, (show ∀ j, j < 8 → MC0 29 j = MR0 11 j by decide +kernel), ⟨(show ∀ j, j < 8 → MC0 33 j = MR0 12 j by decide +kernel), (show ∀ j, j < 8 → MR0 12 j = 0 ∨ MR0 12 j = 1 by decide +kernel)⟩, (show ∀ j, j < 8 → MC0 31 j = nI (cnt (rg 0 0) fun b => decide (MR0 21 b = nI j)) by decide +kernel), ⟨(show ∀ j, j < 3 → MC0 90 j = MR0 33 j by decide +kernel), (fun j hj => ⟨10, by omega, by omega, (show ∀ j, j < 3 → MR0 33 j = 10 by decide +kernel) j hj⟩)⟩, ⟨(show ∀ j, j < 3 → MC0 92 j = MR0 34 j by decide +kernel), (show ∀ j, j < 3 → MR0 34 j = 0 ∨ MR0 34 j = 1 by decide +kernel)⟩, ⟨(fun j hj => absurd hj (Nat.not_lt_zero _)), (fun j hj => absurd hj (Nat.not_lt_zero _))⟩, ⟨(fun j hj => absurd hj (Nat.not_lt_zero _)), (fun j hj => absurd hj (Nat.not_lt_zero _))⟩, ⟨(fun j hj => absurd hj (Nat.not_lt_zero _)), (fun j hj => absurd hj (Nat.not_lt_zero _))⟩, ⟨(fun j hj => absurd hj (Nat.not_lt_zero _)), (fun j hj => absurd hj (Nat.not_lt_zero _))⟩, (fun j hj => absurd hj (Nat.not_lt_zero _)), ⟨(fun j hj => absurd hj (Nat.not_lt_zero _)), fun b _ hb => (show ∀ b, b < 150 → MC0 46 b = -1 by decide +kernel) b hb⟩, ⟨(fun j hj => absurd hj (Nat.not_lt_zero _)), (show ∀ j, j < 150 → MR0 20 j = 0 ∨ MR0 20 j = 1 by decide +kernel), fun b _ hb => (show ∀ b, b < 150 → MC0 56 b = 0 ∧ MR0 20 b = 0 by decide +kernel) b hb⟩, ⟨(fun j hj => absurd hj (Nat.not_lt_zero _)), (show ∀ j, j < 150 → MR0 25 j = 0 ∨ MR0 25 j = 1 by decide +kernel), fun b _ hb => (show ∀ b, b < 150 → MC0 58 b = 0 ∧ MR0 25 b = 0 by decide +kernel) b hb⟩, ⟨(fun j hj => absurd hj (Nat.not_lt_zero _)), fun b _ hb => (show ∀ b, b < 150 → MC0 48 b = -1 ∧ MC0 50 b = -1 ∧ MC0 54 b = -1 by decide +kernel) b hb⟩, (show ∀ w, w < 6 → MC0 60 w = lsum (rg 0 0) fun b => if inS (MR0 19 b) w = true then MR0 17 b else 0 by decide +kernel), (show ∀ j, j < 8 → (MR0 5 j).toInt ≤ 1000000 * (cnt (rg 0 0) fun b => isSd (MR0 19 b) : Nat) ∧ -(1000000 * (cnt (rg 0 0) fun b => decide (MR0 25 b = 1) : Nat) : Int) ≤ (MR0 5 j).toInt by decide +kernel), (fun j hj => absurd hj (Nat.not_lt_zero _)), ⟨(fun j hj => absurd hj (Nat.not_lt_zero _)), (fun j hj => absurd hj (Nat.not_lt_zero _)), (fun j hj => absurd hj (Nat.not_lt_zero _)), (fun j hj => absurd hj (Nat.not_lt_zero _)), fun b _ hb => (show ∀ b, b < 20 → MC0 108 b = -1 by decide +kernel) b hb⟩, (fun j hj => absurd hj (Nat.not_lt_zero _)), (fun j hj => absurd hj (Nat.not_lt_zero _)), ⟨(fun j hj => absurd hj (Nat.not_lt_zero _)), (fun j hj => absurd hj (Nat.not_lt_zero _))⟩, (show ∀ j, j < 150 → MR0 32 j = 0 ∨ MR0 32 j = 1 by decide +kernel), (fun j hj => absurd hj (Nat.not_lt_zero _)), (fun j hj => absurd hj (Nat.not_lt_zero _)), (fun _ => ⟨rfl, by decide +kernel⟩), (fun h hh => ?_)⟩
  have e : ∀ h, h < 3 → MC0 78 h = 0 ∧ MC0 80 h = -1 ∧ MC0 82 h = 0 ∧ MC0 84 h = -1 ∧ MC0 86 h = 0 ∧ MR0 35 h = 0 ∧ MR0 36 h = -1 ∧ MR0 37 h = 0 ∧ MR0 39 h = -1 := by decide +kernel
  obtain ⟨x1, x2, x3, x4, x5, y1, y2, y3, y4⟩ := e h hh
  exact ⟨x1.trans y1.symm, x2.trans y2.symm, x3.trans y3.symm, x4.trans y4.symm, x5, fun l hl => absurd hl (Nat.not_lt_zero _), Or.inl ⟨y1, y2, y3, y4, fun l hl => absurd hl (Nat.not_lt_zero _)⟩⟩
