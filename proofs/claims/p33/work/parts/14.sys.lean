/-! the words of the decompiled functions, and their use -/
def gq_l {α β : Type} (x : α) (f : α → β) : β := f x
theorem gq_l_i {α β : Type} {x y : α} {f : α → β} {r : β} (hy : y = x) (h : gq_l x f = r) : f y = r := by subst hy; exact h
def gq_b {β : Type} (o : Option (Int32 × gq_M)) (f : Int32 → gq_M → Option β) : Option β := match o with
  | some (v, M) => f v M
  | none => none
theorem gq_b_i {β : Type} {o : Option (Int32 × gq_M)} {f : Int32 → gq_M → Option β} {r : β} (h : gq_b o f = some r) : ∃ (v : Int32) (M : gq_M), o = some (v, M) ∧ f v M = some r := by
  cases o with
  | none => cases h
  | some q => exact ⟨q.1, q.2, rfl, h⟩
theorem gq_b_s {β : Type} {v : Int32} {M : gq_M} {f : Int32 → gq_M → Option β} : gq_b (some (v, M)) f = f v M := rfl
/-- a call that may throw: the number says which exception, 0 for none -/
def gq_x (o : Option (Nat × Int32 × gq_M)) (f : Int32 → gq_M → Option (Nat × Int32 × gq_M)) : Option (Nat × Int32 × gq_M) := match o with
  | some (0, v, M) => f v M
  | some (k + 1, _, M) => some (k + 1, 0, M)
  | none => none
theorem gq_t {c : Prop} [Decidable c] {β : Type} {a b r : β} (hc : c) (h : (if c then a else b) = r) : a = r := by rw [if_pos hc] at h; exact h
theorem gq_f {c : Prop} [Decidable c] {β : Type} {a b r : β} (hc : ¬ c) (h : (if c then a else b) = r) : b = r := by rw [if_neg hc] at h; exact h
theorem gq_or {c : Prop} [Decidable c] {β : Type} {a b r : β} (h : (if c then a else b) = r) : (c ∧ a = r) ∨ (¬ c ∧ b = r) := by
  by_cases hc : c
  · exact Or.inl ⟨hc, gq_t hc h⟩
  · exact Or.inr ⟨hc, gq_f hc h⟩
/-- a guard: what must hold for the machine to go on -/
def gq_g {β : Type} (b : Bool) (a : Option β) : Option β := if b = true then a else none
theorem gq_g_i {β : Type} {b : Bool} {a : Option β} {r : β} (h : gq_g b a = some r) : b = true ∧ a = some r := by
  cases b with
  | false => cases h
  | true => exact ⟨rfl, h⟩
def gq_in (i : Int32) (n : Nat) : Bool := decide (¬ (i < 0 ∨ n ≤ i.toNatClampNeg))
theorem gq_in_i {i : Int32} {n : Nat} (h : gq_in i n = true) : vp_in i n := (of_decide_eq_true h : ¬ (i < 0 ∨ n ≤ i.toNatClampNeg))
def gq_nz (i : Int32) : Bool := decide (¬ i = 0)
theorem gq_nz_i {i : Int32} (h : gq_nz i = true) : ¬ i = 0 := of_decide_eq_true h
def gq_bb (i : Int32) : Bool := decide (i = 0 ∨ i = 1)
theorem gq_bb_i {i : Int32} (h : gq_bb i = true) : gq_bit i := (of_decide_eq_true h : i = 0 ∨ i = 1)
section EV
variable {p : Program} {l : Launch} {e : Env} {R : Room} {s : State} {m : MethodId} {args : Array Value} {below : List Frame} {meth : Method} {c : Code} {Q : State → Prop}
variable {D : va_G} {A : Nat → Prop} {cI cZ : ClassId} {ad : Nat → Nat} {mt : List gq_T} {own : String} {cc : ByteArray} {nL : Nat}
variable {pc : Nat} {L : List (Nat × Value)} {st : List Value} {M : gq_M} {kc ks : Nat}
theorem g_topi {x : Int32} (kk : ∀ y : Int32, y = x → gq_W p l e R s m args below meth c D A cI cZ ad mt nL Q pc L (.int y :: st) M kc ks) : gq_W p l e R s m args below meth c D A cI cZ ad mt nL Q pc L (.int x :: st) M kc ks := kk x rfl
theorem g_topl {x : Int64} (kk : ∀ y : Int64, y = x → gq_W p l e R s m args below meth c D A cI cZ ad mt nL Q pc L (.long y :: st) M kc ks) : gq_W p l e R s m args below meth c D A cI cZ ad mt nL Q pc L (.long x :: st) M kc ks := kk x rfl
theorem g_topM (kk : ∀ M2 : gq_M, M2 = M → gq_W p l e R s m args below meth c D A cI cZ ad mt nL Q pc L st M2 kc ks) : gq_W p l e R s m args below meth c D A cI cZ ad mt nL Q pc L st M kc ks := kk M rfl
theorem g_irets (hC : gq_C p s m args meth c D A cI cZ ad mt own cc nL) {x v : Int32} {M2 : gq_M} (hr : meth.sig.returnType = some .int) (h : some (x, M) = some (v, M2)) (d : decode cc pc = .ok (.ireturn, 1)) : gq_W p l e R s m args below meth c D A cI cZ ad mt nL (MQ below (gq_Qi D cI cZ ad mt v M2 A) args s kc ks A) pc L [.int x] M kc ks := by
  cases h; exact g_iret hC hr d
theorem g_zrets (hC : gq_C p s m args meth c D A cI cZ ad mt own cc nL) {x v : Int32} {M2 : gq_M} (hr : meth.sig.returnType = some .boolean) (hv : gq_bit x) (h : some (x, M) = some (v, M2)) (d : decode cc pc = .ok (.ireturn, 1)) : gq_W p l e R s m args below meth c D A cI cZ ad mt nL (MQ below (gq_Qi D cI cZ ad mt v M2 A) args s kc ks A) pc L [.int x] M kc ks := by
  cases h; exact g_zret hC hv hr d
theorem g_vrets (hC : gq_C p s m args meth c D A cI cZ ad mt own cc nL) {v : Int32} {M2 : gq_M} (hr : meth.sig.returnType = none) (h : some ((0 : Int32), M) = some (v, M2)) (d : decode cc pc = .ok (.return_, 1)) : gq_W p l e R s m args below meth c D A cI cZ ad mt nL (MQ below (gq_Qv D cI cZ ad mt M2 A) args s kc ks A) pc L [] M kc ks := by
  cases h; exact g_vret hC hr d
end EV
/-! the two systems' cells, the methods' words, the fields -/
def mtC : List gq_T := [.inl (9, [some 1, some 16, some 23, some 34, some 61, some 76, some 93, some 100, none, none, none, none]), .inl (0, [some 2, some 4, some 6, some 8, some 10, some 12, some 14]), .inl (8, [some 3]), .inr (false, 32), .inl (8, [some 5]), .inr (false, 32), .inl (8, [some 7]), .inr (false, 8), .inl (8, [some 9]), .inr (false, 8), .inl (8, [some 11]), .inr (false, 8), .inl (8, [some 13]), .inr (false, 8), .inl (8, [some 15]), .inr (false, 8), .inl (4, [some 17, some 19, some 21]), .inl (8, [some 18]), .inr (false, 4), .inl (8, [some 20]), .inr (false, 4), .inl (8, [some 22]), .inr (false, 4), .inl (2, [some 24, some 26, some 28, some 30, some 32]), .inl (8, [some 25]), .inr (false, 8), .inl (8, [some 27]), .inr (false, 8), .inl (8, [some 29]), .inr (false, 8), .inl (8, [some 31]), .inr (false, 8), .inl (8, [some 33]), .inr (false, 8), .inl (1, [some 35, some 37, some 39, some 41, some 43, some 45, some 47, some 49, some 51, some 53, some 55, some 57, some 59, none]), .inl (8, [some 36]), .inr (false, 150), .inl (8, [some 38]), .inr (false, 150), .inl (8, [some 40]), .inr (false, 150), .inl (8, [some 42]), .inr (false, 150), .inl (8, [some 44]), .inr (false, 150), .inl (8, [some 46]), .inr (false, 150), .inl (8, [some 48]), .inr (false, 150), .inl (8, [some 50]), .inr (false, 150), .inl (8, [some 52]), .inr (false, 150), .inl (8, [some 54]), .inr (false, 150), .inl (8, [some 56]), .inr (false, 150), .inl (8, [some 58]), .inr (false, 150), .inl (8, [some 60]), .inr (false, 6), .inl (6, [some 62, some 64, some 66, some 68, some 70, some 72, some 74, none, none]), .inl (8, [some 63]), .inr (false, 150), .inl (8, [some 65]), .inr (false, 150), .inl (8, [some 67]), .inr (false, 150), .inl (8, [some 69]), .inr (false, 150), .inl (8, [some 71]), .inr (false, 150), .inl (8, [some 73]), .inr (false, 150), .inl (8, [some 75]), .inr (false, 108), .inl (3, [some 77, some 79, some 81, some 83, some 85, some 87, some 89, some 91]), .inl (8, [some 78]), .inr (false, 3), .inl (8, [some 80]), .inr (false, 3), .inl (8, [some 82]), .inr (false, 3), .inl (8, [some 84]), .inr (false, 3), .inl (8, [some 86]), .inr (false, 3), .inl (8, [some 88]), .inr (false, 3), .inl (8, [some 90]), .inr (false, 3), .inl (8, [some 92]), .inr (false, 3), .inl (7, [some 94, some 96, some 98]), .inl (8, [some 95]), .inr (false, 24), .inl (8, [some 97]), .inr (false, 24), .inl (8, [some 99]), .inr (false, 24), .inl (5, [some 101, some 103, some 105, some 107, none]), .inl (8, [some 102]), .inr (false, 20), .inl (8, [some 104]), .inr (false, 20), .inl (8, [some 106]), .inr (false, 20), .inl (8, [some 108]), .inr (false, 20)]
def mtA : List gq_T := [.inr (false, 40), .inr (false, 40), .inr (false, 40), .inr (false, 40), .inr (false, 40), .inr (false, 40), .inr (false, 24), .inr (false, 24), .inr (false, 24), .inr (false, 24), .inr (false, 56), .inr (false, 64), .inr (false, 24), .inr (false, 40)] 
def mtL : List gq_T := mtC ++ mtA
theorem obC_0 : gq_ob mtC 0 RX9 := ⟨_, _, _, rfl, rfl, rfl⟩
theorem lkC_0_0 : gq_lk mtC 0 9 0 (some 1) := ⟨_, rfl, rfl⟩
theorem lkC_0_1 : gq_lk mtC 0 9 1 (some 16) := ⟨_, rfl, rfl⟩
theorem lkC_0_2 : gq_lk mtC 0 9 2 (some 23) := ⟨_, rfl, rfl⟩
theorem lkC_0_3 : gq_lk mtC 0 9 3 (some 34) := ⟨_, rfl, rfl⟩
theorem lkC_0_4 : gq_lk mtC 0 9 4 (some 61) := ⟨_, rfl, rfl⟩
theorem lkC_0_5 : gq_lk mtC 0 9 5 (some 76) := ⟨_, rfl, rfl⟩
theorem lkC_0_6 : gq_lk mtC 0 9 6 (some 93) := ⟨_, rfl, rfl⟩
theorem lkC_0_7 : gq_lk mtC 0 9 7 (some 100) := ⟨_, rfl, rfl⟩
theorem lkC_0_8 : gq_lk mtC 0 9 8 none := ⟨_, rfl, rfl⟩
theorem lkC_0_9 : gq_lk mtC 0 9 9 none := ⟨_, rfl, rfl⟩
theorem lkC_0_10 : gq_lk mtC 0 9 10 none := ⟨_, rfl, rfl⟩
theorem lkC_0_11 : gq_lk mtC 0 9 11 none := ⟨_, rfl, rfl⟩
theorem obC_1 : gq_ob mtC 1 RX0 := ⟨_, _, _, rfl, rfl, rfl⟩
theorem lkC_1_0 : gq_lk mtC 1 0 0 (some 2) := ⟨_, rfl, rfl⟩
theorem lkC_1_1 : gq_lk mtC 1 0 1 (some 4) := ⟨_, rfl, rfl⟩
theorem lkC_1_2 : gq_lk mtC 1 0 2 (some 6) := ⟨_, rfl, rfl⟩
theorem lkC_1_3 : gq_lk mtC 1 0 3 (some 8) := ⟨_, rfl, rfl⟩
theorem lkC_1_4 : gq_lk mtC 1 0 4 (some 10) := ⟨_, rfl, rfl⟩
theorem lkC_1_5 : gq_lk mtC 1 0 5 (some 12) := ⟨_, rfl, rfl⟩
theorem lkC_1_6 : gq_lk mtC 1 0 6 (some 14) := ⟨_, rfl, rfl⟩
theorem obC_2 : gq_ob mtC 2 RX8 := ⟨_, _, _, rfl, rfl, rfl⟩
theorem lkC_2_0 : gq_lk mtC 2 8 0 (some 3) := ⟨_, rfl, rfl⟩
theorem arC_3 : mtC[3]? = some (.inr (false, 32)) := rfl
theorem obC_4 : gq_ob mtC 4 RX8 := ⟨_, _, _, rfl, rfl, rfl⟩
theorem lkC_4_0 : gq_lk mtC 4 8 0 (some 5) := ⟨_, rfl, rfl⟩
theorem arC_5 : mtC[5]? = some (.inr (false, 32)) := rfl
theorem obC_6 : gq_ob mtC 6 RX8 := ⟨_, _, _, rfl, rfl, rfl⟩
theorem lkC_6_0 : gq_lk mtC 6 8 0 (some 7) := ⟨_, rfl, rfl⟩
theorem arC_7 : mtC[7]? = some (.inr (false, 8)) := rfl
theorem obC_8 : gq_ob mtC 8 RX8 := ⟨_, _, _, rfl, rfl, rfl⟩
theorem lkC_8_0 : gq_lk mtC 8 8 0 (some 9) := ⟨_, rfl, rfl⟩
theorem arC_9 : mtC[9]? = some (.inr (false, 8)) := rfl
theorem obC_10 : gq_ob mtC 10 RX8 := ⟨_, _, _, rfl, rfl, rfl⟩
theorem lkC_10_0 : gq_lk mtC 10 8 0 (some 11) := ⟨_, rfl, rfl⟩
theorem arC_11 : mtC[11]? = some (.inr (false, 8)) := rfl
theorem obC_12 : gq_ob mtC 12 RX8 := ⟨_, _, _, rfl, rfl, rfl⟩
theorem lkC_12_0 : gq_lk mtC 12 8 0 (some 13) := ⟨_, rfl, rfl⟩
theorem arC_13 : mtC[13]? = some (.inr (false, 8)) := rfl
theorem obC_14 : gq_ob mtC 14 RX8 := ⟨_, _, _, rfl, rfl, rfl⟩
theorem lkC_14_0 : gq_lk mtC 14 8 0 (some 15) := ⟨_, rfl, rfl⟩
theorem arC_15 : mtC[15]? = some (.inr (false, 8)) := rfl
theorem obC_16 : gq_ob mtC 16 RX4 := ⟨_, _, _, rfl, rfl, rfl⟩
theorem lkC_16_0 : gq_lk mtC 16 4 0 (some 17) := ⟨_, rfl, rfl⟩
theorem lkC_16_1 : gq_lk mtC 16 4 1 (some 19) := ⟨_, rfl, rfl⟩
theorem lkC_16_2 : gq_lk mtC 16 4 2 (some 21) := ⟨_, rfl, rfl⟩
theorem obC_17 : gq_ob mtC 17 RX8 := ⟨_, _, _, rfl, rfl, rfl⟩
theorem lkC_17_0 : gq_lk mtC 17 8 0 (some 18) := ⟨_, rfl, rfl⟩
theorem arC_18 : mtC[18]? = some (.inr (false, 4)) := rfl
theorem obC_19 : gq_ob mtC 19 RX8 := ⟨_, _, _, rfl, rfl, rfl⟩
theorem lkC_19_0 : gq_lk mtC 19 8 0 (some 20) := ⟨_, rfl, rfl⟩
theorem arC_20 : mtC[20]? = some (.inr (false, 4)) := rfl
theorem obC_21 : gq_ob mtC 21 RX8 := ⟨_, _, _, rfl, rfl, rfl⟩
theorem lkC_21_0 : gq_lk mtC 21 8 0 (some 22) := ⟨_, rfl, rfl⟩
theorem arC_22 : mtC[22]? = some (.inr (false, 4)) := rfl
theorem obC_23 : gq_ob mtC 23 RX2 := ⟨_, _, _, rfl, rfl, rfl⟩
theorem lkC_23_0 : gq_lk mtC 23 2 0 (some 24) := ⟨_, rfl, rfl⟩
theorem lkC_23_1 : gq_lk mtC 23 2 1 (some 26) := ⟨_, rfl, rfl⟩
theorem lkC_23_2 : gq_lk mtC 23 2 2 (some 28) := ⟨_, rfl, rfl⟩
theorem lkC_23_3 : gq_lk mtC 23 2 3 (some 30) := ⟨_, rfl, rfl⟩
theorem lkC_23_4 : gq_lk mtC 23 2 4 (some 32) := ⟨_, rfl, rfl⟩
theorem obC_24 : gq_ob mtC 24 RX8 := ⟨_, _, _, rfl, rfl, rfl⟩
theorem lkC_24_0 : gq_lk mtC 24 8 0 (some 25) := ⟨_, rfl, rfl⟩
theorem arC_25 : mtC[25]? = some (.inr (false, 8)) := rfl
theorem obC_26 : gq_ob mtC 26 RX8 := ⟨_, _, _, rfl, rfl, rfl⟩
theorem lkC_26_0 : gq_lk mtC 26 8 0 (some 27) := ⟨_, rfl, rfl⟩
theorem arC_27 : mtC[27]? = some (.inr (false, 8)) := rfl
theorem obC_28 : gq_ob mtC 28 RX8 := ⟨_, _, _, rfl, rfl, rfl⟩
theorem lkC_28_0 : gq_lk mtC 28 8 0 (some 29) := ⟨_, rfl, rfl⟩
theorem arC_29 : mtC[29]? = some (.inr (false, 8)) := rfl
theorem obC_30 : gq_ob mtC 30 RX8 := ⟨_, _, _, rfl, rfl, rfl⟩
theorem lkC_30_0 : gq_lk mtC 30 8 0 (some 31) := ⟨_, rfl, rfl⟩
theorem arC_31 : mtC[31]? = some (.inr (false, 8)) := rfl
theorem obC_32 : gq_ob mtC 32 RX8 := ⟨_, _, _, rfl, rfl, rfl⟩
theorem lkC_32_0 : gq_lk mtC 32 8 0 (some 33) := ⟨_, rfl, rfl⟩
theorem arC_33 : mtC[33]? = some (.inr (false, 8)) := rfl
theorem obC_34 : gq_ob mtC 34 RX1 := ⟨_, _, _, rfl, rfl, rfl⟩
theorem lkC_34_0 : gq_lk mtC 34 1 0 (some 35) := ⟨_, rfl, rfl⟩
theorem lkC_34_1 : gq_lk mtC 34 1 1 (some 37) := ⟨_, rfl, rfl⟩
theorem lkC_34_2 : gq_lk mtC 34 1 2 (some 39) := ⟨_, rfl, rfl⟩
theorem lkC_34_3 : gq_lk mtC 34 1 3 (some 41) := ⟨_, rfl, rfl⟩
theorem lkC_34_4 : gq_lk mtC 34 1 4 (some 43) := ⟨_, rfl, rfl⟩
theorem lkC_34_5 : gq_lk mtC 34 1 5 (some 45) := ⟨_, rfl, rfl⟩
theorem lkC_34_6 : gq_lk mtC 34 1 6 (some 47) := ⟨_, rfl, rfl⟩
theorem lkC_34_7 : gq_lk mtC 34 1 7 (some 49) := ⟨_, rfl, rfl⟩
theorem lkC_34_8 : gq_lk mtC 34 1 8 (some 51) := ⟨_, rfl, rfl⟩
theorem lkC_34_9 : gq_lk mtC 34 1 9 (some 53) := ⟨_, rfl, rfl⟩
theorem lkC_34_10 : gq_lk mtC 34 1 10 (some 55) := ⟨_, rfl, rfl⟩
theorem lkC_34_11 : gq_lk mtC 34 1 11 (some 57) := ⟨_, rfl, rfl⟩
theorem lkC_34_12 : gq_lk mtC 34 1 12 (some 59) := ⟨_, rfl, rfl⟩
theorem lkC_34_13 : gq_lk mtC 34 1 13 none := ⟨_, rfl, rfl⟩
theorem obC_35 : gq_ob mtC 35 RX8 := ⟨_, _, _, rfl, rfl, rfl⟩
theorem lkC_35_0 : gq_lk mtC 35 8 0 (some 36) := ⟨_, rfl, rfl⟩
theorem arC_36 : mtC[36]? = some (.inr (false, 150)) := rfl
theorem obC_37 : gq_ob mtC 37 RX8 := ⟨_, _, _, rfl, rfl, rfl⟩
theorem lkC_37_0 : gq_lk mtC 37 8 0 (some 38) := ⟨_, rfl, rfl⟩
theorem arC_38 : mtC[38]? = some (.inr (false, 150)) := rfl
theorem obC_39 : gq_ob mtC 39 RX8 := ⟨_, _, _, rfl, rfl, rfl⟩
theorem lkC_39_0 : gq_lk mtC 39 8 0 (some 40) := ⟨_, rfl, rfl⟩
theorem arC_40 : mtC[40]? = some (.inr (false, 150)) := rfl
theorem obC_41 : gq_ob mtC 41 RX8 := ⟨_, _, _, rfl, rfl, rfl⟩
theorem lkC_41_0 : gq_lk mtC 41 8 0 (some 42) := ⟨_, rfl, rfl⟩
theorem arC_42 : mtC[42]? = some (.inr (false, 150)) := rfl
theorem obC_43 : gq_ob mtC 43 RX8 := ⟨_, _, _, rfl, rfl, rfl⟩
theorem lkC_43_0 : gq_lk mtC 43 8 0 (some 44) := ⟨_, rfl, rfl⟩
theorem arC_44 : mtC[44]? = some (.inr (false, 150)) := rfl
theorem obC_45 : gq_ob mtC 45 RX8 := ⟨_, _, _, rfl, rfl, rfl⟩
theorem lkC_45_0 : gq_lk mtC 45 8 0 (some 46) := ⟨_, rfl, rfl⟩
theorem arC_46 : mtC[46]? = some (.inr (false, 150)) := rfl
theorem obC_47 : gq_ob mtC 47 RX8 := ⟨_, _, _, rfl, rfl, rfl⟩
theorem lkC_47_0 : gq_lk mtC 47 8 0 (some 48) := ⟨_, rfl, rfl⟩
theorem arC_48 : mtC[48]? = some (.inr (false, 150)) := rfl
theorem obC_49 : gq_ob mtC 49 RX8 := ⟨_, _, _, rfl, rfl, rfl⟩
theorem lkC_49_0 : gq_lk mtC 49 8 0 (some 50) := ⟨_, rfl, rfl⟩
theorem arC_50 : mtC[50]? = some (.inr (false, 150)) := rfl
theorem obC_51 : gq_ob mtC 51 RX8 := ⟨_, _, _, rfl, rfl, rfl⟩
theorem lkC_51_0 : gq_lk mtC 51 8 0 (some 52) := ⟨_, rfl, rfl⟩
theorem arC_52 : mtC[52]? = some (.inr (false, 150)) := rfl
theorem obC_53 : gq_ob mtC 53 RX8 := ⟨_, _, _, rfl, rfl, rfl⟩
theorem lkC_53_0 : gq_lk mtC 53 8 0 (some 54) := ⟨_, rfl, rfl⟩
theorem arC_54 : mtC[54]? = some (.inr (false, 150)) := rfl
theorem obC_55 : gq_ob mtC 55 RX8 := ⟨_, _, _, rfl, rfl, rfl⟩
theorem lkC_55_0 : gq_lk mtC 55 8 0 (some 56) := ⟨_, rfl, rfl⟩
theorem arC_56 : mtC[56]? = some (.inr (false, 150)) := rfl
theorem obC_57 : gq_ob mtC 57 RX8 := ⟨_, _, _, rfl, rfl, rfl⟩
theorem lkC_57_0 : gq_lk mtC 57 8 0 (some 58) := ⟨_, rfl, rfl⟩
theorem arC_58 : mtC[58]? = some (.inr (false, 150)) := rfl
theorem obC_59 : gq_ob mtC 59 RX8 := ⟨_, _, _, rfl, rfl, rfl⟩
theorem lkC_59_0 : gq_lk mtC 59 8 0 (some 60) := ⟨_, rfl, rfl⟩
theorem arC_60 : mtC[60]? = some (.inr (false, 6)) := rfl
theorem obC_61 : gq_ob mtC 61 RX6 := ⟨_, _, _, rfl, rfl, rfl⟩
theorem lkC_61_0 : gq_lk mtC 61 6 0 (some 62) := ⟨_, rfl, rfl⟩
theorem lkC_61_1 : gq_lk mtC 61 6 1 (some 64) := ⟨_, rfl, rfl⟩
theorem lkC_61_2 : gq_lk mtC 61 6 2 (some 66) := ⟨_, rfl, rfl⟩
theorem lkC_61_3 : gq_lk mtC 61 6 3 (some 68) := ⟨_, rfl, rfl⟩
theorem lkC_61_4 : gq_lk mtC 61 6 4 (some 70) := ⟨_, rfl, rfl⟩
theorem lkC_61_5 : gq_lk mtC 61 6 5 (some 72) := ⟨_, rfl, rfl⟩
theorem lkC_61_6 : gq_lk mtC 61 6 6 (some 74) := ⟨_, rfl, rfl⟩
theorem lkC_61_7 : gq_lk mtC 61 6 7 none := ⟨_, rfl, rfl⟩
theorem lkC_61_8 : gq_lk mtC 61 6 8 none := ⟨_, rfl, rfl⟩
theorem obC_62 : gq_ob mtC 62 RX8 := ⟨_, _, _, rfl, rfl, rfl⟩
theorem lkC_62_0 : gq_lk mtC 62 8 0 (some 63) := ⟨_, rfl, rfl⟩
theorem arC_63 : mtC[63]? = some (.inr (false, 150)) := rfl
theorem obC_64 : gq_ob mtC 64 RX8 := ⟨_, _, _, rfl, rfl, rfl⟩
theorem lkC_64_0 : gq_lk mtC 64 8 0 (some 65) := ⟨_, rfl, rfl⟩
theorem arC_65 : mtC[65]? = some (.inr (false, 150)) := rfl
theorem obC_66 : gq_ob mtC 66 RX8 := ⟨_, _, _, rfl, rfl, rfl⟩
theorem lkC_66_0 : gq_lk mtC 66 8 0 (some 67) := ⟨_, rfl, rfl⟩
theorem arC_67 : mtC[67]? = some (.inr (false, 150)) := rfl
theorem obC_68 : gq_ob mtC 68 RX8 := ⟨_, _, _, rfl, rfl, rfl⟩
theorem lkC_68_0 : gq_lk mtC 68 8 0 (some 69) := ⟨_, rfl, rfl⟩
theorem arC_69 : mtC[69]? = some (.inr (false, 150)) := rfl
theorem obC_70 : gq_ob mtC 70 RX8 := ⟨_, _, _, rfl, rfl, rfl⟩
theorem lkC_70_0 : gq_lk mtC 70 8 0 (some 71) := ⟨_, rfl, rfl⟩
theorem arC_71 : mtC[71]? = some (.inr (false, 150)) := rfl
theorem obC_72 : gq_ob mtC 72 RX8 := ⟨_, _, _, rfl, rfl, rfl⟩
theorem lkC_72_0 : gq_lk mtC 72 8 0 (some 73) := ⟨_, rfl, rfl⟩
theorem arC_73 : mtC[73]? = some (.inr (false, 150)) := rfl
theorem obC_74 : gq_ob mtC 74 RX8 := ⟨_, _, _, rfl, rfl, rfl⟩
theorem lkC_74_0 : gq_lk mtC 74 8 0 (some 75) := ⟨_, rfl, rfl⟩
theorem arC_75 : mtC[75]? = some (.inr (false, 108)) := rfl
theorem obC_76 : gq_ob mtC 76 RX3 := ⟨_, _, _, rfl, rfl, rfl⟩
theorem lkC_76_0 : gq_lk mtC 76 3 0 (some 77) := ⟨_, rfl, rfl⟩
theorem lkC_76_1 : gq_lk mtC 76 3 1 (some 79) := ⟨_, rfl, rfl⟩
theorem lkC_76_2 : gq_lk mtC 76 3 2 (some 81) := ⟨_, rfl, rfl⟩
theorem lkC_76_3 : gq_lk mtC 76 3 3 (some 83) := ⟨_, rfl, rfl⟩
theorem lkC_76_4 : gq_lk mtC 76 3 4 (some 85) := ⟨_, rfl, rfl⟩
theorem lkC_76_5 : gq_lk mtC 76 3 5 (some 87) := ⟨_, rfl, rfl⟩
theorem lkC_76_6 : gq_lk mtC 76 3 6 (some 89) := ⟨_, rfl, rfl⟩
theorem lkC_76_7 : gq_lk mtC 76 3 7 (some 91) := ⟨_, rfl, rfl⟩
theorem obC_77 : gq_ob mtC 77 RX8 := ⟨_, _, _, rfl, rfl, rfl⟩
theorem lkC_77_0 : gq_lk mtC 77 8 0 (some 78) := ⟨_, rfl, rfl⟩
theorem arC_78 : mtC[78]? = some (.inr (false, 3)) := rfl
theorem obC_79 : gq_ob mtC 79 RX8 := ⟨_, _, _, rfl, rfl, rfl⟩
theorem lkC_79_0 : gq_lk mtC 79 8 0 (some 80) := ⟨_, rfl, rfl⟩
theorem arC_80 : mtC[80]? = some (.inr (false, 3)) := rfl
theorem obC_81 : gq_ob mtC 81 RX8 := ⟨_, _, _, rfl, rfl, rfl⟩
theorem lkC_81_0 : gq_lk mtC 81 8 0 (some 82) := ⟨_, rfl, rfl⟩
theorem arC_82 : mtC[82]? = some (.inr (false, 3)) := rfl
theorem obC_83 : gq_ob mtC 83 RX8 := ⟨_, _, _, rfl, rfl, rfl⟩
theorem lkC_83_0 : gq_lk mtC 83 8 0 (some 84) := ⟨_, rfl, rfl⟩
theorem arC_84 : mtC[84]? = some (.inr (false, 3)) := rfl
theorem obC_85 : gq_ob mtC 85 RX8 := ⟨_, _, _, rfl, rfl, rfl⟩
theorem lkC_85_0 : gq_lk mtC 85 8 0 (some 86) := ⟨_, rfl, rfl⟩
theorem arC_86 : mtC[86]? = some (.inr (false, 3)) := rfl
theorem obC_87 : gq_ob mtC 87 RX8 := ⟨_, _, _, rfl, rfl, rfl⟩
theorem lkC_87_0 : gq_lk mtC 87 8 0 (some 88) := ⟨_, rfl, rfl⟩
theorem arC_88 : mtC[88]? = some (.inr (false, 3)) := rfl
theorem obC_89 : gq_ob mtC 89 RX8 := ⟨_, _, _, rfl, rfl, rfl⟩
theorem lkC_89_0 : gq_lk mtC 89 8 0 (some 90) := ⟨_, rfl, rfl⟩
theorem arC_90 : mtC[90]? = some (.inr (false, 3)) := rfl
theorem obC_91 : gq_ob mtC 91 RX8 := ⟨_, _, _, rfl, rfl, rfl⟩
theorem lkC_91_0 : gq_lk mtC 91 8 0 (some 92) := ⟨_, rfl, rfl⟩
theorem arC_92 : mtC[92]? = some (.inr (false, 3)) := rfl
theorem obC_93 : gq_ob mtC 93 RX7 := ⟨_, _, _, rfl, rfl, rfl⟩
theorem lkC_93_0 : gq_lk mtC 93 7 0 (some 94) := ⟨_, rfl, rfl⟩
theorem lkC_93_1 : gq_lk mtC 93 7 1 (some 96) := ⟨_, rfl, rfl⟩
theorem lkC_93_2 : gq_lk mtC 93 7 2 (some 98) := ⟨_, rfl, rfl⟩
theorem obC_94 : gq_ob mtC 94 RX8 := ⟨_, _, _, rfl, rfl, rfl⟩
theorem lkC_94_0 : gq_lk mtC 94 8 0 (some 95) := ⟨_, rfl, rfl⟩
theorem arC_95 : mtC[95]? = some (.inr (false, 24)) := rfl
theorem obC_96 : gq_ob mtC 96 RX8 := ⟨_, _, _, rfl, rfl, rfl⟩
theorem lkC_96_0 : gq_lk mtC 96 8 0 (some 97) := ⟨_, rfl, rfl⟩
theorem arC_97 : mtC[97]? = some (.inr (false, 24)) := rfl
theorem obC_98 : gq_ob mtC 98 RX8 := ⟨_, _, _, rfl, rfl, rfl⟩
theorem lkC_98_0 : gq_lk mtC 98 8 0 (some 99) := ⟨_, rfl, rfl⟩
theorem arC_99 : mtC[99]? = some (.inr (false, 24)) := rfl
theorem obC_100 : gq_ob mtC 100 RX5 := ⟨_, _, _, rfl, rfl, rfl⟩
theorem lkC_100_0 : gq_lk mtC 100 5 0 (some 101) := ⟨_, rfl, rfl⟩
theorem lkC_100_1 : gq_lk mtC 100 5 1 (some 103) := ⟨_, rfl, rfl⟩
theorem lkC_100_2 : gq_lk mtC 100 5 2 (some 105) := ⟨_, rfl, rfl⟩
theorem lkC_100_3 : gq_lk mtC 100 5 3 (some 107) := ⟨_, rfl, rfl⟩
theorem lkC_100_4 : gq_lk mtC 100 5 4 none := ⟨_, rfl, rfl⟩
theorem obC_101 : gq_ob mtC 101 RX8 := ⟨_, _, _, rfl, rfl, rfl⟩
theorem lkC_101_0 : gq_lk mtC 101 8 0 (some 102) := ⟨_, rfl, rfl⟩
theorem arC_102 : mtC[102]? = some (.inr (false, 20)) := rfl
theorem obC_103 : gq_ob mtC 103 RX8 := ⟨_, _, _, rfl, rfl, rfl⟩
theorem lkC_103_0 : gq_lk mtC 103 8 0 (some 104) := ⟨_, rfl, rfl⟩
theorem arC_104 : mtC[104]? = some (.inr (false, 20)) := rfl
theorem obC_105 : gq_ob mtC 105 RX8 := ⟨_, _, _, rfl, rfl, rfl⟩
theorem lkC_105_0 : gq_lk mtC 105 8 0 (some 106) := ⟨_, rfl, rfl⟩
theorem arC_106 : mtC[106]? = some (.inr (false, 20)) := rfl
theorem obC_107 : gq_ob mtC 107 RX8 := ⟨_, _, _, rfl, rfl, rfl⟩
theorem lkC_107_0 : gq_lk mtC 107 8 0 (some 108) := ⟨_, rfl, rfl⟩
theorem arC_108 : mtC[108]? = some (.inr (false, 20)) := rfl
theorem arL_109 : mtL[109]? = some (.inr (false, 40)) := rfl
theorem arL_110 : mtL[110]? = some (.inr (false, 40)) := rfl
theorem arL_111 : mtL[111]? = some (.inr (false, 40)) := rfl
theorem arL_112 : mtL[112]? = some (.inr (false, 40)) := rfl
theorem arL_113 : mtL[113]? = some (.inr (false, 40)) := rfl
theorem arL_114 : mtL[114]? = some (.inr (false, 40)) := rfl
theorem arL_115 : mtL[115]? = some (.inr (false, 24)) := rfl
theorem arL_116 : mtL[116]? = some (.inr (false, 24)) := rfl
theorem arL_117 : mtL[117]? = some (.inr (false, 24)) := rfl
theorem arL_118 : mtL[118]? = some (.inr (false, 24)) := rfl
theorem arL_119 : mtL[119]? = some (.inr (false, 56)) := rfl
theorem arL_120 : mtL[120]? = some (.inr (false, 64)) := rfl
theorem arL_121 : mtL[121]? = some (.inr (false, 24)) := rfl
theorem arL_122 : mtL[122]? = some (.inr (false, 40)) := rfl
theorem fF_X9_10 : gq_F RX9 10 9 0 := ⟨RX9, TX9, 12, rfl, by decide, inX9, wf_X9_10⟩
theorem fF_X9_19 : gq_F RX9 19 9 1 := ⟨RX9, TX9, 12, rfl, by decide, inX9, wf_X9_19⟩
theorem fF_X9_26 : gq_F RX9 26 9 2 := ⟨RX9, TX9, 12, rfl, by decide, inX9, wf_X9_26⟩
theorem fF_X9_33 : gq_F RX9 33 9 3 := ⟨RX9, TX9, 12, rfl, by decide, inX9, wf_X9_33⟩
theorem fF_X9_40 : gq_F RX9 40 9 4 := ⟨RX9, TX9, 12, rfl, by decide, inX9, wf_X9_40⟩
theorem fF_X9_47 : gq_F RX9 47 9 5 := ⟨RX9, TX9, 12, rfl, by decide, inX9, wf_X9_47⟩
theorem fF_X9_54 : gq_F RX9 54 9 6 := ⟨RX9, TX9, 12, rfl, by decide, inX9, wf_X9_54⟩
theorem fF_X9_61 : gq_F RX9 61 9 7 := ⟨RX9, TX9, 12, rfl, by decide, inX9, wf_X9_61⟩
theorem fF_X9_65 : gq_F RX9 65 9 8 := ⟨RX9, TX9, 12, rfl, by decide, inX9, wf_X9_65⟩
theorem fG_X9_65 : gq_G RX9 65 9 8 .int := ⟨RX9, TX9, 12, tyX9, rfl, by decide, inX9, wf_X9_65, tyX9_ok, nmX9, rfl, by decide +kernel⟩
theorem fF_X9_69 : gq_F RX9 69 9 9 := ⟨RX9, TX9, 12, rfl, by decide, inX9, wf_X9_69⟩
theorem fG_X9_69 : gq_G RX9 69 9 9 .int := ⟨RX9, TX9, 12, tyX9, rfl, by decide, inX9, wf_X9_69, tyX9_ok, nmX9, rfl, by decide +kernel⟩
theorem fF_X9_72 : gq_F RX9 72 9 10 := ⟨RX9, TX9, 12, rfl, by decide, inX9, wf_X9_72⟩
theorem fG_X9_72 : gq_G RX9 72 9 10 .boolean := ⟨RX9, TX9, 12, tyX9, rfl, by decide, inX9, wf_X9_72, tyX9_ok, nmX9, rfl, by decide +kernel⟩
theorem fF_X9_76 : gq_F RX9 76 9 11 := ⟨RX9, TX9, 12, rfl, by decide, inX9, wf_X9_76⟩
theorem fG_X9_76 : gq_G RX9 76 9 11 .int := ⟨RX9, TX9, 12, tyX9, rfl, by decide, inX9, wf_X9_76, tyX9_ok, nmX9, rfl, by decide +kernel⟩
theorem fF_X9_88 : gq_F RX9 88 0 0 := ⟨RX0, TX0, 7, rfl, by decide, inX0, wf_X9_88⟩
theorem fF_X9_101 : gq_F RX9 101 0 4 := ⟨RX0, TX0, 7, rfl, by decide, inX0, wf_X9_101⟩
theorem fF_X9_107 : gq_F RX9 107 0 3 := ⟨RX0, TX0, 7, rfl, by decide, inX0, wf_X9_107⟩
theorem fF_X9_110 : gq_F RX9 110 4 0 := ⟨RX4, TX4, 3, rfl, by decide, inX4, wf_X9_110⟩
theorem fF_X9_113 : gq_F RX9 113 4 1 := ⟨RX4, TX4, 3, rfl, by decide, inX4, wf_X9_113⟩
theorem fF_X9_116 : gq_F RX9 116 4 2 := ⟨RX4, TX4, 3, rfl, by decide, inX4, wf_X9_116⟩
theorem fF_X9_119 : gq_F RX9 119 3 6 := ⟨RX3, TX3, 8, rfl, by decide, inX3, wf_X9_119⟩
theorem fF_X9_123 : gq_F RX9 123 2 1 := ⟨RX2, TX2, 5, rfl, by decide, inX2, wf_X9_123⟩
theorem fF_X9_126 : gq_F RX9 126 2 0 := ⟨RX2, TX2, 5, rfl, by decide, inX2, wf_X9_126⟩
theorem fF_X9_129 : gq_F RX9 129 3 7 := ⟨RX3, TX3, 8, rfl, by decide, inX3, wf_X9_129⟩
theorem fF_X9_132 : gq_F RX9 132 2 4 := ⟨RX2, TX2, 5, rfl, by decide, inX2, wf_X9_132⟩
theorem fF_X9_135 : gq_F RX9 135 1 13 := ⟨RX1, TX1, 14, rfl, by decide, inX1, wf_X9_135⟩
theorem fG_X9_135 : gq_G RX9 135 1 13 .int := ⟨RX1, TX1, 14, tyX1, rfl, by decide, inX1, wf_X9_135, tyX1_ok, nmX1, rfl, by decide +kernel⟩
theorem fF_X9_167 : gq_F RX9 167 3 4 := ⟨RX3, TX3, 8, rfl, by decide, inX3, wf_X9_167⟩
theorem fF_X9_184 : gq_F RX9 184 6 7 := ⟨RX6, TX6, 9, rfl, by decide, inX6, wf_X9_184⟩
theorem fG_X9_184 : gq_G RX9 184 6 7 .int := ⟨RX6, TX6, 9, tyX6, rfl, by decide, inX6, wf_X9_184, tyX6_ok, nmX6, rfl, by decide +kernel⟩
theorem fF_X9_191 : gq_F RX9 191 1 5 := ⟨RX1, TX1, 14, rfl, by decide, inX1, wf_X9_191⟩
theorem fF_X9_197 : gq_F RX9 197 3 0 := ⟨RX3, TX3, 8, rfl, by decide, inX3, wf_X9_197⟩
theorem fF_X9_206 : gq_F RX9 206 3 2 := ⟨RX3, TX3, 8, rfl, by decide, inX3, wf_X9_206⟩
theorem fF_X9_213 : gq_F RX9 213 3 3 := ⟨RX3, TX3, 8, rfl, by decide, inX3, wf_X9_213⟩
theorem fF_X9_216 : gq_F RX9 216 3 1 := ⟨RX3, TX3, 8, rfl, by decide, inX3, wf_X9_216⟩
theorem fF_X9_238 : gq_F RX9 238 5 4 := ⟨RX5, TX5, 5, rfl, by decide, inX5, wf_X9_238⟩
theorem fG_X9_238 : gq_G RX9 238 5 4 .int := ⟨RX5, TX5, 5, tyX5, rfl, by decide, inX5, wf_X9_238, tyX5_ok, nmX5, rfl, by decide +kernel⟩
theorem fF_X9_241 : gq_F RX9 241 2 2 := ⟨RX2, TX2, 5, rfl, by decide, inX2, wf_X9_241⟩
theorem fF_X9_254 : gq_F RX9 254 1 6 := ⟨RX1, TX1, 14, rfl, by decide, inX1, wf_X9_254⟩
theorem fF_X9_257 : gq_F RX9 257 1 11 := ⟨RX1, TX1, 14, rfl, by decide, inX1, wf_X9_257⟩
theorem fF_X9_260 : gq_F RX9 260 1 8 := ⟨RX1, TX1, 14, rfl, by decide, inX1, wf_X9_260⟩
theorem fF_X9_266 : gq_F RX9 266 0 5 := ⟨RX0, TX0, 7, rfl, by decide, inX0, wf_X9_266⟩
theorem fF_X9_269 : gq_F RX9 269 1 0 := ⟨RX1, TX1, 14, rfl, by decide, inX1, wf_X9_269⟩
theorem fF_X9_278 : gq_F RX9 278 1 4 := ⟨RX1, TX1, 14, rfl, by decide, inX1, wf_X9_278⟩
theorem fF_X9_279 : gq_F RX9 279 1 1 := ⟨RX1, TX1, 14, rfl, by decide, inX1, wf_X9_279⟩
theorem fF_X9_285 : gq_F RX9 285 1 7 := ⟨RX1, TX1, 14, rfl, by decide, inX1, wf_X9_285⟩
theorem fF_X9_286 : gq_F RX9 286 6 0 := ⟨RX6, TX6, 9, rfl, by decide, inX6, wf_X9_286⟩
theorem fF_X9_287 : gq_F RX9 287 6 1 := ⟨RX6, TX6, 9, rfl, by decide, inX6, wf_X9_287⟩
theorem fF_X9_294 : gq_F RX9 294 6 2 := ⟨RX6, TX6, 9, rfl, by decide, inX6, wf_X9_294⟩
theorem fF_X9_295 : gq_F RX9 295 2 3 := ⟨RX2, TX2, 5, rfl, by decide, inX2, wf_X9_295⟩
theorem fF_X9_298 : gq_F RX9 298 0 2 := ⟨RX0, TX0, 7, rfl, by decide, inX0, wf_X9_298⟩
theorem fF_X9_301 : gq_F RX9 301 1 12 := ⟨RX1, TX1, 14, rfl, by decide, inX1, wf_X9_301⟩
theorem fF_X9_307 : gq_F RX9 307 1 2 := ⟨RX1, TX1, 14, rfl, by decide, inX1, wf_X9_307⟩
theorem fF_X9_310 : gq_F RX9 310 1 9 := ⟨RX1, TX1, 14, rfl, by decide, inX1, wf_X9_310⟩
theorem fF_X9_313 : gq_F RX9 313 5 3 := ⟨RX5, TX5, 5, rfl, by decide, inX5, wf_X9_313⟩
theorem fF_X9_337 : gq_F RX9 337 0 6 := ⟨RX0, TX0, 7, rfl, by decide, inX0, wf_X9_337⟩
theorem fF_X9_351 : gq_F RX9 351 6 6 := ⟨RX6, TX6, 9, rfl, by decide, inX6, wf_X9_351⟩
theorem fF_X9_374 : gq_F RX9 374 3 5 := ⟨RX3, TX3, 8, rfl, by decide, inX3, wf_X9_374⟩
theorem fF_X9_405 : gq_F RX9 405 6 3 := ⟨RX6, TX6, 9, rfl, by decide, inX6, wf_X9_405⟩
theorem fF_X9_417 : gq_F RX9 417 5 1 := ⟨RX5, TX5, 5, rfl, by decide, inX5, wf_X9_417⟩
theorem fF_X9_423 : gq_F RX9 423 5 2 := ⟨RX5, TX5, 5, rfl, by decide, inX5, wf_X9_423⟩
theorem fF_X9_426 : gq_F RX9 426 5 0 := ⟨RX5, TX5, 5, rfl, by decide, inX5, wf_X9_426⟩
theorem fF_X0_14 : gq_F RX0 14 0 0 := ⟨RX0, TX0, 7, rfl, by decide, inX0, wf_X0_14⟩
theorem fF_X0_20 : gq_F RX0 20 0 1 := ⟨RX0, TX0, 7, rfl, by decide, inX0, wf_X0_20⟩
theorem fF_X0_23 : gq_F RX0 23 0 2 := ⟨RX0, TX0, 7, rfl, by decide, inX0, wf_X0_23⟩
theorem fF_X0_26 : gq_F RX0 26 0 3 := ⟨RX0, TX0, 7, rfl, by decide, inX0, wf_X0_26⟩
theorem fF_X0_29 : gq_F RX0 29 0 4 := ⟨RX0, TX0, 7, rfl, by decide, inX0, wf_X0_29⟩
theorem fF_X0_32 : gq_F RX0 32 0 5 := ⟨RX0, TX0, 7, rfl, by decide, inX0, wf_X0_32⟩
theorem fF_X0_35 : gq_F RX0 35 0 6 := ⟨RX0, TX0, 7, rfl, by decide, inX0, wf_X0_35⟩
theorem fF_X1_14 : gq_F RX1 14 1 0 := ⟨RX1, TX1, 14, rfl, by decide, inX1, wf_X1_14⟩
theorem fF_X1_20 : gq_F RX1 20 1 1 := ⟨RX1, TX1, 14, rfl, by decide, inX1, wf_X1_20⟩
theorem fF_X1_23 : gq_F RX1 23 1 2 := ⟨RX1, TX1, 14, rfl, by decide, inX1, wf_X1_23⟩
theorem fF_X1_26 : gq_F RX1 26 1 3 := ⟨RX1, TX1, 14, rfl, by decide, inX1, wf_X1_26⟩
theorem fF_X1_29 : gq_F RX1 29 1 4 := ⟨RX1, TX1, 14, rfl, by decide, inX1, wf_X1_29⟩
theorem fF_X1_32 : gq_F RX1 32 1 5 := ⟨RX1, TX1, 14, rfl, by decide, inX1, wf_X1_32⟩
theorem fF_X1_35 : gq_F RX1 35 1 6 := ⟨RX1, TX1, 14, rfl, by decide, inX1, wf_X1_35⟩
theorem fF_X1_38 : gq_F RX1 38 1 7 := ⟨RX1, TX1, 14, rfl, by decide, inX1, wf_X1_38⟩
theorem fF_X1_41 : gq_F RX1 41 1 8 := ⟨RX1, TX1, 14, rfl, by decide, inX1, wf_X1_41⟩
theorem fF_X1_44 : gq_F RX1 44 1 9 := ⟨RX1, TX1, 14, rfl, by decide, inX1, wf_X1_44⟩
theorem fF_X1_47 : gq_F RX1 47 1 10 := ⟨RX1, TX1, 14, rfl, by decide, inX1, wf_X1_47⟩
theorem fF_X1_50 : gq_F RX1 50 1 11 := ⟨RX1, TX1, 14, rfl, by decide, inX1, wf_X1_50⟩
theorem fF_X1_53 : gq_F RX1 53 1 12 := ⟨RX1, TX1, 14, rfl, by decide, inX1, wf_X1_53⟩
theorem fF_X1_56 : gq_F RX1 56 1 13 := ⟨RX1, TX1, 14, rfl, by decide, inX1, wf_X1_56⟩
theorem fG_X1_56 : gq_G RX1 56 1 13 .int := ⟨RX1, TX1, 14, tyX1, rfl, by decide, inX1, wf_X1_56, tyX1_ok, nmX1, rfl, by decide +kernel⟩
theorem fF_X2_14 : gq_F RX2 14 2 0 := ⟨RX2, TX2, 5, rfl, by decide, inX2, wf_X2_14⟩
theorem fF_X2_20 : gq_F RX2 20 2 1 := ⟨RX2, TX2, 5, rfl, by decide, inX2, wf_X2_20⟩
theorem fF_X2_23 : gq_F RX2 23 2 2 := ⟨RX2, TX2, 5, rfl, by decide, inX2, wf_X2_23⟩
theorem fF_X2_26 : gq_F RX2 26 2 3 := ⟨RX2, TX2, 5, rfl, by decide, inX2, wf_X2_26⟩
theorem fF_X2_29 : gq_F RX2 29 2 4 := ⟨RX2, TX2, 5, rfl, by decide, inX2, wf_X2_29⟩
theorem fF_X3_14 : gq_F RX3 14 3 0 := ⟨RX3, TX3, 8, rfl, by decide, inX3, wf_X3_14⟩
theorem fF_X3_20 : gq_F RX3 20 3 1 := ⟨RX3, TX3, 8, rfl, by decide, inX3, wf_X3_20⟩
theorem fF_X3_23 : gq_F RX3 23 3 2 := ⟨RX3, TX3, 8, rfl, by decide, inX3, wf_X3_23⟩
theorem fF_X3_26 : gq_F RX3 26 3 3 := ⟨RX3, TX3, 8, rfl, by decide, inX3, wf_X3_26⟩
theorem fF_X3_29 : gq_F RX3 29 3 4 := ⟨RX3, TX3, 8, rfl, by decide, inX3, wf_X3_29⟩
theorem fF_X3_32 : gq_F RX3 32 3 5 := ⟨RX3, TX3, 8, rfl, by decide, inX3, wf_X3_32⟩
theorem fF_X3_35 : gq_F RX3 35 3 6 := ⟨RX3, TX3, 8, rfl, by decide, inX3, wf_X3_35⟩
theorem fF_X3_38 : gq_F RX3 38 3 7 := ⟨RX3, TX3, 8, rfl, by decide, inX3, wf_X3_38⟩
theorem fF_X4_14 : gq_F RX4 14 4 0 := ⟨RX4, TX4, 3, rfl, by decide, inX4, wf_X4_14⟩
theorem fF_X4_20 : gq_F RX4 20 4 1 := ⟨RX4, TX4, 3, rfl, by decide, inX4, wf_X4_20⟩
theorem fF_X4_23 : gq_F RX4 23 4 2 := ⟨RX4, TX4, 3, rfl, by decide, inX4, wf_X4_23⟩
theorem fF_X5_14 : gq_F RX5 14 5 0 := ⟨RX5, TX5, 5, rfl, by decide, inX5, wf_X5_14⟩
theorem fF_X5_20 : gq_F RX5 20 5 1 := ⟨RX5, TX5, 5, rfl, by decide, inX5, wf_X5_20⟩
theorem fF_X5_23 : gq_F RX5 23 5 2 := ⟨RX5, TX5, 5, rfl, by decide, inX5, wf_X5_23⟩
theorem fF_X5_26 : gq_F RX5 26 5 3 := ⟨RX5, TX5, 5, rfl, by decide, inX5, wf_X5_26⟩
theorem fF_X5_29 : gq_F RX5 29 5 4 := ⟨RX5, TX5, 5, rfl, by decide, inX5, wf_X5_29⟩
theorem fG_X5_29 : gq_G RX5 29 5 4 .int := ⟨RX5, TX5, 5, tyX5, rfl, by decide, inX5, wf_X5_29, tyX5_ok, nmX5, rfl, by decide +kernel⟩
theorem fF_X6_14 : gq_F RX6 14 6 0 := ⟨RX6, TX6, 9, rfl, by decide, inX6, wf_X6_14⟩
theorem fF_X6_20 : gq_F RX6 20 6 1 := ⟨RX6, TX6, 9, rfl, by decide, inX6, wf_X6_20⟩
theorem fF_X6_23 : gq_F RX6 23 6 2 := ⟨RX6, TX6, 9, rfl, by decide, inX6, wf_X6_23⟩
theorem fF_X6_26 : gq_F RX6 26 6 3 := ⟨RX6, TX6, 9, rfl, by decide, inX6, wf_X6_26⟩
theorem fF_X6_29 : gq_F RX6 29 6 4 := ⟨RX6, TX6, 9, rfl, by decide, inX6, wf_X6_29⟩
theorem fF_X6_32 : gq_F RX6 32 6 5 := ⟨RX6, TX6, 9, rfl, by decide, inX6, wf_X6_32⟩
theorem fF_X6_37 : gq_F RX6 37 6 6 := ⟨RX6, TX6, 9, rfl, by decide, inX6, wf_X6_37⟩
theorem fF_X6_40 : gq_F RX6 40 6 7 := ⟨RX6, TX6, 9, rfl, by decide, inX6, wf_X6_40⟩
theorem fG_X6_40 : gq_G RX6 40 6 7 .int := ⟨RX6, TX6, 9, tyX6, rfl, by decide, inX6, wf_X6_40, tyX6_ok, nmX6, rfl, by decide +kernel⟩
theorem fF_X6_44 : gq_F RX6 44 6 8 := ⟨RX6, TX6, 9, rfl, by decide, inX6, wf_X6_44⟩
theorem fG_X6_44 : gq_G RX6 44 6 8 .int := ⟨RX6, TX6, 9, tyX6, rfl, by decide, inX6, wf_X6_44, tyX6_ok, nmX6, rfl, by decide +kernel⟩
theorem fF_X7_14 : gq_F RX7 14 7 0 := ⟨RX7, TX7, 3, rfl, by decide, inX7, wf_X7_14⟩
theorem fF_X7_20 : gq_F RX7 20 7 1 := ⟨RX7, TX7, 3, rfl, by decide, inX7, wf_X7_20⟩
theorem fF_X7_23 : gq_F RX7 23 7 2 := ⟨RX7, TX7, 3, rfl, by decide, inX7, wf_X7_23⟩
theorem fF_X8_7 : gq_F RX8 7 8 0 := ⟨RX8, TX8, 1, rfl, by decide, inX8, wf_X8_7⟩
theorem mV_X8_put : gq_MV yX8_put cX8_put 3 none 2 := ⟨wc_X8_put, wn_X8, wi_X8_put, ws_X8_put, ⟨by decide, by decide, by decide +kernel⟩⟩
theorem mS_L_part : gq_MS yL_part cL_part 4 (some .int) 3 := ⟨wc_L_part, wn_L, wt_L_part, ⟨by decide, by decide, by decide +kernel⟩⟩
theorem mV_X9_quota : gq_MV yX9_quota cX9_quota 4 (some .int) 3 := ⟨wc_X9_quota, wn_X9, wi_X9_quota, ws_X9_quota, ⟨by decide, by decide, by decide +kernel⟩⟩
theorem mS_X9_mustExist : gq_MS yX9_mustExist cX9_mustExist 2 none 2 := ⟨wc_X9_mustExist, wn_X9, wt_X9_mustExist, ⟨by decide, by decide, by decide +kernel⟩⟩
theorem mS_X9_mustBeIn : gq_MS yX9_mustBeIn cX9_mustBeIn 3 none 3 := ⟨wc_X9_mustBeIn, wn_X9, wt_X9_mustBeIn, ⟨by decide, by decide, by decide +kernel⟩⟩
theorem mS_X0_placeOf : gq_MS yX0_placeOf cX0_placeOf 2 (some .int) 2 := ⟨wc_X0_placeOf, wn_X0, wt_X0_placeOf, ⟨by decide, by decide, by decide +kernel⟩⟩
theorem mV_X8_swap : gq_MV yX8_swap cX8_swap 4 (some .int) 2 := ⟨wc_X8_swap, wn_X8, wi_X8_swap, ws_X8_swap, ⟨by decide, by decide, by decide +kernel⟩⟩
theorem mV_X8_at : gq_MV yX8_at cX8_at 2 (some .int) 1 := ⟨wc_X8_at, wn_X8, wi_X8_at, ws_X8_at, ⟨by decide, by decide, by decide +kernel⟩⟩
theorem mV_X9_aid : gq_MV yX9_aid cX9_aid 4 (some .int) 3 := ⟨wc_X9_aid, wn_X9, wi_X9_aid, ws_X9_aid, ⟨by decide, by decide, by decide +kernel⟩⟩
theorem mS_L_told : gq_MS yL_told cL_told 5 (some .int) 5 := ⟨wc_L_told, wn_L, wt_L_told, ⟨by decide, by decide, by decide +kernel⟩⟩
theorem mV_X9_kind : gq_MV yX9_kind cX9_kind 5 none 4 := ⟨wc_X9_kind, wn_X9, wi_X9_kind, ws_X9_kind, ⟨by decide, by decide, by decide +kernel⟩⟩
theorem mV_X9_step : gq_MV yX9_step cX9_step 3 (some .int) 2 := ⟨wc_X9_step, wn_X9, wi_X9_step, ws_X9_step, ⟨by decide, by decide, by decide +kernel⟩⟩
theorem mV_X9_buyer : gq_MV yX9_buyer cX9_buyer 4 (some .int) 3 := ⟨wc_X9_buyer, wn_X9, wi_X9_buyer, ws_X9_buyer, ⟨by decide, by decide, by decide +kernel⟩⟩
theorem mV_X9_power : gq_MV yX9_power cX9_power 3 (some .boolean) 2 := ⟨wc_X9_power, wn_X9, wi_X9_power, ws_X9_power, ⟨by decide, by decide, by decide +kernel⟩⟩
theorem mV_X9_line : gq_MV yX9_line cX9_line 3 (some .boolean) 2 := ⟨wc_X9_line, wn_X9, wi_X9_line, ws_X9_line, ⟨by decide, by decide, by decide +kernel⟩⟩
theorem mV_X9_land : gq_MV yX9_land cX9_land 8 (some .int) 6 := ⟨wc_X9_land, wn_X9, wi_X9_land, ws_X9_land, ⟨by decide, by decide, by decide +kernel⟩⟩
theorem mS_X9_mustHold : gq_MS yX9_mustHold cX9_mustHold 1 none 1 := ⟨wc_X9_mustHold, wn_X9, wt_X9_mustHold, ⟨by decide, by decide, by decide +kernel⟩⟩
theorem mV_X0_addLanded : gq_MV yX0_addLanded cX0_addLanded 4 none 3 := ⟨wc_X0_addLanded, wn_X0, wi_X0_addLanded, ws_X0_addLanded, ⟨by decide, by decide, by decide +kernel⟩⟩
theorem mV_X8_add : gq_MV yX8_add cX8_add 3 none 2 := ⟨wc_X8_add, wn_X8, wi_X8_add, ws_X8_add, ⟨by decide, by decide, by decide +kernel⟩⟩
theorem mV_X0_isAboveQuota : gq_MV yX0_isAboveQuota cX0_isAboveQuota 4 (some .boolean) 2 := ⟨wc_X0_isAboveQuota, wn_X0, wi_X0_isAboveQuota, ws_X0_isAboveQuota, ⟨by decide, by decide, by decide +kernel⟩⟩
theorem mS_X1_rankOf : gq_MS yX1_rankOf cX1_rankOf 3 (some .int) 3 := ⟨wc_X1_rankOf, wn_X1, wt_X1_rankOf, ⟨by decide, by decide, by decide +kernel⟩⟩
theorem mV_X1_add : gq_MV yX1_add cX1_add 7 (some .int) 5 := ⟨wc_X1_add, wn_X1, wi_X1_add, ws_X1_add, ⟨by decide, by decide, by decide +kernel⟩⟩
theorem mS_X1_sumOf : gq_MS yX1_sumOf cX1_sumOf 1 (some .int) 1 := ⟨wc_X1_sumOf, wn_X1, wt_X1_sumOf, ⟨by decide, by decide, by decide +kernel⟩⟩
theorem mV_X9_open : gq_MV yX9_open cX9_open 2 (some .int) 0 := ⟨wc_X9_open, wn_X9, wi_X9_open, ws_X9_open, ⟨by decide, by decide, by decide +kernel⟩⟩
theorem mV_X1_countWaiting : gq_MV yX1_countWaiting cX1_countWaiting 3 (some .int) 0 := ⟨wc_X1_countWaiting, wn_X1, wi_X1_countWaiting, ws_X1_countWaiting, ⟨by decide, by decide, by decide +kernel⟩⟩
theorem mV_X1_isWaiting : gq_MV yX1_isWaiting cX1_isWaiting 2 (some .boolean) 1 := ⟨wc_X1_isWaiting, wn_X1, wi_X1_isWaiting, ws_X1_isWaiting, ⟨by decide, by decide, by decide +kernel⟩⟩
theorem mV_X9_countWaitingBoxes : gq_MV yX9_countWaitingBoxes cX9_countWaitingBoxes 2 none 0 := ⟨wc_X9_countWaitingBoxes, wn_X9, wi_X9_countWaitingBoxes, ws_X9_countWaitingBoxes, ⟨by decide, by decide, by decide +kernel⟩⟩
theorem mV_X9_offerBoats : gq_MV yX9_offerBoats cX9_offerBoats 3 none 1 := ⟨wc_X9_offerBoats, wn_X9, wi_X9_offerBoats, ws_X9_offerBoats, ⟨by decide, by decide, by decide +kernel⟩⟩
theorem mV_X0_countWaiting : gq_MV yX0_countWaiting cX0_countWaiting 4 (some .int) 1 := ⟨wc_X0_countWaiting, wn_X0, wi_X0_countWaiting, ws_X0_countWaiting, ⟨by decide, by decide, by decide +kernel⟩⟩
theorem mV_X0_waits : gq_MV yX0_waits cX0_waits 3 (some .boolean) 2 := ⟨wc_X0_waits, wn_X0, wi_X0_waits, ws_X0_waits, ⟨by decide, by decide, by decide +kernel⟩⟩
theorem mV_X0_findWaiting : gq_MV yX0_findWaiting cX0_findWaiting 5 (some .int) 2 := ⟨wc_X0_findWaiting, wn_X0, wi_X0_findWaiting, ws_X0_findWaiting, ⟨by decide, by decide, by decide +kernel⟩⟩
theorem mV_X9_offerBoat : gq_MV yX9_offerBoat cX9_offerBoat 3 none 1 := ⟨wc_X9_offerBoat, wn_X9, wi_X9_offerBoat, ws_X9_offerBoat, ⟨by decide, by decide, by decide +kernel⟩⟩
theorem mV_X8_fill : gq_MV yX8_fill cX8_fill 3 none 1 := ⟨wc_X8_fill, wn_X8, wi_X8_fill, ws_X8_fill, ⟨by decide, by decide, by decide +kernel⟩⟩
theorem mS_X1_kindOf : gq_MS yX1_kindOf cX1_kindOf 1 (some .int) 1 := ⟨wc_X1_kindOf, wn_X1, wt_X1_kindOf, ⟨by decide, by decide, by decide +kernel⟩⟩
theorem mV_X6_add : gq_MV yX6_add cX6_add 4 none 3 := ⟨wc_X6_add, wn_X6, wi_X6_add, ws_X6_add, ⟨by decide, by decide, by decide +kernel⟩⟩
theorem mV_X6_addBox : gq_MV yX6_addBox cX6_addBox 4 (some .int) 2 := ⟨wc_X6_addBox, wn_X6, wi_X6_addBox, ws_X6_addBox, ⟨by decide, by decide, by decide +kernel⟩⟩
theorem mV_X1_move : gq_MV yX1_move cX1_move 3 none 2 := ⟨wc_X1_move, wn_X1, wi_X1_move, ws_X1_move, ⟨by decide, by decide, by decide +kernel⟩⟩
theorem mV_X6_countIn : gq_MV yX6_countIn cX6_countIn 4 (some .int) 1 := ⟨wc_X6_countIn, wn_X6, wi_X6_countIn, ws_X6_countIn, ⟨by decide, by decide, by decide +kernel⟩⟩
theorem mV_X6_nextIn : gq_MV yX6_nextIn cX6_nextIn 4 (some .int) 2 := ⟨wc_X6_nextIn, wn_X6, wi_X6_nextIn, ws_X6_nextIn, ⟨by decide, by decide, by decide +kernel⟩⟩
theorem mV_X9_bringToClock : gq_MV yX9_bringToClock cX9_bringToClock 3 none 2 := ⟨wc_X9_bringToClock, wn_X9, wi_X9_bringToClock, ws_X9_bringToClock, ⟨by decide, by decide, by decide +kernel⟩⟩
theorem mV_X9_beginRound : gq_MV yX9_beginRound cX9_beginRound 2 none 1 := ⟨wc_X9_beginRound, wn_X9, wi_X9_beginRound, ws_X9_beginRound, ⟨by decide, by decide, by decide +kernel⟩⟩
theorem mV_X7_forget : gq_MV yX7_forget cX7_forget 3 none 1 := ⟨wc_X7_forget, wn_X7, wi_X7_forget, ws_X7_forget, ⟨by decide, by decide, by decide +kernel⟩⟩
theorem mS_X7_placeOf : gq_MS yX7_placeOf cX7_placeOf 2 (some .int) 2 := ⟨wc_X7_placeOf, wn_X7, wt_X7_placeOf, ⟨by decide, by decide, by decide +kernel⟩⟩
theorem mV_X9_end : gq_MV yX9_end cX9_end 3 (some .int) 0 := ⟨wc_X9_end, wn_X9, wi_X9_end, ws_X9_end, ⟨by decide, by decide, by decide +kernel⟩⟩
theorem mV_X9_withdrawRest : gq_MV yX9_withdrawRest cX9_withdrawRest 4 (some .int) 1 := ⟨wc_X9_withdrawRest, wn_X9, wi_X9_withdrawRest, ws_X9_withdrawRest, ⟨by decide, by decide, by decide +kernel⟩⟩
theorem mV_X6_left : gq_MV yX6_left cX6_left 2 (some .int) 1 := ⟨wc_X6_left, wn_X6, wi_X6_left, ws_X6_left, ⟨by decide, by decide, by decide +kernel⟩⟩
theorem mV_X6_boxAt : gq_MV yX6_boxAt cX6_boxAt 3 (some .int) 2 := ⟨wc_X6_boxAt, wn_X6, wi_X6_boxAt, ws_X6_boxAt, ⟨by decide, by decide, by decide +kernel⟩⟩
theorem mV_X9_withdraw : gq_MV yX9_withdraw cX9_withdraw 4 none 1 := ⟨wc_X9_withdraw, wn_X9, wi_X9_withdraw, ws_X9_withdraw, ⟨by decide, by decide, by decide +kernel⟩⟩
theorem mV_X1_canBeCarried : gq_MV yX1_canBeCarried cX1_canBeCarried 2 (some .boolean) 1 := ⟨wc_X1_canBeCarried, wn_X1, wi_X1_canBeCarried, ws_X1_canBeCarried, ⟨by decide, by decide, by decide +kernel⟩⟩
theorem mS_X1_freshOf : gq_MS yX1_freshOf cX1_freshOf 1 (some .int) 1 := ⟨wc_X1_freshOf, wn_X1, wt_X1_freshOf, ⟨by decide, by decide, by decide +kernel⟩⟩
theorem mV_X1_age : gq_MV yX1_age cX1_age 2 none 1 := ⟨wc_X1_age, wn_X1, wi_X1_age, ws_X1_age, ⟨by decide, by decide, by decide +kernel⟩⟩
theorem mV_X6_clear : gq_MV yX6_clear cX6_clear 1 none 0 := ⟨wc_X6_clear, wn_X6, wi_X6_clear, ws_X6_clear, ⟨by decide, by decide, by decide +kernel⟩⟩
theorem mV_X9_press : gq_MV yX9_press cX9_press 4 (some .int) 2 := ⟨wc_X9_press, wn_X9, wi_X9_press, ws_X9_press, ⟨by decide, by decide, by decide +kernel⟩⟩
theorem mV_X7_isMade : gq_MV yX7_isMade cX7_isMade 3 (some .boolean) 2 := ⟨wc_X7_isMade, wn_X7, wi_X7_isMade, ws_X7_isMade, ⟨by decide, by decide, by decide +kernel⟩⟩
theorem mV_X7_make : gq_MV yX7_make cX7_make 7 none 5 := ⟨wc_X7_make, wn_X7, wi_X7_make, ws_X7_make, ⟨by decide, by decide, by decide +kernel⟩⟩
theorem mV_X9_take : gq_MV yX9_take cX9_take 5 (some .int) 3 := ⟨wc_X9_take, wn_X9, wi_X9_take, ws_X9_take, ⟨by decide, by decide, by decide +kernel⟩⟩
theorem mV_X9_costOfFirst : gq_MV yX9_costOfFirst cX9_costOfFirst 6 (some .int) 2 := ⟨wc_X9_costOfFirst, wn_X9, wi_X9_costOfFirst, ws_X9_costOfFirst, ⟨by decide, by decide, by decide +kernel⟩⟩
theorem mV_X2_leftOf : gq_MV yX2_leftOf cX2_leftOf 2 (some .int) 1 := ⟨wc_X2_leftOf, wn_X2, wi_X2_leftOf, ws_X2_leftOf, ⟨by decide, by decide, by decide +kernel⟩⟩
theorem mV_X9_sellFirst : gq_MV yX9_sellFirst cX9_sellFirst 9 none 2 := ⟨wc_X9_sellFirst, wn_X9, wi_X9_sellFirst, ws_X9_sellFirst, ⟨by decide, by decide, by decide +kernel⟩⟩
theorem mV_X1_sell : gq_MV yX1_sell cX1_sell 4 none 3 := ⟨wc_X1_sell, wn_X1, wi_X1_sell, ws_X1_sell, ⟨by decide, by decide, by decide +kernel⟩⟩
theorem mV_X9_goOn : gq_MV yX9_goOn cX9_goOn 3 none 1 := ⟨wc_X9_goOn, wn_X9, wi_X9_goOn, ws_X9_goOn, ⟨by decide, by decide, by decide +kernel⟩⟩
theorem mV_X9_lorry : gq_MV yX9_lorry cX9_lorry 4 (some .int) 3 := ⟨wc_X9_lorry, wn_X9, wi_X9_lorry, ws_X9_lorry, ⟨by decide, by decide, by decide +kernel⟩⟩
theorem mV_X5_add : gq_MV yX5_add cX5_add 5 (some .int) 3 := ⟨wc_X5_add, wn_X5, wi_X5_add, ws_X5_add, ⟨by decide, by decide, by decide +kernel⟩⟩
theorem mV_X9_pay : gq_MV yX9_pay cX9_pay 4 (some .int) 2 := ⟨wc_X9_pay, wn_X9, wi_X9_pay, ws_X9_pay, ⟨by decide, by decide, by decide +kernel⟩⟩
theorem mV_X9_claim : gq_MV yX9_claim cX9_claim 4 (some .int) 2 := ⟨wc_X9_claim, wn_X9, wi_X9_claim, ws_X9_claim, ⟨by decide, by decide, by decide +kernel⟩⟩
theorem mV_X1_centsLacking : gq_MV yX1_centsLacking cX1_centsLacking 3 (some .int) 1 := ⟨wc_X1_centsLacking, wn_X1, wi_X1_centsLacking, ws_X1_centsLacking, ⟨by decide, by decide, by decide +kernel⟩⟩
theorem mV_X9_settle : gq_MV yX9_settle cX9_settle 8 (some .int) 3 := ⟨wc_X9_settle, wn_X9, wi_X9_settle, ws_X9_settle, ⟨by decide, by decide, by decide +kernel⟩⟩
theorem mV_X9_pass : gq_MV yX9_pass cX9_pass 3 (some .int) 1 := ⟨wc_X9_pass, wn_X9, wi_X9_pass, ws_X9_pass, ⟨by decide, by decide, by decide +kernel⟩⟩
theorem mV_X9_tickHalls : gq_MV yX9_tickHalls cX9_tickHalls 2 none 0 := ⟨wc_X9_tickHalls, wn_X9, wi_X9_tickHalls, ws_X9_tickHalls, ⟨by decide, by decide, by decide +kernel⟩⟩
theorem mV_X9_tickFalling : gq_MV yX9_tickFalling cX9_tickFalling 3 none 1 := ⟨wc_X9_tickFalling, wn_X9, wi_X9_tickFalling, ws_X9_tickFalling, ⟨by decide, by decide, by decide +kernel⟩⟩
theorem mV_X7_isAnyHeard : gq_MV yX7_isAnyHeard cX7_isAnyHeard 4 (some .boolean) 2 := ⟨wc_X7_isAnyHeard, wn_X7, wi_X7_isAnyHeard, ws_X7_isAnyHeard, ⟨by decide, by decide, by decide +kernel⟩⟩
theorem mV_X7_isHeard : gq_MV yX7_isHeard cX7_isHeard 4 (some .boolean) 3 := ⟨wc_X7_isHeard, wn_X7, wi_X7_isHeard, ws_X7_isHeard, ⟨by decide, by decide, by decide +kernel⟩⟩
theorem mV_X2_greatestDelay : gq_MV yX2_greatestDelay cX2_greatestDelay 3 (some .int) 0 := ⟨wc_X2_greatestDelay, wn_X2, wi_X2_greatestDelay, ws_X2_greatestDelay, ⟨by decide, by decide, by decide +kernel⟩⟩
theorem mV_X4_minimumOf : gq_MV yX4_minimumOf cX4_minimumOf 2 (some .int) 1 := ⟨wc_X4_minimumOf, wn_X4, wi_X4_minimumOf, ws_X4_minimumOf, ⟨by decide, by decide, by decide +kernel⟩⟩
theorem mS_X1_sizeOf : gq_MS yX1_sizeOf cX1_sizeOf 1 (some .int) 1 := ⟨wc_X1_sizeOf, wn_X1, wt_X1_sizeOf, ⟨by decide, by decide, by decide +kernel⟩⟩
theorem mV_X9_tickStanding : gq_MV yX9_tickStanding cX9_tickStanding 3 none 1 := ⟨wc_X9_tickStanding, wn_X9, wi_X9_tickStanding, ws_X9_tickStanding, ⟨by decide, by decide, by decide +kernel⟩⟩
theorem mV_X9_findWinner : gq_MV yX9_findWinner cX9_findWinner 5 (some .int) 1 := ⟨wc_X9_findWinner, wn_X9, wi_X9_findWinner, ws_X9_findWinner, ⟨by decide, by decide, by decide +kernel⟩⟩
theorem mV_X7_priceOf : gq_MV yX7_priceOf cX7_priceOf 3 (some .int) 2 := ⟨wc_X7_priceOf, wn_X7, wi_X7_priceOf, ws_X7_priceOf, ⟨by decide, by decide, by decide +kernel⟩⟩
theorem mV_X7_isAhead : gq_MV yX7_isAhead cX7_isAhead 6 (some .boolean) 3 := ⟨wc_X7_isAhead, wn_X7, wi_X7_isAhead, ws_X7_isAhead, ⟨by decide, by decide, by decide +kernel⟩⟩
theorem mV_X9_tickTaking : gq_MV yX9_tickTaking cX9_tickTaking 2 none 1 := ⟨wc_X9_tickTaking, wn_X9, wi_X9_tickTaking, ws_X9_tickTaking, ⟨by decide, by decide, by decide +kernel⟩⟩
theorem mV_X9_sendLorries : gq_MV yX9_sendLorries cX9_sendLorries 2 none 0 := ⟨wc_X9_sendLorries, wn_X9, wi_X9_sendLorries, ws_X9_sendLorries, ⟨by decide, by decide, by decide +kernel⟩⟩
theorem mV_X9_fetch : gq_MV yX9_fetch cX9_fetch 5 none 1 := ⟨wc_X9_fetch, wn_X9, wi_X9_fetch, ws_X9_fetch, ⟨by decide, by decide, by decide +kernel⟩⟩
theorem mV_X9_told : gq_MV yX9_told cX9_told 3 (some .int) 2 := ⟨wc_X9_told, wn_X9, wi_X9_told, ws_X9_told, ⟨by decide, by decide, by decide +kernel⟩⟩
theorem mV_X9_lot : gq_MV yX9_lot cX9_lot 3 (some .int) 2 := ⟨wc_X9_lot, wn_X9, wi_X9_lot, ws_X9_lot, ⟨by decide, by decide, by decide +kernel⟩⟩
theorem mV_X9_average : gq_MV yX9_average cX9_average 6 (some .int) 2 := ⟨wc_X9_average, wn_X9, wi_X9_average, ws_X9_average, ⟨by decide, by decide, by decide +kernel⟩⟩
theorem mV_X9_loaded : gq_MV yX9_loaded cX9_loaded 2 (some .int) 1 := ⟨wc_X9_loaded, wn_X9, wi_X9_loaded, ws_X9_loaded, ⟨by decide, by decide, by decide +kernel⟩⟩
theorem mS_L_begins : gq_MS yL_begins cL_begins 3 none 2 := ⟨wc_L_begins, wn_L, wt_L_begins, ⟨by decide, by decide, by decide +kernel⟩⟩
theorem mS_L_passes : gq_MS yL_passes cL_passes 17 none 13 := ⟨wc_L_passes, wn_L, wt_L_passes, ⟨by decide, by decide, by decide +kernel⟩⟩
theorem mS_L_ticks : gq_MS yL_ticks cL_ticks 20 none 13 := ⟨wc_L_ticks, wn_L, wt_L_ticks, ⟨by decide, by decide, by decide +kernel⟩⟩
theorem mS_L_hears : gq_MS yL_hears cL_hears 8 (some .boolean) 5 := ⟨wc_L_hears, wn_L, wt_L_hears, ⟨by decide, by decide, by decide +kernel⟩⟩
theorem mS_L_withdraws : gq_MS yL_withdraws cL_withdraws 12 (some .int) 6 := ⟨wc_L_withdraws, wn_L, wt_L_withdraws, ⟨by decide, by decide, by decide +kernel⟩⟩
theorem mS_L_isLeft : gq_MS yL_isLeft cL_isLeft 4 (some .boolean) 4 := ⟨wc_L_isLeft, wn_L, wt_L_isLeft, ⟨by decide, by decide, by decide +kernel⟩⟩
theorem mS_L_how : gq_MS yL_how cL_how 2 (some .int) 2 := ⟨wc_L_how, wn_L, wt_L_how, ⟨by decide, by decide, by decide +kernel⟩⟩
theorem mS_L_becomes : gq_MS yL_becomes cL_becomes 3 none 3 := ⟨wc_L_becomes, wn_L, wt_L_becomes, ⟨by decide, by decide, by decide +kernel⟩⟩
theorem mS_L_done : gq_MS yL_done cL_done 5 none 5 := ⟨wc_L_done, wn_L, wt_L_done, ⟨by decide, by decide, by decide +kernel⟩⟩
theorem mS_L_comes : gq_MS yL_comes cL_comes 7 none 5 := ⟨wc_L_comes, wn_L, wt_L_comes, ⟨by decide, by decide, by decide +kernel⟩⟩
theorem mS_L_first : gq_MS yL_first cL_first 5 (some .int) 4 := ⟨wc_L_first, wn_L, wt_L_first, ⟨by decide, by decide, by decide +kernel⟩⟩
theorem mS_L_costs : gq_MS yL_costs cL_costs 18 (some .int) 11 := ⟨wc_L_costs, wn_L, wt_L_costs, ⟨by decide, by decide, by decide +kernel⟩⟩
theorem mS_L_goesOn : gq_MS yL_goesOn cL_goesOn 7 none 7 := ⟨wc_L_goesOn, wn_L, wt_L_goesOn, ⟨by decide, by decide, by decide +kernel⟩⟩
theorem mS_L_left : gq_MS yL_left cL_left 6 (some .int) 4 := ⟨wc_L_left, wn_L, wt_L_left, ⟨by decide, by decide, by decide +kernel⟩⟩
theorem mS_L_isSo : gq_MS yL_isSo cL_isSo 20 (some .boolean) 13 := ⟨wc_L_isSo, wn_L, wt_L_isSo, ⟨by decide, by decide, by decide +kernel⟩⟩
theorem mV_X9_now : gq_MV yX9_now cX9_now 1 (some .int) 0 := ⟨wc_X9_now, wn_X9, wi_X9_now, ws_X9_now, ⟨by decide, by decide, by decide +kernel⟩⟩
theorem mV_X9_day : gq_MV yX9_day cX9_day 1 (some .int) 0 := ⟨wc_X9_day, wn_X9, wi_X9_day, ws_X9_day, ⟨by decide, by decide, by decide +kernel⟩⟩
theorem mV_X9_isOpen : gq_MV yX9_isOpen cX9_isOpen 1 (some .boolean) 0 := ⟨wc_X9_isOpen, wn_X9, wi_X9_isOpen, ws_X9_isOpen, ⟨by decide, by decide, by decide +kernel⟩⟩
theorem mV_X9_hall : gq_MV yX9_hall cX9_hall 3 (some .int) 2 := ⟨wc_X9_hall, wn_X9, wi_X9_hall, ws_X9_hall, ⟨by decide, by decide, by decide +kernel⟩⟩
theorem mV_X9_account : gq_MV yX9_account cX9_account 3 (some .int) 2 := ⟨wc_X9_account, wn_X9, wi_X9_account, ws_X9_account, ⟨by decide, by decide, by decide +kernel⟩⟩
theorem mV_X9_ship : gq_MV yX9_ship cX9_ship 3 (some .int) 2 := ⟨wc_X9_ship, wn_X9, wi_X9_ship, ws_X9_ship, ⟨by decide, by decide, by decide +kernel⟩⟩
theorem mV_X9_kilos : gq_MV yX9_kilos cX9_kilos 2 (some .int) 1 := ⟨wc_X9_kilos, wn_X9, wi_X9_kilos, ws_X9_kilos, ⟨by decide, by decide, by decide +kernel⟩⟩
theorem mS_L_kilos : gq_MS yL_kilos cL_kilos 8 (some .int) 4 := ⟨wc_L_kilos, wn_L, wt_L_kilos, ⟨by decide, by decide, by decide +kernel⟩⟩
theorem mV_X9_kilosAnew : gq_MV yX9_kilosAnew cX9_kilosAnew 4 (some .int) 1 := ⟨wc_X9_kilosAnew, wn_X9, wi_X9_kilosAnew, ws_X9_kilosAnew, ⟨by decide, by decide, by decide +kernel⟩⟩
theorem mS_L_isTold : gq_MS yL_isTold cL_isTold 23 (some .boolean) 12 := ⟨wc_L_isTold, wn_L, wt_L_isTold, ⟨by decide, by decide, by decide +kernel⟩⟩
theorem mV_X9_draw : gq_MV yX9_draw cX9_draw 3 (some .int) 1 := ⟨wc_X9_draw, wn_X9, wi_X9_draw, ws_X9_draw, ⟨by decide, by decide, by decide +kernel⟩⟩
theorem mS_L_sold : gq_MS yL_sold cL_sold 2 (some .int) 2 := ⟨wc_L_sold, wn_L, wt_L_sold, ⟨by decide, by decide, by decide +kernel⟩⟩
theorem mS_L_isSale : gq_MS yL_isSale cL_isSale 28 (some .boolean) 18 := ⟨wc_L_isSale, wn_L, wt_L_isSale, ⟨by decide, by decide, by decide +kernel⟩⟩
theorem mS_L_isToSell : gq_MS yL_isToSell cL_isToSell 2 (some .boolean) 2 := ⟨wc_L_isToSell, wn_L, wt_L_isToSell, ⟨by decide, by decide, by decide +kernel⟩⟩
theorem mS_L_opens : gq_MS yL_opens cL_opens 12 (some .int) 7 := ⟨wc_L_opens, wn_L, wt_L_opens, ⟨by decide, by decide, by decide +kernel⟩⟩
theorem mS_L_lots : gq_MS yL_lots cL_lots 10 none 5 := ⟨wc_L_lots, wn_L, wt_L_lots, ⟨by decide, by decide, by decide +kernel⟩⟩
