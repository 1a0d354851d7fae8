/-! the invariant between the class's contents and the reference's -/
def eqR (n : Nat) (f g : Nat → Int32) : Prop := ∀ j, j < n → f j = g j
def rng (a b : Nat) (v : Int32) : Prop := ∃ n : Nat, a ≤ n ∧ n ≤ b ∧ v = nI n
def rngs (n a b : Nat) (f : Nat → Int32) : Prop := ∀ j, j < n → rng a b (f j)
def bits (n : Nat) (f : Nat → Int32) : Prop := ∀ j, j < n → bit (f j)
def K_ld (c r : Nat → Int32) : Prop := ∀ j, j < 8 → c j = lsum (rg (4 * j) 4) r
def K_bg (nb : Nat) (c r : Nat → Int32) : Prop := ∀ j, j < 8 → c j = nI (cnt (rg 0 nb) fun b => decide (r b = nI j))
def K_rk (n : Nat) (c k s f : Nat → Int32) : Prop := ∀ b, b < n → ∃ x y z : Nat, x < 4 ∧ y < 3 ∧ 1 ≤ z ∧ z ≤ 9 ∧ k b = nI x ∧ s b = nI y ∧ f b = nI z ∧ c b = nI ((x * 3 + y) * 9 + (9 - z))
def K_sale (nb tn : Nat) (c1 r1 c2 r2 c3 r3 c4 r4 : Nat → Int32) : Prop := (∀ b, b < nb → c1 b = r1 b ∧ c2 b = r2 b ∧ ((r1 b = -1 ∧ c4 b = -1) ∨ (rng 0 7 (r1 b) ∧ rng 1 10000 (r2 b) ∧ c3 b = r3 b ∧ rng 0 tn (r3 b) ∧ c4 b = r4 b))) ∧ ∀ b, nb ≤ b → b < 150 → c1 b = -1 ∧ c2 b = -1 ∧ c4 b = -1
def smN (s : Int32) : Nat := if s = 1 then 4 else if s = 3 then 1 else if s = 4 then 1 else if s = 5 then 2 else if s = 7 then 3 else 5
def inS (s : Int32) (w : Nat) : Bool := decide (w = 0 ∨ smN s = w)
def K_sum (nb : Nat) (c st ki : Nat → Int32) : Prop := ∀ w, w < 6 → c w = lsum (rg 0 nb) fun b => if inS (st b) w = true then ki b else 0
def isSd (s : Int32) : Bool := decide (s = 3 ∨ s = 4 ∨ s = 5)
def K_mon (nb : Nat) (pu st cl : Nat → Int32) : Prop := ∀ j, j < 8 → (pu j).toInt ≤ 1000000 * (cnt (rg 0 nb) fun b => isSd (st b) : Nat) ∧ -(1000000 * (cnt (rg 0 nb) fun b => decide (cl b = 1) : Nat) : Int) ≤ (pu j).toInt
def K_sb (nb : Nat) (bu st : Nat → Int32) : Prop := ∀ b, b < nb → bu b = -1 ∨ st b = 3 ∨ st b = 4
def offl (nb : Nat) (lo st : Nat → Int32) (l : Nat) : List Nat := (rg 0 nb).filter fun b => decide (lo b = nI l ∧ st b = 2)
def K_seg1 (fi be od : Nat → Int32) (l : Nat) (L : List Nat) : Prop := ∃ f : Nat, fi l = nI f ∧ be l = nI (f + L.length) ∧ f + L.length ≤ 150 ∧ ∀ i b, L[i]? = some b → od (f + i) = nI b
def K_seg (nb nl : Nat) (fi be od lo st : Nat → Int32) : Prop := ∀ l, l < nl → K_seg1 fi be od l (offl nb lo st l)
def K_pr1 (tn st : Nat) (cP cT cC rP rC rK rH : Int32) : Prop := (cC = -1 ∧ rP = -1 ∧ rH = 0) ∨ (∃ t c p : Nat, rP = nI t ∧ t ≤ 100000 ∧ cT = nI t ∧ rC = nI c ∧ c ≤ 100009 ∧ cC = nI c ∧ rK = nI p ∧ 1 ≤ p ∧ p ≤ 10000 ∧ cP = nI p ∧ (rH = 0 ∨ rH = 1 ∧ st = 2 ∧ c ≤ tn))
def K_prs (h tn st : Nat) (cP cT cC rP rC rK rH : Nat → Int32) : Prop := ∀ j, j < 8 → K_pr1 tn st (cP (8 * h + j)) (cT (8 * h + j)) (cC (8 * h + j)) (rP (8 * h + j)) (rC (8 * h + j)) (rK (8 * h + j)) (rH (8 * h + j))
def isNd (lh dn : Nat → Int32) (h l : Nat) : Bool := decide (lh l = nI h ∧ dn l = 0)
def K_hall (h nb nl tn : Nat) (C R : gq_M) : Prop := C 78 h = R 35 h ∧ C 80 h = R 36 h ∧ C 82 h = R 37 h ∧ C 84 h = R 39 h ∧ C 86 h = nI (cnt (rg 0 nl) (isNd (R 31) (R 32) h)) ∧ (∀ l, l < nl → isNd (R 31) (R 32) h l = true → offl nb (R 26) (R 19) l ≠ []) ∧ ((R 35 h = 0 ∧ R 36 h = -1 ∧ R 37 h = 0 ∧ R 39 h = -1 ∧ ∀ l, l < nl → isNd (R 31) (R 32) h l = false) ∨ ∃ a p : Nat, a < nl ∧ R 36 h = nI a ∧ R 31 a = nI h ∧ (∀ l, l < nl → R 31 l = nI h → (R 32 l = 0 ↔ a ≤ l)) ∧ R 37 h = nI p ∧ 1 ≤ p ∧ p ≤ 10000 ∧ ((R 35 h = 1 ∧ R 39 h = -1 ∧ K_prs h tn 1 (C 95) (C 97) (C 99) (R 40) (R 41) (R 42) (R 43)) ∨ (R 35 h = 2 ∧ R 39 h = -1 ∧ C 88 h = R 38 h ∧ K_prs h tn 2 (C 95) (C 97) (C 99) (R 40) (R 41) (R 42) (R 43)) ∨ (R 35 h = 3 ∧ C 88 h = R 38 h ∧ rng 0 7 (R 39 h))))
def INV (C R : gq_M) : Prop := ∃ nb nl nr tn : Nat, (C 34 13 = nI nb ∧ R 0 16 = nI nb ∧ nb ≤ 150) ∧ (C 61 7 = nI nl ∧ R 0 31 = nI nl ∧ nl ≤ nb) ∧ (C 100 4 = nI nr ∧ R 0 49 = nI nr ∧ nr ≤ 20) ∧ (C 0 8 = nI tn ∧ R 0 0 = nI tn ∧ tn ≤ 100000) ∧ (C 0 9 = R 0 1) ∧ (C 0 10 = R 0 2 ∧ bit (R 0 2)) ∧ (C 0 11 = R 0 3) ∧ (eqR 32 (C 3) (R 1)) ∧ (eqR 8 (C 9) (R 3)) ∧ (eqR 8 (C 11) (R 4) ∧ bits 8 (R 4)) ∧ (eqR 8 (C 13) (R 5)) ∧ (eqR 32 (C 5) (R 2)) ∧ (K_ld (C 7) (R 2)) ∧ (∀ j, j < 8 → C 15 j = 0) ∧ (eqR 4 (C 18) (R 6) ∧ rngs 4 1 10000 (R 6)) ∧ (eqR 4 (C 20) (R 7) ∧ rngs 4 1 10000 (R 7)) ∧ (eqR 4 (C 22) (R 8) ∧ rngs 4 0 2 (R 8)) ∧ (eqR 8 (C 25) (R 9)) ∧ (eqR 8 (C 27) (R 10) ∧ rngs 8 1 9 (R 10)) ∧ (eqR 8 (C 29) (R 11)) ∧ (eqR 8 (C 33) (R 12) ∧ bits 8 (R 12)) ∧ (K_bg nb (C 31) (R 21)) ∧ (eqR 3 (C 90) (R 33) ∧ rngs 3 1 500 (R 33)) ∧ (eqR 3 (C 92) (R 34) ∧ bits 3 (R 34)) ∧ (eqR nb (C 36) (R 13) ∧ rngs nb 0 7 (R 13)) ∧ (eqR nb (C 40) (R 17) ∧ rngs nb 1 100 (R 17)) ∧ (eqR nb (C 42) (R 18) ∧ rngs nb 1 100 (R 18)) ∧ (eqR nb (C 44) (R 19) ∧ rngs nb 0 7 (R 19)) ∧ (K_rk nb (C 38) (R 14) (R 15) (R 16)) ∧ (eqR nb (C 46) (R 26) ∧ ∀ b, nb ≤ b → b < 150 → C 46 b = -1) ∧ (eqR nb (C 56) (R 20) ∧ bits 150 (R 20) ∧ ∀ b, nb ≤ b → b < 150 → C 56 b = 0 ∧ R 20 b = 0) ∧ (eqR nb (C 58) (R 25) ∧ bits 150 (R 25) ∧ ∀ b, nb ≤ b → b < 150 → C 58 b = 0 ∧ R 25 b = 0) ∧ (K_sale nb tn (C 48) (R 21) (C 50) (R 22) (C 52) (R 23) (C 54) (R 24)) ∧ (K_sum nb (C 60) (R 19) (R 17)) ∧ (K_mon nb (R 5) (R 19) (R 25)) ∧ (K_sb nb (R 21) (R 19)) ∧ (eqR nr (C 102) (R 44) ∧ eqR nr (C 104) (R 45) ∧ eqR nr (C 106) (R 46) ∧ eqR nr (C 108) (R 47) ∧ ∀ j, nr ≤ j → j < 20 → C 108 j = -1) ∧ (eqR nl (C 63) (R 27)) ∧ (K_rk nl (C 65) (R 28) (R 29) (R 30)) ∧ (eqR nl (C 67) (R 31) ∧ rngs nl 0 2 (R 31)) ∧ (bits 150 (R 32)) ∧ (K_seg nb nl (C 69) (C 71) (C 73) (R 26) (R 19)) ∧ (∀ b, b < nb → R 26 b = -1 ∨ ∃ l, l < nl ∧ R 26 b = nI l) ∧ (R 0 2 = 0 → nl = 0 ∧ C 61 8 = 0) ∧ (∀ h, h < 3 → K_hall h nb nl tn C R)
def OUT (kk : Nat → Option Int32) (c : Option (Nat × Int32 × gq_M)) (r : Option (Int32 × gq_M)) : Prop := ∃ (e : Nat) (v v2 : Int32) (C2 R2 : gq_M), c = some (e, v, C2) ∧ r = some (v2, R2) ∧ kk e = some (R2 0 54) ∧ (e = 0 → v = v2) ∧ INV C2 R2
def kA : Nat → Option Int32 := fun e => match e with | 0 => some 0 | 1 => some 1 | _ => none
def kB : Nat → Option Int32 := fun e => match e with | 0 => some 0 | 1 => some 1 | 2 => some 2 | _ => none
def kC : Nat → Option Int32 := fun e => match e with | 0 => some 0 | 1 => some 1 | 2 => some 2 | 3 => some 3 | _ => none
def kD : Nat → Option Int32 := fun e => match e with | 0 => some 0 | 3 => some 1 | _ => none
def kE : Nat → Option Int32 := fun e => match e with | 0 => some 0 | 1 => some 1 | 3 => some 2 | _ => none
def kF : Nat → Option Int32 := fun e => match e with | 0 => some 0 | 2 => some 1 | 3 => some 2 | _ => none
def kG : Nat → Option Int32 := fun e => match e with | 0 => some 0 | 2 => some 1 | _ => none
theorem inv_thr {C R : gq_M} {w : Int32} (H : INV C R) : INV C (thr R w) := by
  obtain ⟨nb, nl, nr, tn, hnb, hnl, hnr, htn, hda, hop, hdr, hqu, hai, hid, hac, hlk, hla, hwt, hks, hkm, hkh, hbg, hbd, hbo, hbl, hbb, hst, hpw, hxb, hxk, hxr, hxs, hxf, hxl, hxc, hxi, hxp, hsu, hmo, hsb, hlo, hlb, hlf, hlh, hld, hsg, hlr, hcl, hhl⟩ := H
  exact ⟨nb, nl, nr, tn, hnb, hnl, hnr, htn, hda, hop, hdr, hqu, hai, hid, hac, hlk, hla, hwt, hks, hkm, hkh, hbg, hbd, hbo, hbl, hbb, hst, hpw, hxb, hxk, hxr, hxs, hxf, hxl, hxc, hxi, hxp, hsu, hmo, hsb, hlo, hlb, hlf, hlh, hld, hsg, hlr, hcl, hhl⟩
theorem e8a (a : Int32) : (0 ≤ a ∧ a < 8) = vp_in a 8 := propext (ix_iff' (n := 7) (by omega))
theorem e8b (a : Int32) : (0 ≤ a ∧ a ≤ 7) = vp_in a 8 := propext (ix_iff (n := 7) (by omega))
theorem e4a (a : Int32) : (0 ≤ a ∧ a < 4) = vp_in a 4 := propext (ix_iff' (n := 3) (by omega))
theorem e4b (a : Int32) : (0 ≤ a ∧ a ≤ 3) = vp_in a 4 := propext (ix_iff (n := 3) (by omega))
theorem e3a (a : Int32) : (0 ≤ a ∧ a < 3) = vp_in a 3 := propext (ix_iff' (n := 2) (by omega))
theorem e3b (a : Int32) : (0 ≤ a ∧ a ≤ 2) = vp_in a 3 := propext (ix_iff (n := 2) (by omega))
theorem ena {a : Int32} {n : Nat} (h : n < 2 ^ 31) : (0 ≤ a ∧ a < nI n) = vp_in a n := by
  apply propext
  rw [vp_in_iff, Int32.lt_iff_toInt_lt, Int32.le_iff_toInt_le, nI_toInt h]
  exact Iff.rfl
theorem enb {a : Int32} {n : Nat} (h : n < 2 ^ 31) : (0 ≤ a ∧ a ≤ nI n - 1) = vp_in a n := by
  apply propext
  rcases n with _ | n
  · rw [vp_in_iff, Int32.le_iff_toInt_le, Int32.le_iff_toInt_le]
    have h1 : (nI 0 - 1).toInt = -1 := rfl
    have h2 : (0 : Int32).toInt = 0 := rfl
    omega
  · rw [nI_pred, ix_iff h]
