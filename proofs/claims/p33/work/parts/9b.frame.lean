/-! the law's own methods leave the class's cells as they are -/
def E9 (M M0 : gq_M) : Prop := ∀ a, a < 109 → M a = M0 a
def FB (M0 : gq_M) (o : Option (Int32 × gq_M)) : Prop := ∀ v M2, o = some (v, M2) → E9 M2 M0
section
variable {M0 M : gq_M}
theorem e9_r : E9 M M := fun _ _ => rfl
theorem e9_up {k j : Nat} {v : Int32} (h : E9 M M0) (hk : 109 ≤ k) : E9 (gq_up M k j v) M0 := fun a ha => (up_ne (by omega)).trans (h a ha)
theorem fb_s {v : Int32} (h : E9 M M0) : FB M0 (some (v, M)) := fun v2 M2 e => by cases e; exact h
theorem fb_n : FB M0 none := fun v2 M2 e => by cases e
theorem fb_g {b : Bool} {o : Option (Int32 × gq_M)} (h : FB M0 o) : FB M0 (gq_g b o) := by
  cases b
  · exact fb_n
  · exact h
theorem fb_i {c : Prop} [Decidable c] {x y : Option (Int32 × gq_M)} (h : FB M0 x) (h2 : FB M0 y) : FB M0 (if c then x else y) := by
  split
  · exact h
  · exact h2
theorem fb_b {o : Option (Int32 × gq_M)} {f : Int32 → gq_M → Option (Int32 × gq_M)} (h : FB M0 o) (h2 : ∀ v M1, E9 M1 M0 → FB M0 (f v M1)) : FB M0 (gq_b o f) := by
  intro v2 M2 e
  obtain ⟨v, M1, e1, e2⟩ := gq_b_i e
  exact h2 v M1 (h v M1 e1) v2 M2 e2
theorem fb_l {α : Type} {x : α} {f : α → Option (Int32 × gq_M)} (h : FB M0 (f x)) : FB M0 (gq_l x f) := h
theorem e9_fb {o : Option (Int32 × gq_M)} {v : Int32} {M2 : gq_M} (h : FB M0 o) (e : o = some (v, M2)) : E9 M2 M0 := h v M2 e
theorem fq_how {N : Nat} {a1 : Int32}  (h : E9 M M0) : FB M0 (f_L_how N a1 M) := by
  unfold f_L_how
  repeat' first | (with_reducible refine fb_g ?_) | (with_reducible refine fb_i ?_ ?_) | (with_reducible refine fb_b ?_ (fun _ _ _ => ?_)) | (with_reducible refine fb_l ?_) | (with_reducible refine fb_s ?_; (repeat first | assumption | refine e9_up ?_ (by decide)))
theorem fq_becomes {N : Nat} {a1 : Int32} {a2 : Int32}  (h : E9 M M0) : FB M0 (f_L_becomes N a1 a2 M) := by
  unfold f_L_becomes
  repeat' first | (with_reducible refine fb_g ?_) | (with_reducible refine fb_i ?_ ?_) | (with_reducible refine fb_b ?_ (fun _ _ _ => ?_)) | (with_reducible refine fb_l ?_) | (with_reducible refine fb_s ?_; (repeat first | assumption | refine e9_up ?_ (by decide))) | (with_reducible apply fq_how <;> first | assumption | (repeat first | assumption | refine e9_up ?_ (by decide)))
theorem fq_isLeft_21 {N : Nat} {s0 : Int32}  (h : E9 M M0) : FB M0 (f_L_isLeft_21 N s0 M) := by
  unfold f_L_isLeft_21
  repeat' first | (with_reducible refine fb_g ?_) | (with_reducible refine fb_i ?_ ?_) | (with_reducible refine fb_b ?_ (fun _ _ _ => ?_)) | (with_reducible refine fb_l ?_) | (with_reducible refine fb_s ?_; (repeat first | assumption | refine e9_up ?_ (by decide)))
theorem fq_isLeft_20 {N : Nat}  (h : E9 M M0) : FB M0 (f_L_isLeft_20 N M) := by
  unfold f_L_isLeft_20
  repeat' first | (with_reducible refine fb_g ?_) | (with_reducible refine fb_i ?_ ?_) | (with_reducible refine fb_b ?_ (fun _ _ _ => ?_)) | (with_reducible refine fb_l ?_) | (with_reducible refine fb_s ?_; (repeat first | assumption | refine e9_up ?_ (by decide))) | (with_reducible apply fq_isLeft_21 <;> first | assumption | (repeat first | assumption | refine e9_up ?_ (by decide)))
theorem fq_isLeft {N : Nat} {a2 : Int32} {a3 : Int32}  (h : E9 M M0) : FB M0 (f_L_isLeft N a2 a3 M) := by
  unfold f_L_isLeft
  repeat' first | (with_reducible refine fb_g ?_) | (with_reducible refine fb_i ?_ ?_) | (with_reducible refine fb_b ?_ (fun _ _ _ => ?_)) | (with_reducible refine fb_l ?_) | (with_reducible refine fb_s ?_; (repeat first | assumption | refine e9_up ?_ (by decide))) | (with_reducible apply fq_how <;> first | assumption | (repeat first | assumption | refine e9_up ?_ (by decide))) | (with_reducible apply fq_isLeft_21 <;> first | assumption | (repeat first | assumption | refine e9_up ?_ (by decide))) | (with_reducible apply fq_isLeft_20 <;> first | assumption | (repeat first | assumption | refine e9_up ?_ (by decide)))
theorem fq_left_32 {N : Nat} {kh6 : Int32 → Int32 → Int32 → gq_M → Option (Int32 × gq_M)} {x3 : Int32} {x5 : Int32} {s0 : Int32} {s1 : Int32} (hkh6 : ∀ x0 x1 x2 M, E9 M M0 → FB M0 (kh6 x0 x1 x2 M)) (h : E9 M M0) : FB M0 (f_L_left_32 N kh6 x3 x5 s0 s1 M) := by
  unfold f_L_left_32
  repeat' first | (with_reducible refine fb_g ?_) | (with_reducible refine fb_i ?_ ?_) | (with_reducible refine fb_b ?_ (fun _ _ _ => ?_)) | (with_reducible refine fb_l ?_) | (with_reducible refine fb_s ?_; (repeat first | assumption | refine e9_up ?_ (by decide))) | (with_reducible apply hkh6; (repeat first | assumption | refine e9_up ?_ (by decide)))
theorem fq_left_6_b {N : Nat} {kh6 : Int32 → Int32 → Int32 → gq_M → Option (Int32 × gq_M)} {x3 : Int32} {x4 : Int32} {x5 : Int32} (hkh6 : ∀ x0 x1 x2 M, E9 M M0 → FB M0 (kh6 x0 x1 x2 M)) (h : E9 M M0) : FB M0 (f_L_left_6_b N kh6 x3 x4 x5 M) := by
  unfold f_L_left_6_b
  repeat' first | (with_reducible refine fb_g ?_) | (with_reducible refine fb_i ?_ ?_) | (with_reducible refine fb_b ?_ (fun _ _ _ => ?_)) | (with_reducible refine fb_l ?_) | (with_reducible refine fb_s ?_; (repeat first | assumption | refine e9_up ?_ (by decide))) | (with_reducible apply fq_isLeft <;> first | assumption | (repeat first | assumption | refine e9_up ?_ (by decide))) | (with_reducible apply fq_left_32 <;> first | assumption | (repeat first | assumption | refine e9_up ?_ (by decide))) | (with_reducible apply hkh6; (repeat first | assumption | refine e9_up ?_ (by decide)))
theorem fq_left_6 {N : Nat}  : ∀ (n : Nat) x0 x1 x2 M, E9 M M0 → FB M0 (f_L_left_6 N n x0 x1 x2 M) := by
  intro n
  induction n with
  | zero => intro x0 x1 x2 M h; exact fb_n
  | succ n ih => intro x0 x1 x2 M h; exact fq_left_6_b  ih h
theorem fq_left {N : Nat} {a3 : Int32}  (h : E9 M M0) : FB M0 (f_L_left N a3 M) := by
  unfold f_L_left
  repeat' first | (with_reducible refine fb_g ?_) | (with_reducible refine fb_i ?_ ?_) | (with_reducible refine fb_b ?_ (fun _ _ _ => ?_)) | (with_reducible refine fb_l ?_) | (with_reducible refine fb_s ?_; (repeat first | assumption | refine e9_up ?_ (by decide))) | (with_reducible apply fq_left_6 <;> first | assumption | (repeat first | assumption | refine e9_up ?_ (by decide)))
theorem fq_first_30 {N : Nat} {x4 : Int32}  (h : E9 M M0) : FB M0 (f_L_first_30 N x4 M) := by
  unfold f_L_first_30
  repeat' first | (with_reducible refine fb_g ?_) | (with_reducible refine fb_i ?_ ?_) | (with_reducible refine fb_b ?_ (fun _ _ _ => ?_)) | (with_reducible refine fb_l ?_) | (with_reducible refine fb_s ?_; (repeat first | assumption | refine e9_up ?_ (by decide)))
theorem fq_first_3_b {N : Nat} {kh3 : Int32 → Int32 → gq_M → Option (Int32 × gq_M)} {x3 : Int32} {x4 : Int32} (hkh3 : ∀ x0 x1 M, E9 M M0 → FB M0 (kh3 x0 x1 M)) (h : E9 M M0) : FB M0 (f_L_first_3_b N kh3 x3 x4 M) := by
  unfold f_L_first_3_b
  repeat' first | (with_reducible refine fb_g ?_) | (with_reducible refine fb_i ?_ ?_) | (with_reducible refine fb_b ?_ (fun _ _ _ => ?_)) | (with_reducible refine fb_l ?_) | (with_reducible refine fb_s ?_; (repeat first | assumption | refine e9_up ?_ (by decide))) | (with_reducible apply fq_first_30 <;> first | assumption | (repeat first | assumption | refine e9_up ?_ (by decide))) | (with_reducible apply fq_isLeft <;> first | assumption | (repeat first | assumption | refine e9_up ?_ (by decide))) | (with_reducible apply hkh3; (repeat first | assumption | refine e9_up ?_ (by decide)))
theorem fq_first_3 {N : Nat}  : ∀ (n : Nat) x0 x1 M, E9 M M0 → FB M0 (f_L_first_3 N n x0 x1 M) := by
  intro n
  induction n with
  | zero => intro x0 x1 M h; exact fb_n
  | succ n ih => intro x0 x1 M h; exact fq_first_3_b  ih h
theorem fq_first {N : Nat} {a3 : Int32}  (h : E9 M M0) : FB M0 (f_L_first N a3 M) := by
  unfold f_L_first
  repeat' first | (with_reducible refine fb_g ?_) | (with_reducible refine fb_i ?_ ?_) | (with_reducible refine fb_b ?_ (fun _ _ _ => ?_)) | (with_reducible refine fb_l ?_) | (with_reducible refine fb_s ?_; (repeat first | assumption | refine e9_up ?_ (by decide))) | (with_reducible apply fq_first_3 <;> first | assumption | (repeat first | assumption | refine e9_up ?_ (by decide)))
theorem fq_begins_2_b {N : Nat} {kh2 : Int32 → Int32 → gq_M → Option (Int32 × gq_M)} {x1 : Int32} {x2 : Int32} (hkh2 : ∀ x0 x1 M, E9 M M0 → FB M0 (kh2 x0 x1 M)) (h : E9 M M0) : FB M0 (f_L_begins_2_b N kh2 x1 x2 M) := by
  unfold f_L_begins_2_b
  repeat' first | (with_reducible refine fb_g ?_) | (with_reducible refine fb_i ?_ ?_) | (with_reducible refine fb_b ?_ (fun _ _ _ => ?_)) | (with_reducible refine fb_l ?_) | (with_reducible refine fb_s ?_; (repeat first | assumption | refine e9_up ?_ (by decide))) | (with_reducible apply hkh2; (repeat first | assumption | refine e9_up ?_ (by decide)))
theorem fq_begins_2 {N : Nat}  : ∀ (n : Nat) x0 x1 M, E9 M M0 → FB M0 (f_L_begins_2 N n x0 x1 M) := by
  intro n
  induction n with
  | zero => intro x0 x1 M h; exact fb_n
  | succ n ih => intro x0 x1 M h; exact fq_begins_2_b  ih h
theorem fq_begins {N : Nat} {a1 : Int32}  (h : E9 M M0) : FB M0 (f_L_begins N a1 M) := by
  unfold f_L_begins
  repeat' first | (with_reducible refine fb_g ?_) | (with_reducible refine fb_i ?_ ?_) | (with_reducible refine fb_b ?_ (fun _ _ _ => ?_)) | (with_reducible refine fb_l ?_) | (with_reducible refine fb_s ?_; (repeat first | assumption | refine e9_up ?_ (by decide))) | (with_reducible apply fq_begins_2 <;> first | assumption | (repeat first | assumption | refine e9_up ?_ (by decide)))
theorem fq_comes_137 {N : Nat} {x4 : Int32} {s1 : Int32} {s2 : Int32}  (h : E9 M M0) : FB M0 (f_L_comes_137 N x4 s1 s2 M) := by
  unfold f_L_comes_137
  repeat' first | (with_reducible refine fb_g ?_) | (with_reducible refine fb_i ?_ ?_) | (with_reducible refine fb_b ?_ (fun _ _ _ => ?_)) | (with_reducible refine fb_l ?_) | (with_reducible refine fb_s ?_; (repeat first | assumption | refine e9_up ?_ (by decide))) | (with_reducible apply fq_begins <;> first | assumption | (repeat first | assumption | refine e9_up ?_ (by decide)))
theorem fq_comes_125 {N : Nat} {x4 : Int32} {s1 : Int32} {s3 : Int32} {s5 : Int32}  (h : E9 M M0) : FB M0 (f_L_comes_125 N x4 s1 s3 s5 M) := by
  unfold f_L_comes_125
  repeat' first | (with_reducible refine fb_g ?_) | (with_reducible refine fb_i ?_ ?_) | (with_reducible refine fb_b ?_ (fun _ _ _ => ?_)) | (with_reducible refine fb_l ?_) | (with_reducible refine fb_s ?_; (repeat first | assumption | refine e9_up ?_ (by decide))) | (with_reducible apply fq_comes_137 <;> first | assumption | (repeat first | assumption | refine e9_up ?_ (by decide)))
theorem fq_comes_93 {N : Nat} {x4 : Int32} {x5 : Int32} {x6 : Int32} {s1 : Int32} {s2 : Int32}  (h : E9 M M0) : FB M0 (f_L_comes_93 N x4 x5 x6 s1 s2 M) := by
  unfold f_L_comes_93
  repeat' first | (with_reducible refine fb_g ?_) | (with_reducible refine fb_i ?_ ?_) | (with_reducible refine fb_b ?_ (fun _ _ _ => ?_)) | (with_reducible refine fb_l ?_) | (with_reducible refine fb_s ?_; (repeat first | assumption | refine e9_up ?_ (by decide))) | (with_reducible apply fq_comes_137 <;> first | assumption | (repeat first | assumption | refine e9_up ?_ (by decide))) | (with_reducible apply fq_comes_125 <;> first | assumption | (repeat first | assumption | refine e9_up ?_ (by decide)))
theorem fq_comes_73 {N : Nat} {x4 : Int32} {x5 : Int32} {x6 : Int32} {s1 : Int32} {s2 : Int32}  (h : E9 M M0) : FB M0 (f_L_comes_73 N x4 x5 x6 s1 s2 M) := by
  unfold f_L_comes_73
  repeat' first | (with_reducible refine fb_g ?_) | (with_reducible refine fb_i ?_ ?_) | (with_reducible refine fb_b ?_ (fun _ _ _ => ?_)) | (with_reducible refine fb_l ?_) | (with_reducible refine fb_s ?_; (repeat first | assumption | refine e9_up ?_ (by decide))) | (with_reducible apply fq_comes_93 <;> first | assumption | (repeat first | assumption | refine e9_up ?_ (by decide)))
theorem fq_comes_55 {N : Nat} {x4 : Int32} {x5 : Int32} {s0 : Int32}  (h : E9 M M0) : FB M0 (f_L_comes_55 N x4 x5 s0 M) := by
  unfold f_L_comes_55
  repeat' first | (with_reducible refine fb_g ?_) | (with_reducible refine fb_i ?_ ?_) | (with_reducible refine fb_b ?_ (fun _ _ _ => ?_)) | (with_reducible refine fb_l ?_) | (with_reducible refine fb_s ?_; (repeat first | assumption | refine e9_up ?_ (by decide))) | (with_reducible apply fq_comes_73 <;> first | assumption | (repeat first | assumption | refine e9_up ?_ (by decide)))
theorem fq_comes_42 {N : Nat} {x4 : Int32} {x5 : Int32}  (h : E9 M M0) : FB M0 (f_L_comes_42 N x4 x5 M) := by
  unfold f_L_comes_42
  repeat' first | (with_reducible refine fb_g ?_) | (with_reducible refine fb_i ?_ ?_) | (with_reducible refine fb_b ?_ (fun _ _ _ => ?_)) | (with_reducible refine fb_l ?_) | (with_reducible refine fb_s ?_; (repeat first | assumption | refine e9_up ?_ (by decide))) | (with_reducible apply fq_comes_55 <;> first | assumption | (repeat first | assumption | refine e9_up ?_ (by decide)))
theorem fq_comes_36 {N : Nat} {kh3 : Int32 → Int32 → gq_M → Option (Int32 × gq_M)} {x4 : Int32} {x5 : Int32} (hkh3 : ∀ x0 x1 M, E9 M M0 → FB M0 (kh3 x0 x1 M)) (h : E9 M M0) : FB M0 (f_L_comes_36 N kh3 x4 x5 M) := by
  unfold f_L_comes_36
  repeat' first | (with_reducible refine fb_g ?_) | (with_reducible refine fb_i ?_ ?_) | (with_reducible refine fb_b ?_ (fun _ _ _ => ?_)) | (with_reducible refine fb_l ?_) | (with_reducible refine fb_s ?_; (repeat first | assumption | refine e9_up ?_ (by decide))) | (with_reducible apply hkh3; (repeat first | assumption | refine e9_up ?_ (by decide)))
theorem fq_comes_3_b {N : Nat} {kh3 : Int32 → Int32 → gq_M → Option (Int32 × gq_M)} {x4 : Int32} {x5 : Int32} (hkh3 : ∀ x0 x1 M, E9 M M0 → FB M0 (kh3 x0 x1 M)) (h : E9 M M0) : FB M0 (f_L_comes_3_b N kh3 x4 x5 M) := by
  unfold f_L_comes_3_b
  repeat' first | (with_reducible refine fb_g ?_) | (with_reducible refine fb_i ?_ ?_) | (with_reducible refine fb_b ?_ (fun _ _ _ => ?_)) | (with_reducible refine fb_l ?_) | (with_reducible refine fb_s ?_; (repeat first | assumption | refine e9_up ?_ (by decide))) | (with_reducible apply fq_comes_42 <;> first | assumption | (repeat first | assumption | refine e9_up ?_ (by decide))) | (with_reducible apply fq_comes_36 <;> first | assumption | (repeat first | assumption | refine e9_up ?_ (by decide))) | (with_reducible apply hkh3; (repeat first | assumption | refine e9_up ?_ (by decide)))
theorem fq_comes_3 {N : Nat}  : ∀ (n : Nat) x0 x1 M, E9 M M0 → FB M0 (f_L_comes_3 N n x0 x1 M) := by
  intro n
  induction n with
  | zero => intro x0 x1 M h; exact fb_n
  | succ n ih => intro x0 x1 M h; exact fq_comes_3_b  ih h
theorem fq_comes {N : Nat} {a4 : Int32}  (h : E9 M M0) : FB M0 (f_L_comes N a4 M) := by
  unfold f_L_comes
  repeat' first | (with_reducible refine fb_g ?_) | (with_reducible refine fb_i ?_ ?_) | (with_reducible refine fb_b ?_ (fun _ _ _ => ?_)) | (with_reducible refine fb_l ?_) | (with_reducible refine fb_s ?_; (repeat first | assumption | refine e9_up ?_ (by decide))) | (with_reducible apply fq_comes_3 <;> first | assumption | (repeat first | assumption | refine e9_up ?_ (by decide)))
theorem fq_withdraws_195 {N : Nat} {kh6 : Int32 → Int32 → Int32 → gq_M → Option (Int32 × gq_M)} {x5 : Int32} {x6 : Int32} {x7 : Int32} (hkh6 : ∀ x0 x1 x2 M, E9 M M0 → FB M0 (kh6 x0 x1 x2 M)) (h : E9 M M0) : FB M0 (f_L_withdraws_195 N kh6 x5 x6 x7 M) := by
  unfold f_L_withdraws_195
  repeat' first | (with_reducible refine fb_g ?_) | (with_reducible refine fb_i ?_ ?_) | (with_reducible refine fb_b ?_ (fun _ _ _ => ?_)) | (with_reducible refine fb_l ?_) | (with_reducible refine fb_s ?_; (repeat first | assumption | refine e9_up ?_ (by decide))) | (with_reducible apply hkh6; (repeat first | assumption | refine e9_up ?_ (by decide)))
theorem fq_withdraws_190 {N : Nat} {kh6 : Int32 → Int32 → Int32 → gq_M → Option (Int32 × gq_M)} {x5 : Int32} {x6 : Int32} {x7 : Int32} {s1 : Int32} {s2 : Int32} {s3 : Int32} (hkh6 : ∀ x0 x1 x2 M, E9 M M0 → FB M0 (kh6 x0 x1 x2 M)) (h : E9 M M0) : FB M0 (f_L_withdraws_190 N kh6 x5 x6 x7 s1 s2 s3 M) := by
  unfold f_L_withdraws_190
  repeat' first | (with_reducible refine fb_g ?_) | (with_reducible refine fb_i ?_ ?_) | (with_reducible refine fb_b ?_ (fun _ _ _ => ?_)) | (with_reducible refine fb_l ?_) | (with_reducible refine fb_s ?_; (repeat first | assumption | refine e9_up ?_ (by decide))) | (with_reducible apply fq_withdraws_195 <;> first | assumption | (repeat first | assumption | refine e9_up ?_ (by decide))) | (with_reducible apply hkh6; (repeat first | assumption | refine e9_up ?_ (by decide)))
theorem fq_withdraws_170 {N : Nat} {kh6 : Int32 → Int32 → Int32 → gq_M → Option (Int32 × gq_M)} {x5 : Int32} {x6 : Int32} {x7 : Int32} {x11 : Int32} {s1 : Int32} {s2 : Int32} (hkh6 : ∀ x0 x1 x2 M, E9 M M0 → FB M0 (kh6 x0 x1 x2 M)) (h : E9 M M0) : FB M0 (f_L_withdraws_170 N kh6 x5 x6 x7 x11 s1 s2 M) := by
  unfold f_L_withdraws_170
  repeat' first | (with_reducible refine fb_g ?_) | (with_reducible refine fb_i ?_ ?_) | (with_reducible refine fb_b ?_ (fun _ _ _ => ?_)) | (with_reducible refine fb_l ?_) | (with_reducible refine fb_s ?_; (repeat first | assumption | refine e9_up ?_ (by decide))) | (with_reducible apply fq_becomes <;> first | assumption | (repeat first | assumption | refine e9_up ?_ (by decide))) | (with_reducible apply fq_withdraws_190 <;> first | assumption | (repeat first | assumption | refine e9_up ?_ (by decide))) | (with_reducible apply hkh6; (repeat first | assumption | refine e9_up ?_ (by decide)))
theorem fq_withdraws_144 {N : Nat} {kh6 : Int32 → Int32 → Int32 → gq_M → Option (Int32 × gq_M)} {x5 : Int32} {x6 : Int32} {x7 : Int32} {x10 : Int32} {x11 : Int32} {s1 : Int32} {s2 : Int32} {s3 : Int32} (hkh6 : ∀ x0 x1 x2 M, E9 M M0 → FB M0 (kh6 x0 x1 x2 M)) (h : E9 M M0) : FB M0 (f_L_withdraws_144 N kh6 x5 x6 x7 x10 x11 s1 s2 s3 M) := by
  unfold f_L_withdraws_144
  repeat' first | (with_reducible refine fb_g ?_) | (with_reducible refine fb_i ?_ ?_) | (with_reducible refine fb_b ?_ (fun _ _ _ => ?_)) | (with_reducible refine fb_l ?_) | (with_reducible refine fb_s ?_; (repeat first | assumption | refine e9_up ?_ (by decide))) | (with_reducible apply fq_withdraws_170 <;> first | assumption | (repeat first | assumption | refine e9_up ?_ (by decide))) | (with_reducible apply hkh6; (repeat first | assumption | refine e9_up ?_ (by decide)))
theorem fq_withdraws_119 {N : Nat} {kh6 : Int32 → Int32 → Int32 → gq_M → Option (Int32 × gq_M)} {x5 : Int32} {x6 : Int32} {x7 : Int32} {x8 : Int32} {x9 : Int32} {x10 : Int32} {x11 : Int32} {s1 : Int32} {s2 : Int32} {s3 : Int32} (hkh6 : ∀ x0 x1 x2 M, E9 M M0 → FB M0 (kh6 x0 x1 x2 M)) (h : E9 M M0) : FB M0 (f_L_withdraws_119 N kh6 x5 x6 x7 x8 x9 x10 x11 s1 s2 s3 M) := by
  unfold f_L_withdraws_119
  repeat' first | (with_reducible refine fb_g ?_) | (with_reducible refine fb_i ?_ ?_) | (with_reducible refine fb_b ?_ (fun _ _ _ => ?_)) | (with_reducible refine fb_l ?_) | (with_reducible refine fb_s ?_; (repeat first | assumption | refine e9_up ?_ (by decide))) | (with_reducible apply fq_withdraws_144 <;> first | assumption | (repeat first | assumption | refine e9_up ?_ (by decide))) | (with_reducible apply hkh6; (repeat first | assumption | refine e9_up ?_ (by decide)))
theorem fq_withdraws_100 {N : Nat} {kh6 : Int32 → Int32 → Int32 → gq_M → Option (Int32 × gq_M)} {x5 : Int32} {x6 : Int32} {x7 : Int32} {x8 : Int32} {x9 : Int32} {x10 : Int32} {s0 : Int32} (hkh6 : ∀ x0 x1 x2 M, E9 M M0 → FB M0 (kh6 x0 x1 x2 M)) (h : E9 M M0) : FB M0 (f_L_withdraws_100 N kh6 x5 x6 x7 x8 x9 x10 s0 M) := by
  unfold f_L_withdraws_100
  repeat' first | (with_reducible refine fb_g ?_) | (with_reducible refine fb_i ?_ ?_) | (with_reducible refine fb_b ?_ (fun _ _ _ => ?_)) | (with_reducible refine fb_l ?_) | (with_reducible refine fb_s ?_; (repeat first | assumption | refine e9_up ?_ (by decide))) | (with_reducible apply fq_withdraws_119 <;> first | assumption | (repeat first | assumption | refine e9_up ?_ (by decide))) | (with_reducible apply hkh6; (repeat first | assumption | refine e9_up ?_ (by decide)))
theorem fq_withdraws_99 {N : Nat} {kh6 : Int32 → Int32 → Int32 → gq_M → Option (Int32 × gq_M)} {x5 : Int32} {x6 : Int32} {x7 : Int32} {x8 : Int32} {x9 : Int32} {x10 : Int32} (hkh6 : ∀ x0 x1 x2 M, E9 M M0 → FB M0 (kh6 x0 x1 x2 M)) (h : E9 M M0) : FB M0 (f_L_withdraws_99 N kh6 x5 x6 x7 x8 x9 x10 M) := by
  unfold f_L_withdraws_99
  repeat' first | (with_reducible refine fb_g ?_) | (with_reducible refine fb_i ?_ ?_) | (with_reducible refine fb_b ?_ (fun _ _ _ => ?_)) | (with_reducible refine fb_l ?_) | (with_reducible refine fb_s ?_; (repeat first | assumption | refine e9_up ?_ (by decide))) | (with_reducible apply fq_withdraws_100 <;> first | assumption | (repeat first | assumption | refine e9_up ?_ (by decide))) | (with_reducible apply hkh6; (repeat first | assumption | refine e9_up ?_ (by decide)))
theorem fq_withdraws_60 {N : Nat} {kh6 : Int32 → Int32 → Int32 → gq_M → Option (Int32 × gq_M)} {x5 : Int32} {x6 : Int32} {x7 : Int32} {x8 : Int32} {x9 : Int32} {s0 : Int32} (hkh6 : ∀ x0 x1 x2 M, E9 M M0 → FB M0 (kh6 x0 x1 x2 M)) (h : E9 M M0) : FB M0 (f_L_withdraws_60 N kh6 x5 x6 x7 x8 x9 s0 M) := by
  unfold f_L_withdraws_60
  repeat' first | (with_reducible refine fb_g ?_) | (with_reducible refine fb_i ?_ ?_) | (with_reducible refine fb_b ?_ (fun _ _ _ => ?_)) | (with_reducible refine fb_l ?_) | (with_reducible refine fb_s ?_; (repeat first | assumption | refine e9_up ?_ (by decide))) | (with_reducible apply fq_withdraws_99 <;> first | assumption | (repeat first | assumption | refine e9_up ?_ (by decide))) | (with_reducible apply fq_withdraws_100 <;> first | assumption | (repeat first | assumption | refine e9_up ?_ (by decide))) | (with_reducible apply hkh6; (repeat first | assumption | refine e9_up ?_ (by decide)))
theorem fq_withdraws_6_b {N : Nat} {kh6 : Int32 → Int32 → Int32 → gq_M → Option (Int32 × gq_M)} {x5 : Int32} {x6 : Int32} {x7 : Int32} (hkh6 : ∀ x0 x1 x2 M, E9 M M0 → FB M0 (kh6 x0 x1 x2 M)) (h : E9 M M0) : FB M0 (f_L_withdraws_6_b N kh6 x5 x6 x7 M) := by
  unfold f_L_withdraws_6_b
  repeat' first | (with_reducible refine fb_g ?_) | (with_reducible refine fb_i ?_ ?_) | (with_reducible refine fb_b ?_ (fun _ _ _ => ?_)) | (with_reducible refine fb_l ?_) | (with_reducible refine fb_s ?_; (repeat first | assumption | refine e9_up ?_ (by decide))) | (with_reducible apply fq_isLeft <;> first | assumption | (repeat first | assumption | refine e9_up ?_ (by decide))) | (with_reducible apply fq_withdraws_195 <;> first | assumption | (repeat first | assumption | refine e9_up ?_ (by decide))) | (with_reducible apply fq_withdraws_60 <;> first | assumption | (repeat first | assumption | refine e9_up ?_ (by decide))) | (with_reducible apply hkh6; (repeat first | assumption | refine e9_up ?_ (by decide)))
theorem fq_withdraws_6 {N : Nat}  : ∀ (n : Nat) x0 x1 x2 M, E9 M M0 → FB M0 (f_L_withdraws_6 N n x0 x1 x2 M) := by
  intro n
  induction n with
  | zero => intro x0 x1 x2 M h; exact fb_n
  | succ n ih => intro x0 x1 x2 M h; exact fq_withdraws_6_b  ih h
theorem fq_withdraws {N : Nat} {a5 : Int32}  (h : E9 M M0) : FB M0 (f_L_withdraws N a5 M) := by
  unfold f_L_withdraws
  repeat' first | (with_reducible refine fb_g ?_) | (with_reducible refine fb_i ?_ ?_) | (with_reducible refine fb_b ?_ (fun _ _ _ => ?_)) | (with_reducible refine fb_l ?_) | (with_reducible refine fb_s ?_; (repeat first | assumption | refine e9_up ?_ (by decide))) | (with_reducible apply fq_withdraws_6 <;> first | assumption | (repeat first | assumption | refine e9_up ?_ (by decide)))
theorem fq_done {N : Nat} {a4 : Int32}  (h : E9 M M0) : FB M0 (f_L_done N a4 M) := by
  unfold f_L_done
  repeat' first | (with_reducible refine fb_g ?_) | (with_reducible refine fb_i ?_ ?_) | (with_reducible refine fb_b ?_ (fun _ _ _ => ?_)) | (with_reducible refine fb_l ?_) | (with_reducible refine fb_s ?_; (repeat first | assumption | refine e9_up ?_ (by decide))) | (with_reducible apply fq_comes <;> first | assumption | (repeat first | assumption | refine e9_up ?_ (by decide)))
theorem fq_costs_176 {N : Nat} {x14 : Int32}  (h : E9 M M0) : FB M0 (f_L_costs_176 N x14 M) := by
  unfold f_L_costs_176
  repeat' first | (with_reducible refine fb_g ?_) | (with_reducible refine fb_i ?_ ?_) | (with_reducible refine fb_b ?_ (fun _ _ _ => ?_)) | (with_reducible refine fb_l ?_) | (with_reducible refine fb_s ?_; (repeat first | assumption | refine e9_up ?_ (by decide)))
theorem fq_costs_170 {N : Nat} {kh45 : Int32 → Int32 → Int32 → Int32 → Int32 → Int32 → Int32 → Int32 → gq_M → Option (Int32 × gq_M)} {x9 : Int32} {x10 : Int32} {x11 : Int32} {x12 : Int32} {x13 : Int32} {x14 : Int32} {x15 : Int32} {x16 : Int32} (hkh45 : ∀ x0 x1 x2 x3 x4 x5 x6 x7 M, E9 M M0 → FB M0 (kh45 x0 x1 x2 x3 x4 x5 x6 x7 M)) (h : E9 M M0) : FB M0 (f_L_costs_170 N kh45 x9 x10 x11 x12 x13 x14 x15 x16 M) := by
  unfold f_L_costs_170
  repeat' first | (with_reducible refine fb_g ?_) | (with_reducible refine fb_i ?_ ?_) | (with_reducible refine fb_b ?_ (fun _ _ _ => ?_)) | (with_reducible refine fb_l ?_) | (with_reducible refine fb_s ?_; (repeat first | assumption | refine e9_up ?_ (by decide))) | (with_reducible apply hkh45; (repeat first | assumption | refine e9_up ?_ (by decide)))
theorem fq_costs_45_b {N : Nat} {kh45 : Int32 → Int32 → Int32 → Int32 → Int32 → Int32 → Int32 → Int32 → gq_M → Option (Int32 × gq_M)} {x9 : Int32} {x10 : Int32} {x11 : Int32} {x12 : Int32} {x13 : Int32} {x14 : Int32} {x15 : Int32} {x16 : Int32} (hkh45 : ∀ x0 x1 x2 x3 x4 x5 x6 x7 M, E9 M M0 → FB M0 (kh45 x0 x1 x2 x3 x4 x5 x6 x7 M)) (h : E9 M M0) : FB M0 (f_L_costs_45_b N kh45 x9 x10 x11 x12 x13 x14 x15 x16 M) := by
  unfold f_L_costs_45_b
  repeat' first | (with_reducible refine fb_g ?_) | (with_reducible refine fb_i ?_ ?_) | (with_reducible refine fb_b ?_ (fun _ _ _ => ?_)) | (with_reducible refine fb_l ?_) | (with_reducible refine fb_s ?_; (repeat first | assumption | refine e9_up ?_ (by decide))) | (with_reducible apply fq_costs_176 <;> first | assumption | (repeat first | assumption | refine e9_up ?_ (by decide))) | (with_reducible apply fq_isLeft <;> first | assumption | (repeat first | assumption | refine e9_up ?_ (by decide))) | (with_reducible apply fq_costs_170 <;> first | assumption | (repeat first | assumption | refine e9_up ?_ (by decide))) | (with_reducible apply fq_becomes <;> first | assumption | (repeat first | assumption | refine e9_up ?_ (by decide))) | (with_reducible apply hkh45; (repeat first | assumption | refine e9_up ?_ (by decide)))
theorem fq_costs_45 {N : Nat}  : ∀ (n : Nat) x0 x1 x2 x3 x4 x5 x6 x7 M, E9 M M0 → FB M0 (f_L_costs_45 N n x0 x1 x2 x3 x4 x5 x6 x7 M) := by
  intro n
  induction n with
  | zero => intro x0 x1 x2 x3 x4 x5 x6 x7 M h; exact fb_n
  | succ n ih => intro x0 x1 x2 x3 x4 x5 x6 x7 M h; exact fq_costs_45_b  ih h
theorem fq_costs {N : Nat} {a8 : Int32} {a9 : Int32} {a10 : Int32}  (h : E9 M M0) : FB M0 (f_L_costs N a8 a9 a10 M) := by
  unfold f_L_costs
  repeat' first | (with_reducible refine fb_g ?_) | (with_reducible refine fb_i ?_ ?_) | (with_reducible refine fb_b ?_ (fun _ _ _ => ?_)) | (with_reducible refine fb_l ?_) | (with_reducible refine fb_s ?_; (repeat first | assumption | refine e9_up ?_ (by decide))) | (with_reducible apply fq_costs_45 <;> first | assumption | (repeat first | assumption | refine e9_up ?_ (by decide)))
theorem fq_goesOn {N : Nat} {a6 : Int32}  (h : E9 M M0) : FB M0 (f_L_goesOn N a6 M) := by
  unfold f_L_goesOn
  repeat' first | (with_reducible refine fb_g ?_) | (with_reducible refine fb_i ?_ ?_) | (with_reducible refine fb_b ?_ (fun _ _ _ => ?_)) | (with_reducible refine fb_l ?_) | (with_reducible refine fb_s ?_; (repeat first | assumption | refine e9_up ?_ (by decide))) | (with_reducible apply fq_left <;> first | assumption | (repeat first | assumption | refine e9_up ?_ (by decide))) | (with_reducible apply fq_done <;> first | assumption | (repeat first | assumption | refine e9_up ?_ (by decide))) | (with_reducible apply fq_begins <;> first | assumption | (repeat first | assumption | refine e9_up ?_ (by decide)))
theorem fq_hears_89 {N : Nat} {kh10 : Int32 → Int32 → Int32 → gq_M → Option (Int32 × gq_M)} {x4 : Int32} {x6 : Int32} {s0 : Int32} (hkh10 : ∀ x0 x1 x2 M, E9 M M0 → FB M0 (kh10 x0 x1 x2 M)) (h : E9 M M0) : FB M0 (f_L_hears_89 N kh10 x4 x6 s0 M) := by
  unfold f_L_hears_89
  repeat' first | (with_reducible refine fb_g ?_) | (with_reducible refine fb_i ?_ ?_) | (with_reducible refine fb_b ?_ (fun _ _ _ => ?_)) | (with_reducible refine fb_l ?_) | (with_reducible refine fb_s ?_; (repeat first | assumption | refine e9_up ?_ (by decide))) | (with_reducible apply hkh10; (repeat first | assumption | refine e9_up ?_ (by decide)))
theorem fq_hears_84 {N : Nat} {kh10 : Int32 → Int32 → Int32 → gq_M → Option (Int32 × gq_M)} {x4 : Int32} {x6 : Int32} (hkh10 : ∀ x0 x1 x2 M, E9 M M0 → FB M0 (kh10 x0 x1 x2 M)) (h : E9 M M0) : FB M0 (f_L_hears_84 N kh10 x4 x6 M) := by
  unfold f_L_hears_84
  repeat' first | (with_reducible refine fb_g ?_) | (with_reducible refine fb_i ?_ ?_) | (with_reducible refine fb_b ?_ (fun _ _ _ => ?_)) | (with_reducible refine fb_l ?_) | (with_reducible refine fb_s ?_; (repeat first | assumption | refine e9_up ?_ (by decide))) | (with_reducible apply fq_hears_89 <;> first | assumption | (repeat first | assumption | refine e9_up ?_ (by decide))) | (with_reducible apply hkh10; (repeat first | assumption | refine e9_up ?_ (by decide)))
theorem fq_hears_72 {N : Nat} {kh10 : Int32 → Int32 → Int32 → gq_M → Option (Int32 × gq_M)} {x4 : Int32} {x5 : Int32} {x6 : Int32} {x7 : Int32} {s1 : Int32} {s2 : Int32} {s3 : Int32} (hkh10 : ∀ x0 x1 x2 M, E9 M M0 → FB M0 (kh10 x0 x1 x2 M)) (h : E9 M M0) : FB M0 (f_L_hears_72 N kh10 x4 x5 x6 x7 s1 s2 s3 M) := by
  unfold f_L_hears_72
  repeat' first | (with_reducible refine fb_g ?_) | (with_reducible refine fb_i ?_ ?_) | (with_reducible refine fb_b ?_ (fun _ _ _ => ?_)) | (with_reducible refine fb_l ?_) | (with_reducible refine fb_s ?_; (repeat first | assumption | refine e9_up ?_ (by decide))) | (with_reducible apply fq_hears_89 <;> first | assumption | (repeat first | assumption | refine e9_up ?_ (by decide))) | (with_reducible apply fq_hears_84 <;> first | assumption | (repeat first | assumption | refine e9_up ?_ (by decide))) | (with_reducible apply hkh10; (repeat first | assumption | refine e9_up ?_ (by decide)))
theorem fq_hears_54 {N : Nat} {kh10 : Int32 → Int32 → Int32 → gq_M → Option (Int32 × gq_M)} {x4 : Int32} {x5 : Int32} {x6 : Int32} {s0 : Int32} (hkh10 : ∀ x0 x1 x2 M, E9 M M0 → FB M0 (kh10 x0 x1 x2 M)) (h : E9 M M0) : FB M0 (f_L_hears_54 N kh10 x4 x5 x6 s0 M) := by
  unfold f_L_hears_54
  repeat' first | (with_reducible refine fb_g ?_) | (with_reducible refine fb_i ?_ ?_) | (with_reducible refine fb_b ?_ (fun _ _ _ => ?_)) | (with_reducible refine fb_l ?_) | (with_reducible refine fb_s ?_; (repeat first | assumption | refine e9_up ?_ (by decide))) | (with_reducible apply fq_hears_72 <;> first | assumption | (repeat first | assumption | refine e9_up ?_ (by decide))) | (with_reducible apply hkh10; (repeat first | assumption | refine e9_up ?_ (by decide)))
theorem fq_hears_53 {N : Nat} {kh10 : Int32 → Int32 → Int32 → gq_M → Option (Int32 × gq_M)} {x4 : Int32} {x5 : Int32} {x6 : Int32} (hkh10 : ∀ x0 x1 x2 M, E9 M M0 → FB M0 (kh10 x0 x1 x2 M)) (h : E9 M M0) : FB M0 (f_L_hears_53 N kh10 x4 x5 x6 M) := by
  unfold f_L_hears_53
  repeat' first | (with_reducible refine fb_g ?_) | (with_reducible refine fb_i ?_ ?_) | (with_reducible refine fb_b ?_ (fun _ _ _ => ?_)) | (with_reducible refine fb_l ?_) | (with_reducible refine fb_s ?_; (repeat first | assumption | refine e9_up ?_ (by decide))) | (with_reducible apply fq_hears_54 <;> first | assumption | (repeat first | assumption | refine e9_up ?_ (by decide))) | (with_reducible apply hkh10; (repeat first | assumption | refine e9_up ?_ (by decide)))
theorem fq_hears_10_b {N : Nat} {kh10 : Int32 → Int32 → Int32 → gq_M → Option (Int32 × gq_M)} {x4 : Int32} {x5 : Int32} {x6 : Int32} (hkh10 : ∀ x0 x1 x2 M, E9 M M0 → FB M0 (kh10 x0 x1 x2 M)) (h : E9 M M0) : FB M0 (f_L_hears_10_b N kh10 x4 x5 x6 M) := by
  unfold f_L_hears_10_b
  repeat' first | (with_reducible refine fb_g ?_) | (with_reducible refine fb_i ?_ ?_) | (with_reducible refine fb_b ?_ (fun _ _ _ => ?_)) | (with_reducible refine fb_l ?_) | (with_reducible refine fb_s ?_; (repeat first | assumption | refine e9_up ?_ (by decide))) | (with_reducible apply fq_hears_53 <;> first | assumption | (repeat first | assumption | refine e9_up ?_ (by decide))) | (with_reducible apply fq_hears_54 <;> first | assumption | (repeat first | assumption | refine e9_up ?_ (by decide))) | (with_reducible apply hkh10; (repeat first | assumption | refine e9_up ?_ (by decide)))
theorem fq_hears_10 {N : Nat}  : ∀ (n : Nat) x0 x1 x2 M, E9 M M0 → FB M0 (f_L_hears_10 N n x0 x1 x2 M) := by
  intro n
  induction n with
  | zero => intro x0 x1 x2 M h; exact fb_n
  | succ n ih => intro x0 x1 x2 M h; exact fq_hears_10_b  ih h
theorem fq_hears {N : Nat} {a4 : Int32}  (h : E9 M M0) : FB M0 (f_L_hears N a4 M) := by
  unfold f_L_hears
  repeat' first | (with_reducible refine fb_g ?_) | (with_reducible refine fb_i ?_ ?_) | (with_reducible refine fb_b ?_ (fun _ _ _ => ?_)) | (with_reducible refine fb_l ?_) | (with_reducible refine fb_s ?_; (repeat first | assumption | refine e9_up ?_ (by decide))) | (with_reducible apply fq_hears_10 <;> first | assumption | (repeat first | assumption | refine e9_up ?_ (by decide)))
theorem fq_ticks_593 {N : Nat} {x12 : Int32}  (h : E9 M M0) : FB M0 (f_L_ticks_593 N x12 M) := by
  unfold f_L_ticks_593
  repeat' first | (with_reducible refine fb_g ?_) | (with_reducible refine fb_i ?_ ?_) | (with_reducible refine fb_b ?_ (fun _ _ _ => ?_)) | (with_reducible refine fb_l ?_) | (with_reducible refine fb_s ?_; (repeat first | assumption | refine e9_up ?_ (by decide))) | (with_reducible apply fq_goesOn <;> first | assumption | (repeat first | assumption | refine e9_up ?_ (by decide)))
theorem fq_ticks_465 {N : Nat} {x12 : Int32} {x13 : Int32} {x15 : Int32} {s1 : Int32} {s2 : Int32}  (h : E9 M M0) : FB M0 (f_L_ticks_465 N x12 x13 x15 s1 s2 M) := by
  unfold f_L_ticks_465
  repeat' first | (with_reducible refine fb_g ?_) | (with_reducible refine fb_i ?_ ?_) | (with_reducible refine fb_b ?_ (fun _ _ _ => ?_)) | (with_reducible refine fb_l ?_) | (with_reducible refine fb_s ?_; (repeat first | assumption | refine e9_up ?_ (by decide))) | (with_reducible apply fq_begins <;> first | assumption | (repeat first | assumption | refine e9_up ?_ (by decide)))
theorem fq_ticks_432 {N : Nat} {x12 : Int32} {x13 : Int32} {x15 : Int32} {s1 : Int32} {s2 : Int32}  (h : E9 M M0) : FB M0 (f_L_ticks_432 N x12 x13 x15 s1 s2 M) := by
  unfold f_L_ticks_432
  repeat' first | (with_reducible refine fb_g ?_) | (with_reducible refine fb_i ?_ ?_) | (with_reducible refine fb_b ?_ (fun _ _ _ => ?_)) | (with_reducible refine fb_l ?_) | (with_reducible refine fb_s ?_; (repeat first | assumption | refine e9_up ?_ (by decide))) | (with_reducible apply fq_ticks_465 <;> first | assumption | (repeat first | assumption | refine e9_up ?_ (by decide)))
theorem fq_ticks_410 {N : Nat} {kh265 : Int32 → Int32 → Int32 → Int32 → Int32 → gq_M → Option (Int32 × gq_M)} {x12 : Int32} {x13 : Int32} {x14 : Int32} {x16 : Int32} {s0 : Int32} (hkh265 : ∀ x0 x1 x2 x3 x4 M, E9 M M0 → FB M0 (kh265 x0 x1 x2 x3 x4 M)) (h : E9 M M0) : FB M0 (f_L_ticks_410 N kh265 x12 x13 x14 x16 s0 M) := by
  unfold f_L_ticks_410
  repeat' first | (with_reducible refine fb_g ?_) | (with_reducible refine fb_i ?_ ?_) | (with_reducible refine fb_b ?_ (fun _ _ _ => ?_)) | (with_reducible refine fb_l ?_) | (with_reducible refine fb_s ?_; (repeat first | assumption | refine e9_up ?_ (by decide))) | (with_reducible apply hkh265; (repeat first | assumption | refine e9_up ?_ (by decide)))
theorem fq_ticks_396 {N : Nat} {kh265 : Int32 → Int32 → Int32 → Int32 → Int32 → gq_M → Option (Int32 × gq_M)} {x12 : Int32} {x13 : Int32} {x14 : Int32} {x15 : Int32} {x16 : Int32} {s0 : Int32} (hkh265 : ∀ x0 x1 x2 x3 x4 M, E9 M M0 → FB M0 (kh265 x0 x1 x2 x3 x4 M)) (h : E9 M M0) : FB M0 (f_L_ticks_396 N kh265 x12 x13 x14 x15 x16 s0 M) := by
  unfold f_L_ticks_396
  repeat' first | (with_reducible refine fb_g ?_) | (with_reducible refine fb_i ?_ ?_) | (with_reducible refine fb_b ?_ (fun _ _ _ => ?_)) | (with_reducible refine fb_l ?_) | (with_reducible refine fb_s ?_; (repeat first | assumption | refine e9_up ?_ (by decide))) | (with_reducible apply fq_ticks_410 <;> first | assumption | (repeat first | assumption | refine e9_up ?_ (by decide))) | (with_reducible apply hkh265; (repeat first | assumption | refine e9_up ?_ (by decide)))
theorem fq_ticks_395 {N : Nat} {kh265 : Int32 → Int32 → Int32 → Int32 → Int32 → gq_M → Option (Int32 × gq_M)} {x12 : Int32} {x13 : Int32} {x14 : Int32} {x15 : Int32} {x16 : Int32} (hkh265 : ∀ x0 x1 x2 x3 x4 M, E9 M M0 → FB M0 (kh265 x0 x1 x2 x3 x4 M)) (h : E9 M M0) : FB M0 (f_L_ticks_395 N kh265 x12 x13 x14 x15 x16 M) := by
  unfold f_L_ticks_395
  repeat' first | (with_reducible refine fb_g ?_) | (with_reducible refine fb_i ?_ ?_) | (with_reducible refine fb_b ?_ (fun _ _ _ => ?_)) | (with_reducible refine fb_l ?_) | (with_reducible refine fb_s ?_; (repeat first | assumption | refine e9_up ?_ (by decide))) | (with_reducible apply fq_ticks_396 <;> first | assumption | (repeat first | assumption | refine e9_up ?_ (by decide))) | (with_reducible apply hkh265; (repeat first | assumption | refine e9_up ?_ (by decide)))
theorem fq_ticks_391 {N : Nat} {kh265 : Int32 → Int32 → Int32 → Int32 → Int32 → gq_M → Option (Int32 × gq_M)} {x12 : Int32} {x13 : Int32} {x14 : Int32} {x15 : Int32} {x16 : Int32} (hkh265 : ∀ x0 x1 x2 x3 x4 M, E9 M M0 → FB M0 (kh265 x0 x1 x2 x3 x4 M)) (h : E9 M M0) : FB M0 (f_L_ticks_391 N kh265 x12 x13 x14 x15 x16 M) := by
  unfold f_L_ticks_391
  repeat' first | (with_reducible refine fb_g ?_) | (with_reducible refine fb_i ?_ ?_) | (with_reducible refine fb_b ?_ (fun _ _ _ => ?_)) | (with_reducible refine fb_l ?_) | (with_reducible refine fb_s ?_; (repeat first | assumption | refine e9_up ?_ (by decide))) | (with_reducible apply fq_ticks_396 <;> first | assumption | (repeat first | assumption | refine e9_up ?_ (by decide))) | (with_reducible apply hkh265; (repeat first | assumption | refine e9_up ?_ (by decide)))
theorem fq_ticks_331 {N : Nat} {kh265 : Int32 → Int32 → Int32 → Int32 → Int32 → gq_M → Option (Int32 × gq_M)} {x12 : Int32} {x13 : Int32} {x14 : Int32} {x15 : Int32} {x16 : Int32} {x17 : Int32} {s0 : Int32} (hkh265 : ∀ x0 x1 x2 x3 x4 M, E9 M M0 → FB M0 (kh265 x0 x1 x2 x3 x4 M)) (h : E9 M M0) : FB M0 (f_L_ticks_331 N kh265 x12 x13 x14 x15 x16 x17 s0 M) := by
  unfold f_L_ticks_331
  repeat' first | (with_reducible refine fb_g ?_) | (with_reducible refine fb_i ?_ ?_) | (with_reducible refine fb_b ?_ (fun _ _ _ => ?_)) | (with_reducible refine fb_l ?_) | (with_reducible refine fb_s ?_; (repeat first | assumption | refine e9_up ?_ (by decide))) | (with_reducible apply fq_ticks_395 <;> first | assumption | (repeat first | assumption | refine e9_up ?_ (by decide))) | (with_reducible apply fq_ticks_391 <;> first | assumption | (repeat first | assumption | refine e9_up ?_ (by decide))) | (with_reducible apply hkh265; (repeat first | assumption | refine e9_up ?_ (by decide)))
theorem fq_ticks_330 {N : Nat} {kh265 : Int32 → Int32 → Int32 → Int32 → Int32 → gq_M → Option (Int32 × gq_M)} {x12 : Int32} {x13 : Int32} {x14 : Int32} {x15 : Int32} {x16 : Int32} {x17 : Int32} (hkh265 : ∀ x0 x1 x2 x3 x4 M, E9 M M0 → FB M0 (kh265 x0 x1 x2 x3 x4 M)) (h : E9 M M0) : FB M0 (f_L_ticks_330 N kh265 x12 x13 x14 x15 x16 x17 M) := by
  unfold f_L_ticks_330
  repeat' first | (with_reducible refine fb_g ?_) | (with_reducible refine fb_i ?_ ?_) | (with_reducible refine fb_b ?_ (fun _ _ _ => ?_)) | (with_reducible refine fb_l ?_) | (with_reducible refine fb_s ?_; (repeat first | assumption | refine e9_up ?_ (by decide))) | (with_reducible apply fq_ticks_331 <;> first | assumption | (repeat first | assumption | refine e9_up ?_ (by decide))) | (with_reducible apply hkh265; (repeat first | assumption | refine e9_up ?_ (by decide)))
theorem fq_ticks_265_b {N : Nat} {kh265 : Int32 → Int32 → Int32 → Int32 → Int32 → gq_M → Option (Int32 × gq_M)} {x12 : Int32} {x13 : Int32} {x14 : Int32} {x15 : Int32} {x16 : Int32} (hkh265 : ∀ x0 x1 x2 x3 x4 M, E9 M M0 → FB M0 (kh265 x0 x1 x2 x3 x4 M)) (h : E9 M M0) : FB M0 (f_L_ticks_265_b N kh265 x12 x13 x14 x15 x16 M) := by
  unfold f_L_ticks_265_b
  repeat' first | (with_reducible refine fb_g ?_) | (with_reducible refine fb_i ?_ ?_) | (with_reducible refine fb_b ?_ (fun _ _ _ => ?_)) | (with_reducible refine fb_l ?_) | (with_reducible refine fb_s ?_; (repeat first | assumption | refine e9_up ?_ (by decide))) | (with_reducible apply fq_ticks_432 <;> first | assumption | (repeat first | assumption | refine e9_up ?_ (by decide))) | (with_reducible apply fq_ticks_330 <;> first | assumption | (repeat first | assumption | refine e9_up ?_ (by decide))) | (with_reducible apply fq_ticks_331 <;> first | assumption | (repeat first | assumption | refine e9_up ?_ (by decide))) | (with_reducible apply hkh265; (repeat first | assumption | refine e9_up ?_ (by decide)))
theorem fq_ticks_265 {N : Nat}  : ∀ (n : Nat) x0 x1 x2 x3 x4 M, E9 M M0 → FB M0 (f_L_ticks_265 N n x0 x1 x2 x3 x4 M) := by
  intro n
  induction n with
  | zero => intro x0 x1 x2 x3 x4 M h; exact fb_n
  | succ n ih => intro x0 x1 x2 x3 x4 M h; exact fq_ticks_265_b  ih h
theorem fq_ticks_195 {N : Nat}  (h : E9 M M0) : FB M0 (f_L_ticks_195 N M) := by
  unfold f_L_ticks_195
  repeat' first | (with_reducible refine fb_g ?_) | (with_reducible refine fb_i ?_ ?_) | (with_reducible refine fb_b ?_ (fun _ _ _ => ?_)) | (with_reducible refine fb_l ?_) | (with_reducible refine fb_s ?_; (repeat first | assumption | refine e9_up ?_ (by decide)))
theorem fq_ticks_71 {N : Nat} {kh38 : Int32 → Int32 → Int32 → gq_M → Option (Int32 × gq_M)} {x13 : Int32} {x15 : Int32} {s0 : Int32} (hkh38 : ∀ x0 x1 x2 M, E9 M M0 → FB M0 (kh38 x0 x1 x2 M)) (h : E9 M M0) : FB M0 (f_L_ticks_71 N kh38 x13 x15 s0 M) := by
  unfold f_L_ticks_71
  repeat' first | (with_reducible refine fb_g ?_) | (with_reducible refine fb_i ?_ ?_) | (with_reducible refine fb_b ?_ (fun _ _ _ => ?_)) | (with_reducible refine fb_l ?_) | (with_reducible refine fb_s ?_; (repeat first | assumption | refine e9_up ?_ (by decide))) | (with_reducible apply hkh38; (repeat first | assumption | refine e9_up ?_ (by decide)))
theorem fq_ticks_38_b {N : Nat} {kh38 : Int32 → Int32 → Int32 → gq_M → Option (Int32 × gq_M)} {x13 : Int32} {x14 : Int32} {x15 : Int32} (hkh38 : ∀ x0 x1 x2 M, E9 M M0 → FB M0 (kh38 x0 x1 x2 M)) (h : E9 M M0) : FB M0 (f_L_ticks_38_b N kh38 x13 x14 x15 M) := by
  unfold f_L_ticks_38_b
  repeat' first | (with_reducible refine fb_g ?_) | (with_reducible refine fb_i ?_ ?_) | (with_reducible refine fb_b ?_ (fun _ _ _ => ?_)) | (with_reducible refine fb_l ?_) | (with_reducible refine fb_s ?_; (repeat first | assumption | refine e9_up ?_ (by decide))) | (with_reducible apply fq_ticks_71 <;> first | assumption | (repeat first | assumption | refine e9_up ?_ (by decide))) | (with_reducible apply hkh38; (repeat first | assumption | refine e9_up ?_ (by decide)))
theorem fq_ticks_38 {N : Nat}  : ∀ (n : Nat) x0 x1 x2 M, E9 M M0 → FB M0 (f_L_ticks_38 N n x0 x1 x2 M) := by
  intro n
  induction n with
  | zero => intro x0 x1 x2 M h; exact fb_n
  | succ n ih => intro x0 x1 x2 M h; exact fq_ticks_38_b  ih h
theorem fq_ticks {N : Nat} {a12 : Int32}  (h : E9 M M0) : FB M0 (f_L_ticks N a12 M) := by
  unfold f_L_ticks
  repeat' first | (with_reducible refine fb_g ?_) | (with_reducible refine fb_i ?_ ?_) | (with_reducible refine fb_b ?_ (fun _ _ _ => ?_)) | (with_reducible refine fb_l ?_) | (with_reducible refine fb_s ?_; (repeat first | assumption | refine e9_up ?_ (by decide))) | (with_reducible apply fq_hears <;> first | assumption | (repeat first | assumption | refine e9_up ?_ (by decide))) | (with_reducible apply fq_ticks_195 <;> first | assumption | (repeat first | assumption | refine e9_up ?_ (by decide))) | (with_reducible apply fq_withdraws <;> first | assumption | (repeat first | assumption | refine e9_up ?_ (by decide))) | (with_reducible apply fq_done <;> first | assumption | (repeat first | assumption | refine e9_up ?_ (by decide))) | (with_reducible apply fq_ticks_38 <;> first | assumption | (repeat first | assumption | refine e9_up ?_ (by decide))) | (with_reducible apply fq_first <;> first | assumption | (repeat first | assumption | refine e9_up ?_ (by decide))) | (with_reducible apply fq_ticks_265 <;> first | assumption | (repeat first | assumption | refine e9_up ?_ (by decide))) | (with_reducible apply fq_costs <;> first | assumption | (repeat first | assumption | refine e9_up ?_ (by decide))) | (with_reducible apply fq_ticks_593 <;> first | assumption | (repeat first | assumption | refine e9_up ?_ (by decide)))
theorem fq_passes_210 {N : Nat} {kh66 : Int32 → gq_M → Option (Int32 × gq_M)} {x13 : Int32} (hkh66 : ∀ x0 M, E9 M M0 → FB M0 (kh66 x0 M)) (h : E9 M M0) : FB M0 (f_L_passes_210 N kh66 x13 M) := by
  unfold f_L_passes_210
  repeat' first | (with_reducible refine fb_g ?_) | (with_reducible refine fb_i ?_ ?_) | (with_reducible refine fb_b ?_ (fun _ _ _ => ?_)) | (with_reducible refine fb_l ?_) | (with_reducible refine fb_s ?_; (repeat first | assumption | refine e9_up ?_ (by decide))) | (with_reducible apply hkh66; (repeat first | assumption | refine e9_up ?_ (by decide)))
theorem fq_passes_190 {N : Nat} {kh66 : Int32 → gq_M → Option (Int32 × gq_M)} {kh98 : Int32 → Int32 → Int32 → gq_M → Option (Int32 × gq_M)} {x13 : Int32} {x15 : Int32} {s0 : Int32} {s1 : Int32} (hkh66 : ∀ x0 M, E9 M M0 → FB M0 (kh66 x0 M)) (hkh98 : ∀ x0 x1 x2 M, E9 M M0 → FB M0 (kh98 x0 x1 x2 M)) (h : E9 M M0) : FB M0 (f_L_passes_190 N kh66 kh98 x13 x15 s0 s1 M) := by
  unfold f_L_passes_190
  repeat' first | (with_reducible refine fb_g ?_) | (with_reducible refine fb_i ?_ ?_) | (with_reducible refine fb_b ?_ (fun _ _ _ => ?_)) | (with_reducible refine fb_l ?_) | (with_reducible refine fb_s ?_; (repeat first | assumption | refine e9_up ?_ (by decide))) | (with_reducible apply hkh66; (repeat first | assumption | refine e9_up ?_ (by decide))) | (with_reducible apply hkh98; (repeat first | assumption | refine e9_up ?_ (by decide)))
theorem fq_passes_175 {N : Nat} {kh66 : Int32 → gq_M → Option (Int32 × gq_M)} {kh98 : Int32 → Int32 → Int32 → gq_M → Option (Int32 × gq_M)} {x13 : Int32} {x14 : Int32} {x15 : Int32} {x16 : Int32} {s1 : Int32} {s2 : Int32} (hkh66 : ∀ x0 M, E9 M M0 → FB M0 (kh66 x0 M)) (hkh98 : ∀ x0 x1 x2 M, E9 M M0 → FB M0 (kh98 x0 x1 x2 M)) (h : E9 M M0) : FB M0 (f_L_passes_175 N kh66 kh98 x13 x14 x15 x16 s1 s2 M) := by
  unfold f_L_passes_175
  repeat' first | (with_reducible refine fb_g ?_) | (with_reducible refine fb_i ?_ ?_) | (with_reducible refine fb_b ?_ (fun _ _ _ => ?_)) | (with_reducible refine fb_l ?_) | (with_reducible refine fb_s ?_; (repeat first | assumption | refine e9_up ?_ (by decide))) | (with_reducible apply fq_becomes <;> first | assumption | (repeat first | assumption | refine e9_up ?_ (by decide))) | (with_reducible apply fq_passes_190 <;> first | assumption | (repeat first | assumption | refine e9_up ?_ (by decide))) | (with_reducible apply hkh66; (repeat first | assumption | refine e9_up ?_ (by decide))) | (with_reducible apply hkh98; (repeat first | assumption | refine e9_up ?_ (by decide)))
theorem fq_passes_155 {N : Nat} {kh66 : Int32 → gq_M → Option (Int32 × gq_M)} {kh98 : Int32 → Int32 → Int32 → gq_M → Option (Int32 × gq_M)} {x13 : Int32} {x14 : Int32} {x15 : Int32} {s0 : Int32} (hkh66 : ∀ x0 M, E9 M M0 → FB M0 (kh66 x0 M)) (hkh98 : ∀ x0 x1 x2 M, E9 M M0 → FB M0 (kh98 x0 x1 x2 M)) (h : E9 M M0) : FB M0 (f_L_passes_155 N kh66 kh98 x13 x14 x15 s0 M) := by
  unfold f_L_passes_155
  repeat' first | (with_reducible refine fb_g ?_) | (with_reducible refine fb_i ?_ ?_) | (with_reducible refine fb_b ?_ (fun _ _ _ => ?_)) | (with_reducible refine fb_l ?_) | (with_reducible refine fb_s ?_; (repeat first | assumption | refine e9_up ?_ (by decide))) | (with_reducible apply fq_how <;> first | assumption | (repeat first | assumption | refine e9_up ?_ (by decide))) | (with_reducible apply fq_passes_175 <;> first | assumption | (repeat first | assumption | refine e9_up ?_ (by decide))) | (with_reducible apply hkh66; (repeat first | assumption | refine e9_up ?_ (by decide))) | (with_reducible apply hkh98; (repeat first | assumption | refine e9_up ?_ (by decide)))
theorem fq_passes_154 {N : Nat} {kh66 : Int32 → gq_M → Option (Int32 × gq_M)} {kh98 : Int32 → Int32 → Int32 → gq_M → Option (Int32 × gq_M)} {x13 : Int32} {x14 : Int32} {x15 : Int32} (hkh66 : ∀ x0 M, E9 M M0 → FB M0 (kh66 x0 M)) (hkh98 : ∀ x0 x1 x2 M, E9 M M0 → FB M0 (kh98 x0 x1 x2 M)) (h : E9 M M0) : FB M0 (f_L_passes_154 N kh66 kh98 x13 x14 x15 M) := by
  unfold f_L_passes_154
  repeat' first | (with_reducible refine fb_g ?_) | (with_reducible refine fb_i ?_ ?_) | (with_reducible refine fb_b ?_ (fun _ _ _ => ?_)) | (with_reducible refine fb_l ?_) | (with_reducible refine fb_s ?_; (repeat first | assumption | refine e9_up ?_ (by decide))) | (with_reducible apply fq_passes_155 <;> first | assumption | (repeat first | assumption | refine e9_up ?_ (by decide))) | (with_reducible apply hkh66; (repeat first | assumption | refine e9_up ?_ (by decide))) | (with_reducible apply hkh98; (repeat first | assumption | refine e9_up ?_ (by decide)))
theorem fq_passes_98_b {N : Nat} {kh66 : Int32 → gq_M → Option (Int32 × gq_M)} {kh98 : Int32 → Int32 → Int32 → gq_M → Option (Int32 × gq_M)} {x13 : Int32} {x14 : Int32} {x15 : Int32} (hkh66 : ∀ x0 M, E9 M M0 → FB M0 (kh66 x0 M)) (hkh98 : ∀ x0 x1 x2 M, E9 M M0 → FB M0 (kh98 x0 x1 x2 M)) (h : E9 M M0) : FB M0 (f_L_passes_98_b N kh66 kh98 x13 x14 x15 M) := by
  unfold f_L_passes_98_b
  repeat' first | (with_reducible refine fb_g ?_) | (with_reducible refine fb_i ?_ ?_) | (with_reducible refine fb_b ?_ (fun _ _ _ => ?_)) | (with_reducible refine fb_l ?_) | (with_reducible refine fb_s ?_; (repeat first | assumption | refine e9_up ?_ (by decide))) | (with_reducible apply fq_passes_210 <;> first | assumption | (repeat first | assumption | refine e9_up ?_ (by decide))) | (with_reducible apply fq_how <;> first | assumption | (repeat first | assumption | refine e9_up ?_ (by decide))) | (with_reducible apply fq_passes_154 <;> first | assumption | (repeat first | assumption | refine e9_up ?_ (by decide))) | (with_reducible apply fq_passes_155 <;> first | assumption | (repeat first | assumption | refine e9_up ?_ (by decide))) | (with_reducible apply hkh66; (repeat first | assumption | refine e9_up ?_ (by decide))) | (with_reducible apply hkh98; (repeat first | assumption | refine e9_up ?_ (by decide)))
theorem fq_passes_98 {N : Nat} {kh66 : Int32 → gq_M → Option (Int32 × gq_M)} (hkh66 : ∀ x0 M, E9 M M0 → FB M0 (kh66 x0 M)) : ∀ (n : Nat) x0 x1 x2 M, E9 M M0 → FB M0 (f_L_passes_98 N kh66 n x0 x1 x2 M) := by
  intro n
  induction n with
  | zero => intro x0 x1 x2 M h; exact fb_n
  | succ n ih => intro x0 x1 x2 M h; exact fq_passes_98_b hkh66 ih h
theorem fq_passes_66_b {N : Nat} {kh66 : Int32 → gq_M → Option (Int32 × gq_M)} {x13 : Int32} (hkh66 : ∀ x0 M, E9 M M0 → FB M0 (kh66 x0 M)) (h : E9 M M0) : FB M0 (f_L_passes_66_b N kh66 x13 M) := by
  unfold f_L_passes_66_b
  repeat' first | (with_reducible refine fb_g ?_) | (with_reducible refine fb_i ?_ ?_) | (with_reducible refine fb_b ?_ (fun _ _ _ => ?_)) | (with_reducible refine fb_l ?_) | (with_reducible refine fb_s ?_; (repeat first | assumption | refine e9_up ?_ (by decide))) | (with_reducible apply fq_passes_98 <;> first | assumption | (repeat first | assumption | refine e9_up ?_ (by decide))) | (with_reducible apply fq_passes_210 <;> first | assumption | (repeat first | assumption | refine e9_up ?_ (by decide))) | (with_reducible apply hkh66; (repeat first | assumption | refine e9_up ?_ (by decide)))
theorem fq_passes_66 {N : Nat}  : ∀ (n : Nat) x0 M, E9 M M0 → FB M0 (f_L_passes_66 N n x0 M) := by
  intro n
  induction n with
  | zero => intro x0 M h; exact fb_n
  | succ n ih => intro x0 M h; exact fq_passes_66_b  ih h
theorem fq_passes_57 {N : Nat} {kh11 : Int32 → gq_M → Option (Int32 × gq_M)} {x13 : Int32} (hkh11 : ∀ x0 M, E9 M M0 → FB M0 (kh11 x0 M)) (h : E9 M M0) : FB M0 (f_L_passes_57 N kh11 x13 M) := by
  unfold f_L_passes_57
  repeat' first | (with_reducible refine fb_g ?_) | (with_reducible refine fb_i ?_ ?_) | (with_reducible refine fb_b ?_ (fun _ _ _ => ?_)) | (with_reducible refine fb_l ?_) | (with_reducible refine fb_s ?_; (repeat first | assumption | refine e9_up ?_ (by decide))) | (with_reducible apply hkh11; (repeat first | assumption | refine e9_up ?_ (by decide)))
theorem fq_passes_11_b {N : Nat} {kh11 : Int32 → gq_M → Option (Int32 × gq_M)} {x13 : Int32} (hkh11 : ∀ x0 M, E9 M M0 → FB M0 (kh11 x0 M)) (h : E9 M M0) : FB M0 (f_L_passes_11_b N kh11 x13 M) := by
  unfold f_L_passes_11_b
  repeat' first | (with_reducible refine fb_g ?_) | (with_reducible refine fb_i ?_ ?_) | (with_reducible refine fb_b ?_ (fun _ _ _ => ?_)) | (with_reducible refine fb_l ?_) | (with_reducible refine fb_s ?_; (repeat first | assumption | refine e9_up ?_ (by decide))) | (with_reducible apply fq_passes_66 <;> first | assumption | (repeat first | assumption | refine e9_up ?_ (by decide))) | (with_reducible apply fq_ticks <;> first | assumption | (repeat first | assumption | refine e9_up ?_ (by decide))) | (with_reducible apply fq_passes_57 <;> first | assumption | (repeat first | assumption | refine e9_up ?_ (by decide))) | (with_reducible apply hkh11; (repeat first | assumption | refine e9_up ?_ (by decide)))
theorem fq_passes_11 {N : Nat}  : ∀ (n : Nat) x0 M, E9 M M0 → FB M0 (f_L_passes_11 N n x0 M) := by
  intro n
  induction n with
  | zero => intro x0 M h; exact fb_n
  | succ n ih => intro x0 M h; exact fq_passes_11_b  ih h
theorem fq_passes {N : Nat}  (h : E9 M M0) : FB M0 (f_L_passes N M) := by
  unfold f_L_passes
  repeat' first | (with_reducible refine fb_g ?_) | (with_reducible refine fb_i ?_ ?_) | (with_reducible refine fb_b ?_ (fun _ _ _ => ?_)) | (with_reducible refine fb_l ?_) | (with_reducible refine fb_s ?_; (repeat first | assumption | refine e9_up ?_ (by decide))) | (with_reducible apply fq_passes_11 <;> first | assumption | (repeat first | assumption | refine e9_up ?_ (by decide)))
theorem fq_isToSell_23 {N : Nat} {s0 : Int32}  (h : E9 M M0) : FB M0 (f_L_isToSell_23 N s0 M) := by
  unfold f_L_isToSell_23
  repeat' first | (with_reducible refine fb_g ?_) | (with_reducible refine fb_i ?_ ?_) | (with_reducible refine fb_b ?_ (fun _ _ _ => ?_)) | (with_reducible refine fb_l ?_) | (with_reducible refine fb_s ?_; (repeat first | assumption | refine e9_up ?_ (by decide)))
theorem fq_isToSell_18 {N : Nat}  (h : E9 M M0) : FB M0 (f_L_isToSell_18 N M) := by
  unfold f_L_isToSell_18
  repeat' first | (with_reducible refine fb_g ?_) | (with_reducible refine fb_i ?_ ?_) | (with_reducible refine fb_b ?_ (fun _ _ _ => ?_)) | (with_reducible refine fb_l ?_) | (with_reducible refine fb_s ?_; (repeat first | assumption | refine e9_up ?_ (by decide))) | (with_reducible apply fq_isToSell_23 <;> first | assumption | (repeat first | assumption | refine e9_up ?_ (by decide)))
theorem fq_isToSell {N : Nat} {a1 : Int32}  (h : E9 M M0) : FB M0 (f_L_isToSell N a1 M) := by
  unfold f_L_isToSell
  repeat' first | (with_reducible refine fb_g ?_) | (with_reducible refine fb_i ?_ ?_) | (with_reducible refine fb_b ?_ (fun _ _ _ => ?_)) | (with_reducible refine fb_l ?_) | (with_reducible refine fb_s ?_; (repeat first | assumption | refine e9_up ?_ (by decide))) | (with_reducible apply fq_how <;> first | assumption | (repeat first | assumption | refine e9_up ?_ (by decide))) | (with_reducible apply fq_isToSell_18 <;> first | assumption | (repeat first | assumption | refine e9_up ?_ (by decide))) | (with_reducible apply fq_isToSell_23 <;> first | assumption | (repeat first | assumption | refine e9_up ?_ (by decide)))
theorem fq_lots_308 {N : Nat} {kh6 : Int32 → Int32 → Int32 → gq_M → Option (Int32 × gq_M)} {x4 : Int32} {x6 : Int32} {x7 : Int32} (hkh6 : ∀ x0 x1 x2 M, E9 M M0 → FB M0 (kh6 x0 x1 x2 M)) (h : E9 M M0) : FB M0 (f_L_lots_308 N kh6 x4 x6 x7 M) := by
  unfold f_L_lots_308
  repeat' first | (with_reducible refine fb_g ?_) | (with_reducible refine fb_i ?_ ?_) | (with_reducible refine fb_b ?_ (fun _ _ _ => ?_)) | (with_reducible refine fb_l ?_) | (with_reducible refine fb_s ?_; (repeat first | assumption | refine e9_up ?_ (by decide))) | (with_reducible apply hkh6; (repeat first | assumption | refine e9_up ?_ (by decide)))
theorem fq_lots_240 {N : Nat} {kh6 : Int32 → Int32 → Int32 → gq_M → Option (Int32 × gq_M)} {x4 : Int32} {x6 : Int32} {x7 : Int32} (hkh6 : ∀ x0 x1 x2 M, E9 M M0 → FB M0 (kh6 x0 x1 x2 M)) (h : E9 M M0) : FB M0 (f_L_lots_240 N kh6 x4 x6 x7 M) := by
  unfold f_L_lots_240
  repeat' first | (with_reducible refine fb_g ?_) | (with_reducible refine fb_i ?_ ?_) | (with_reducible refine fb_b ?_ (fun _ _ _ => ?_)) | (with_reducible refine fb_l ?_) | (with_reducible refine fb_s ?_; (repeat first | assumption | refine e9_up ?_ (by decide))) | (with_reducible apply fq_lots_308 <;> first | assumption | (repeat first | assumption | refine e9_up ?_ (by decide))) | (with_reducible apply hkh6; (repeat first | assumption | refine e9_up ?_ (by decide)))
theorem fq_lots_234 {N : Nat} {kh6 : Int32 → Int32 → Int32 → gq_M → Option (Int32 × gq_M)} {kh137 : Int32 → Int32 → Int32 → Int32 → gq_M → Option (Int32 × gq_M)} {x4 : Int32} {x6 : Int32} {x7 : Int32} {x8 : Int32} (hkh6 : ∀ x0 x1 x2 M, E9 M M0 → FB M0 (kh6 x0 x1 x2 M)) (hkh137 : ∀ x0 x1 x2 x3 M, E9 M M0 → FB M0 (kh137 x0 x1 x2 x3 M)) (h : E9 M M0) : FB M0 (f_L_lots_234 N kh6 kh137 x4 x6 x7 x8 M) := by
  unfold f_L_lots_234
  repeat' first | (with_reducible refine fb_g ?_) | (with_reducible refine fb_i ?_ ?_) | (with_reducible refine fb_b ?_ (fun _ _ _ => ?_)) | (with_reducible refine fb_l ?_) | (with_reducible refine fb_s ?_; (repeat first | assumption | refine e9_up ?_ (by decide))) | (with_reducible apply hkh6; (repeat first | assumption | refine e9_up ?_ (by decide))) | (with_reducible apply hkh137; (repeat first | assumption | refine e9_up ?_ (by decide)))
theorem fq_lots_137_b {N : Nat} {kh6 : Int32 → Int32 → Int32 → gq_M → Option (Int32 × gq_M)} {kh137 : Int32 → Int32 → Int32 → Int32 → gq_M → Option (Int32 × gq_M)} {x4 : Int32} {x6 : Int32} {x7 : Int32} {x8 : Int32} (hkh6 : ∀ x0 x1 x2 M, E9 M M0 → FB M0 (kh6 x0 x1 x2 M)) (hkh137 : ∀ x0 x1 x2 x3 M, E9 M M0 → FB M0 (kh137 x0 x1 x2 x3 M)) (h : E9 M M0) : FB M0 (f_L_lots_137_b N kh6 kh137 x4 x6 x7 x8 M) := by
  unfold f_L_lots_137_b
  repeat' first | (with_reducible refine fb_g ?_) | (with_reducible refine fb_i ?_ ?_) | (with_reducible refine fb_b ?_ (fun _ _ _ => ?_)) | (with_reducible refine fb_l ?_) | (with_reducible refine fb_s ?_; (repeat first | assumption | refine e9_up ?_ (by decide))) | (with_reducible apply fq_lots_240 <;> first | assumption | (repeat first | assumption | refine e9_up ?_ (by decide))) | (with_reducible apply fq_isToSell <;> first | assumption | (repeat first | assumption | refine e9_up ?_ (by decide))) | (with_reducible apply fq_lots_234 <;> first | assumption | (repeat first | assumption | refine e9_up ?_ (by decide))) | (with_reducible apply fq_becomes <;> first | assumption | (repeat first | assumption | refine e9_up ?_ (by decide))) | (with_reducible apply hkh6; (repeat first | assumption | refine e9_up ?_ (by decide))) | (with_reducible apply hkh137; (repeat first | assumption | refine e9_up ?_ (by decide)))
theorem fq_lots_137 {N : Nat} {kh6 : Int32 → Int32 → Int32 → gq_M → Option (Int32 × gq_M)} (hkh6 : ∀ x0 x1 x2 M, E9 M M0 → FB M0 (kh6 x0 x1 x2 M)) : ∀ (n : Nat) x0 x1 x2 x3 M, E9 M M0 → FB M0 (f_L_lots_137 N kh6 n x0 x1 x2 x3 M) := by
  intro n
  induction n with
  | zero => intro x0 x1 x2 x3 M h; exact fb_n
  | succ n ih => intro x0 x1 x2 x3 M h; exact fq_lots_137_b hkh6 ih h
theorem fq_lots_132 {N : Nat} {kh6 : Int32 → Int32 → Int32 → gq_M → Option (Int32 × gq_M)} {x4 : Int32} {x7 : Int32} {s0 : Int32} (hkh6 : ∀ x0 x1 x2 M, E9 M M0 → FB M0 (kh6 x0 x1 x2 M)) (h : E9 M M0) : FB M0 (f_L_lots_132 N kh6 x4 x7 s0 M) := by
  unfold f_L_lots_132
  repeat' first | (with_reducible refine fb_g ?_) | (with_reducible refine fb_i ?_ ?_) | (with_reducible refine fb_b ?_ (fun _ _ _ => ?_)) | (with_reducible refine fb_l ?_) | (with_reducible refine fb_s ?_; (repeat first | assumption | refine e9_up ?_ (by decide))) | (with_reducible apply fq_lots_137 <;> first | assumption | (repeat first | assumption | refine e9_up ?_ (by decide))) | (with_reducible apply hkh6; (repeat first | assumption | refine e9_up ?_ (by decide)))
theorem fq_lots_111 {N : Nat} {kh6 : Int32 → Int32 → Int32 → gq_M → Option (Int32 × gq_M)} {kh19 : Int32 → Int32 → Int32 → Int32 → gq_M → Option (Int32 × gq_M)} {x4 : Int32} {x5 : Int32} {x8 : Int32} {s0 : Int32} (hkh6 : ∀ x0 x1 x2 M, E9 M M0 → FB M0 (kh6 x0 x1 x2 M)) (hkh19 : ∀ x0 x1 x2 x3 M, E9 M M0 → FB M0 (kh19 x0 x1 x2 x3 M)) (h : E9 M M0) : FB M0 (f_L_lots_111 N kh6 kh19 x4 x5 x8 s0 M) := by
  unfold f_L_lots_111
  repeat' first | (with_reducible refine fb_g ?_) | (with_reducible refine fb_i ?_ ?_) | (with_reducible refine fb_b ?_ (fun _ _ _ => ?_)) | (with_reducible refine fb_l ?_) | (with_reducible refine fb_s ?_; (repeat first | assumption | refine e9_up ?_ (by decide))) | (with_reducible apply hkh6; (repeat first | assumption | refine e9_up ?_ (by decide))) | (with_reducible apply hkh19; (repeat first | assumption | refine e9_up ?_ (by decide)))
theorem fq_lots_109 {N : Nat} {kh6 : Int32 → Int32 → Int32 → gq_M → Option (Int32 × gq_M)} {kh19 : Int32 → Int32 → Int32 → Int32 → gq_M → Option (Int32 × gq_M)} {x4 : Int32} {x5 : Int32} {x7 : Int32} {x8 : Int32} (hkh6 : ∀ x0 x1 x2 M, E9 M M0 → FB M0 (kh6 x0 x1 x2 M)) (hkh19 : ∀ x0 x1 x2 x3 M, E9 M M0 → FB M0 (kh19 x0 x1 x2 x3 M)) (h : E9 M M0) : FB M0 (f_L_lots_109 N kh6 kh19 x4 x5 x7 x8 M) := by
  unfold f_L_lots_109
  repeat' first | (with_reducible refine fb_g ?_) | (with_reducible refine fb_i ?_ ?_) | (with_reducible refine fb_b ?_ (fun _ _ _ => ?_)) | (with_reducible refine fb_l ?_) | (with_reducible refine fb_s ?_; (repeat first | assumption | refine e9_up ?_ (by decide))) | (with_reducible apply fq_lots_111 <;> first | assumption | (repeat first | assumption | refine e9_up ?_ (by decide))) | (with_reducible apply hkh6; (repeat first | assumption | refine e9_up ?_ (by decide))) | (with_reducible apply hkh19; (repeat first | assumption | refine e9_up ?_ (by decide)))
theorem fq_lots_19_b {N : Nat} {kh6 : Int32 → Int32 → Int32 → gq_M → Option (Int32 × gq_M)} {kh19 : Int32 → Int32 → Int32 → Int32 → gq_M → Option (Int32 × gq_M)} {x4 : Int32} {x5 : Int32} {x7 : Int32} {x8 : Int32} (hkh6 : ∀ x0 x1 x2 M, E9 M M0 → FB M0 (kh6 x0 x1 x2 M)) (hkh19 : ∀ x0 x1 x2 x3 M, E9 M M0 → FB M0 (kh19 x0 x1 x2 x3 M)) (h : E9 M M0) : FB M0 (f_L_lots_19_b N kh6 kh19 x4 x5 x7 x8 M) := by
  unfold f_L_lots_19_b
  repeat' first | (with_reducible refine fb_g ?_) | (with_reducible refine fb_i ?_ ?_) | (with_reducible refine fb_b ?_ (fun _ _ _ => ?_)) | (with_reducible refine fb_l ?_) | (with_reducible refine fb_s ?_; (repeat first | assumption | refine e9_up ?_ (by decide))) | (with_reducible apply fq_lots_132 <;> first | assumption | (repeat first | assumption | refine e9_up ?_ (by decide))) | (with_reducible apply fq_isToSell <;> first | assumption | (repeat first | assumption | refine e9_up ?_ (by decide))) | (with_reducible apply fq_lots_109 <;> first | assumption | (repeat first | assumption | refine e9_up ?_ (by decide))) | (with_reducible apply fq_lots_111 <;> first | assumption | (repeat first | assumption | refine e9_up ?_ (by decide))) | (with_reducible apply hkh6; (repeat first | assumption | refine e9_up ?_ (by decide))) | (with_reducible apply hkh19; (repeat first | assumption | refine e9_up ?_ (by decide)))
theorem fq_lots_19 {N : Nat} {kh6 : Int32 → Int32 → Int32 → gq_M → Option (Int32 × gq_M)} (hkh6 : ∀ x0 x1 x2 M, E9 M M0 → FB M0 (kh6 x0 x1 x2 M)) : ∀ (n : Nat) x0 x1 x2 x3 M, E9 M M0 → FB M0 (f_L_lots_19 N kh6 n x0 x1 x2 x3 M) := by
  intro n
  induction n with
  | zero => intro x0 x1 x2 x3 M h; exact fb_n
  | succ n ih => intro x0 x1 x2 x3 M h; exact fq_lots_19_b hkh6 ih h
theorem fq_lots_6_b {N : Nat} {kh6 : Int32 → Int32 → Int32 → gq_M → Option (Int32 × gq_M)} {x4 : Int32} {x5 : Int32} {x6 : Int32} (hkh6 : ∀ x0 x1 x2 M, E9 M M0 → FB M0 (kh6 x0 x1 x2 M)) (h : E9 M M0) : FB M0 (f_L_lots_6_b N kh6 x4 x5 x6 M) := by
  unfold f_L_lots_6_b
  repeat' first | (with_reducible refine fb_g ?_) | (with_reducible refine fb_i ?_ ?_) | (with_reducible refine fb_b ?_ (fun _ _ _ => ?_)) | (with_reducible refine fb_l ?_) | (with_reducible refine fb_s ?_; (repeat first | assumption | refine e9_up ?_ (by decide))) | (with_reducible apply fq_lots_19 <;> first | assumption | (repeat first | assumption | refine e9_up ?_ (by decide))) | (with_reducible apply hkh6; (repeat first | assumption | refine e9_up ?_ (by decide)))
theorem fq_lots_6 {N : Nat}  : ∀ (n : Nat) x0 x1 x2 M, E9 M M0 → FB M0 (f_L_lots_6 N n x0 x1 x2 M) := by
  intro n
  induction n with
  | zero => intro x0 x1 x2 M h; exact fb_n
  | succ n ih => intro x0 x1 x2 M h; exact fq_lots_6_b  ih h
theorem fq_lots {N : Nat} {a4 : Int32}  (h : E9 M M0) : FB M0 (f_L_lots N a4 M) := by
  unfold f_L_lots
  repeat' first | (with_reducible refine fb_g ?_) | (with_reducible refine fb_i ?_ ?_) | (with_reducible refine fb_b ?_ (fun _ _ _ => ?_)) | (with_reducible refine fb_l ?_) | (with_reducible refine fb_s ?_; (repeat first | assumption | refine e9_up ?_ (by decide))) | (with_reducible apply fq_lots_6 <;> first | assumption | (repeat first | assumption | refine e9_up ?_ (by decide)))
theorem fq_opens_237_b {N : Nat} {kh237 : Int32 → gq_M → Option (Int32 × gq_M)} {x7 : Int32} (hkh237 : ∀ x0 M, E9 M M0 → FB M0 (kh237 x0 M)) (h : E9 M M0) : FB M0 (f_L_opens_237_b N kh237 x7 M) := by
  unfold f_L_opens_237_b
  repeat' first | (with_reducible refine fb_g ?_) | (with_reducible refine fb_i ?_ ?_) | (with_reducible refine fb_b ?_ (fun _ _ _ => ?_)) | (with_reducible refine fb_l ?_) | (with_reducible refine fb_s ?_; (repeat first | assumption | refine e9_up ?_ (by decide))) | (with_reducible apply fq_comes <;> first | assumption | (repeat first | assumption | refine e9_up ?_ (by decide))) | (with_reducible apply hkh237; (repeat first | assumption | refine e9_up ?_ (by decide)))
theorem fq_opens_237 {N : Nat}  : ∀ (n : Nat) x0 M, E9 M M0 → FB M0 (f_L_opens_237 N n x0 M) := by
  intro n
  induction n with
  | zero => intro x0 M h; exact fb_n
  | succ n ih => intro x0 M h; exact fq_opens_237_b  ih h
theorem fq_opens_188 {N : Nat} {kh36 : Int32 → gq_M → Option (Int32 × gq_M)} {kh107 : Int32 → Int32 → gq_M → Option (Int32 × gq_M)} {kh173 : Int32 → Int32 → Int32 → Int32 → gq_M → Option (Int32 × gq_M)} {x7 : Int32} {x8 : Int32} {x10 : Int32} {x11 : Int32} (hkh36 : ∀ x0 M, E9 M M0 → FB M0 (kh36 x0 M)) (hkh107 : ∀ x0 x1 M, E9 M M0 → FB M0 (kh107 x0 x1 M)) (hkh173 : ∀ x0 x1 x2 x3 M, E9 M M0 → FB M0 (kh173 x0 x1 x2 x3 M)) (h : E9 M M0) : FB M0 (f_L_opens_188 N kh36 kh107 kh173 x7 x8 x10 x11 M) := by
  unfold f_L_opens_188
  repeat' first | (with_reducible refine fb_g ?_) | (with_reducible refine fb_i ?_ ?_) | (with_reducible refine fb_b ?_ (fun _ _ _ => ?_)) | (with_reducible refine fb_l ?_) | (with_reducible refine fb_s ?_; (repeat first | assumption | refine e9_up ?_ (by decide))) | (with_reducible apply hkh36; (repeat first | assumption | refine e9_up ?_ (by decide))) | (with_reducible apply hkh107; (repeat first | assumption | refine e9_up ?_ (by decide))) | (with_reducible apply hkh173; (repeat first | assumption | refine e9_up ?_ (by decide)))
theorem fq_opens_173_b {N : Nat} {kh36 : Int32 → gq_M → Option (Int32 × gq_M)} {kh107 : Int32 → Int32 → gq_M → Option (Int32 × gq_M)} {kh173 : Int32 → Int32 → Int32 → Int32 → gq_M → Option (Int32 × gq_M)} {x7 : Int32} {x8 : Int32} {x10 : Int32} {x11 : Int32} (hkh36 : ∀ x0 M, E9 M M0 → FB M0 (kh36 x0 M)) (hkh107 : ∀ x0 x1 M, E9 M M0 → FB M0 (kh107 x0 x1 M)) (hkh173 : ∀ x0 x1 x2 x3 M, E9 M M0 → FB M0 (kh173 x0 x1 x2 x3 M)) (h : E9 M M0) : FB M0 (f_L_opens_173_b N kh36 kh107 kh173 x7 x8 x10 x11 M) := by
  unfold f_L_opens_173_b
  repeat' first | (with_reducible refine fb_g ?_) | (with_reducible refine fb_i ?_ ?_) | (with_reducible refine fb_b ?_ (fun _ _ _ => ?_)) | (with_reducible refine fb_l ?_) | (with_reducible refine fb_s ?_; (repeat first | assumption | refine e9_up ?_ (by decide))) | (with_reducible apply fq_opens_188 <;> first | assumption | (repeat first | assumption | refine e9_up ?_ (by decide))) | (with_reducible apply fq_lots <;> first | assumption | (repeat first | assumption | refine e9_up ?_ (by decide))) | (with_reducible apply hkh36; (repeat first | assumption | refine e9_up ?_ (by decide))) | (with_reducible apply hkh107; (repeat first | assumption | refine e9_up ?_ (by decide))) | (with_reducible apply hkh173; (repeat first | assumption | refine e9_up ?_ (by decide)))
theorem fq_opens_173 {N : Nat} {kh36 : Int32 → gq_M → Option (Int32 × gq_M)} {kh107 : Int32 → Int32 → gq_M → Option (Int32 × gq_M)} (hkh36 : ∀ x0 M, E9 M M0 → FB M0 (kh36 x0 M)) (hkh107 : ∀ x0 x1 M, E9 M M0 → FB M0 (kh107 x0 x1 M)) : ∀ (n : Nat) x0 x1 x2 x3 M, E9 M M0 → FB M0 (f_L_opens_173 N kh36 kh107 n x0 x1 x2 x3 M) := by
  intro n
  induction n with
  | zero => intro x0 x1 x2 x3 M h; exact fb_n
  | succ n ih => intro x0 x1 x2 x3 M h; exact fq_opens_173_b hkh36 hkh107 ih h
theorem fq_opens_118_b {N : Nat} {kh36 : Int32 → gq_M → Option (Int32 × gq_M)} {kh107 : Int32 → Int32 → gq_M → Option (Int32 × gq_M)} {kh118 : Int32 → Int32 → Int32 → Int32 → gq_M → Option (Int32 × gq_M)} {x7 : Int32} {x8 : Int32} {x9 : Int32} {x10 : Int32} (hkh36 : ∀ x0 M, E9 M M0 → FB M0 (kh36 x0 M)) (hkh107 : ∀ x0 x1 M, E9 M M0 → FB M0 (kh107 x0 x1 M)) (hkh118 : ∀ x0 x1 x2 x3 M, E9 M M0 → FB M0 (kh118 x0 x1 x2 x3 M)) (h : E9 M M0) : FB M0 (f_L_opens_118_b N kh36 kh107 kh118 x7 x8 x9 x10 M) := by
  unfold f_L_opens_118_b
  repeat' first | (with_reducible refine fb_g ?_) | (with_reducible refine fb_i ?_ ?_) | (with_reducible refine fb_b ?_ (fun _ _ _ => ?_)) | (with_reducible refine fb_l ?_) | (with_reducible refine fb_s ?_; (repeat first | assumption | refine e9_up ?_ (by decide))) | (with_reducible apply fq_opens_173 <;> first | assumption | (repeat first | assumption | refine e9_up ?_ (by decide))) | (with_reducible apply hkh36; (repeat first | assumption | refine e9_up ?_ (by decide))) | (with_reducible apply hkh107; (repeat first | assumption | refine e9_up ?_ (by decide))) | (with_reducible apply hkh118; (repeat first | assumption | refine e9_up ?_ (by decide)))
theorem fq_opens_118 {N : Nat} {kh36 : Int32 → gq_M → Option (Int32 × gq_M)} {kh107 : Int32 → Int32 → gq_M → Option (Int32 × gq_M)} (hkh36 : ∀ x0 M, E9 M M0 → FB M0 (kh36 x0 M)) (hkh107 : ∀ x0 x1 M, E9 M M0 → FB M0 (kh107 x0 x1 M)) : ∀ (n : Nat) x0 x1 x2 x3 M, E9 M M0 → FB M0 (f_L_opens_118 N kh36 kh107 n x0 x1 x2 x3 M) := by
  intro n
  induction n with
  | zero => intro x0 x1 x2 x3 M h; exact fb_n
  | succ n ih => intro x0 x1 x2 x3 M h; exact fq_opens_118_b hkh36 hkh107 ih h
theorem fq_opens_107_b {N : Nat} {kh36 : Int32 → gq_M → Option (Int32 × gq_M)} {kh107 : Int32 → Int32 → gq_M → Option (Int32 × gq_M)} {x7 : Int32} {x8 : Int32} (hkh36 : ∀ x0 M, E9 M M0 → FB M0 (kh36 x0 M)) (hkh107 : ∀ x0 x1 M, E9 M M0 → FB M0 (kh107 x0 x1 M)) (h : E9 M M0) : FB M0 (f_L_opens_107_b N kh36 kh107 x7 x8 M) := by
  unfold f_L_opens_107_b
  repeat' first | (with_reducible refine fb_g ?_) | (with_reducible refine fb_i ?_ ?_) | (with_reducible refine fb_b ?_ (fun _ _ _ => ?_)) | (with_reducible refine fb_l ?_) | (with_reducible refine fb_s ?_; (repeat first | assumption | refine e9_up ?_ (by decide))) | (with_reducible apply fq_opens_118 <;> first | assumption | (repeat first | assumption | refine e9_up ?_ (by decide))) | (with_reducible apply hkh36; (repeat first | assumption | refine e9_up ?_ (by decide))) | (with_reducible apply hkh107; (repeat first | assumption | refine e9_up ?_ (by decide)))
theorem fq_opens_107 {N : Nat} {kh36 : Int32 → gq_M → Option (Int32 × gq_M)} (hkh36 : ∀ x0 M, E9 M M0 → FB M0 (kh36 x0 M)) : ∀ (n : Nat) x0 x1 M, E9 M M0 → FB M0 (f_L_opens_107 N kh36 n x0 x1 M) := by
  intro n
  induction n with
  | zero => intro x0 x1 M h; exact fb_n
  | succ n ih => intro x0 x1 M h; exact fq_opens_107_b hkh36 ih h
theorem fq_opens_98 {N : Nat} {kh36 : Int32 → gq_M → Option (Int32 × gq_M)} {kh47 : Int32 → Int32 → Int32 → gq_M → Option (Int32 × gq_M)} {x7 : Int32} {x9 : Int32} {s0 : Int32} {s1 : Int32} (hkh36 : ∀ x0 M, E9 M M0 → FB M0 (kh36 x0 M)) (hkh47 : ∀ x0 x1 x2 M, E9 M M0 → FB M0 (kh47 x0 x1 x2 M)) (h : E9 M M0) : FB M0 (f_L_opens_98 N kh36 kh47 x7 x9 s0 s1 M) := by
  unfold f_L_opens_98
  repeat' first | (with_reducible refine fb_g ?_) | (with_reducible refine fb_i ?_ ?_) | (with_reducible refine fb_b ?_ (fun _ _ _ => ?_)) | (with_reducible refine fb_l ?_) | (with_reducible refine fb_s ?_; (repeat first | assumption | refine e9_up ?_ (by decide))) | (with_reducible apply hkh36; (repeat first | assumption | refine e9_up ?_ (by decide))) | (with_reducible apply hkh47; (repeat first | assumption | refine e9_up ?_ (by decide)))
theorem fq_opens_97 {N : Nat} {kh36 : Int32 → gq_M → Option (Int32 × gq_M)} {kh47 : Int32 → Int32 → Int32 → gq_M → Option (Int32 × gq_M)} {x7 : Int32} {x9 : Int32} {s0 : Int32} (hkh36 : ∀ x0 M, E9 M M0 → FB M0 (kh36 x0 M)) (hkh47 : ∀ x0 x1 x2 M, E9 M M0 → FB M0 (kh47 x0 x1 x2 M)) (h : E9 M M0) : FB M0 (f_L_opens_97 N kh36 kh47 x7 x9 s0 M) := by
  unfold f_L_opens_97
  repeat' first | (with_reducible refine fb_g ?_) | (with_reducible refine fb_i ?_ ?_) | (with_reducible refine fb_b ?_ (fun _ _ _ => ?_)) | (with_reducible refine fb_l ?_) | (with_reducible refine fb_s ?_; (repeat first | assumption | refine e9_up ?_ (by decide))) | (with_reducible apply fq_opens_98 <;> first | assumption | (repeat first | assumption | refine e9_up ?_ (by decide))) | (with_reducible apply hkh36; (repeat first | assumption | refine e9_up ?_ (by decide))) | (with_reducible apply hkh47; (repeat first | assumption | refine e9_up ?_ (by decide)))
theorem fq_opens_47_b {N : Nat} {kh36 : Int32 → gq_M → Option (Int32 × gq_M)} {kh47 : Int32 → Int32 → Int32 → gq_M → Option (Int32 × gq_M)} {x7 : Int32} {x8 : Int32} {x9 : Int32} (hkh36 : ∀ x0 M, E9 M M0 → FB M0 (kh36 x0 M)) (hkh47 : ∀ x0 x1 x2 M, E9 M M0 → FB M0 (kh47 x0 x1 x2 M)) (h : E9 M M0) : FB M0 (f_L_opens_47_b N kh36 kh47 x7 x8 x9 M) := by
  unfold f_L_opens_47_b
  repeat' first | (with_reducible refine fb_g ?_) | (with_reducible refine fb_i ?_ ?_) | (with_reducible refine fb_b ?_ (fun _ _ _ => ?_)) | (with_reducible refine fb_l ?_) | (with_reducible refine fb_s ?_; (repeat first | assumption | refine e9_up ?_ (by decide))) | (with_reducible apply fq_opens_107 <;> first | assumption | (repeat first | assumption | refine e9_up ?_ (by decide))) | (with_reducible apply fq_isToSell <;> first | assumption | (repeat first | assumption | refine e9_up ?_ (by decide))) | (with_reducible apply fq_opens_97 <;> first | assumption | (repeat first | assumption | refine e9_up ?_ (by decide))) | (with_reducible apply fq_opens_98 <;> first | assumption | (repeat first | assumption | refine e9_up ?_ (by decide))) | (with_reducible apply hkh36; (repeat first | assumption | refine e9_up ?_ (by decide))) | (with_reducible apply hkh47; (repeat first | assumption | refine e9_up ?_ (by decide)))
theorem fq_opens_47 {N : Nat} {kh36 : Int32 → gq_M → Option (Int32 × gq_M)} (hkh36 : ∀ x0 M, E9 M M0 → FB M0 (kh36 x0 M)) : ∀ (n : Nat) x0 x1 x2 M, E9 M M0 → FB M0 (f_L_opens_47 N kh36 n x0 x1 x2 M) := by
  intro n
  induction n with
  | zero => intro x0 x1 x2 M h; exact fb_n
  | succ n ih => intro x0 x1 x2 M h; exact fq_opens_47_b hkh36 ih h
theorem fq_opens_36_b {N : Nat} {kh36 : Int32 → gq_M → Option (Int32 × gq_M)} {x7 : Int32} (hkh36 : ∀ x0 M, E9 M M0 → FB M0 (kh36 x0 M)) (h : E9 M M0) : FB M0 (f_L_opens_36_b N kh36 x7 M) := by
  unfold f_L_opens_36_b
  repeat' first | (with_reducible refine fb_g ?_) | (with_reducible refine fb_i ?_ ?_) | (with_reducible refine fb_b ?_ (fun _ _ _ => ?_)) | (with_reducible refine fb_l ?_) | (with_reducible refine fb_s ?_; (repeat first | assumption | refine e9_up ?_ (by decide))) | (with_reducible apply fq_opens_237 <;> first | assumption | (repeat first | assumption | refine e9_up ?_ (by decide))) | (with_reducible apply fq_opens_47 <;> first | assumption | (repeat first | assumption | refine e9_up ?_ (by decide))) | (with_reducible apply hkh36; (repeat first | assumption | refine e9_up ?_ (by decide)))
theorem fq_opens_36 {N : Nat}  : ∀ (n : Nat) x0 M, E9 M M0 → FB M0 (f_L_opens_36 N n x0 M) := by
  intro n
  induction n with
  | zero => intro x0 M h; exact fb_n
  | succ n ih => intro x0 M h; exact fq_opens_36_b  ih h
theorem fq_opens_13_b {N : Nat} {kh13 : Int32 → gq_M → Option (Int32 × gq_M)} {x7 : Int32} (hkh13 : ∀ x0 M, E9 M M0 → FB M0 (kh13 x0 M)) (h : E9 M M0) : FB M0 (f_L_opens_13_b N kh13 x7 M) := by
  unfold f_L_opens_13_b
  repeat' first | (with_reducible refine fb_g ?_) | (with_reducible refine fb_i ?_ ?_) | (with_reducible refine fb_b ?_ (fun _ _ _ => ?_)) | (with_reducible refine fb_l ?_) | (with_reducible refine fb_s ?_; (repeat first | assumption | refine e9_up ?_ (by decide))) | (with_reducible apply fq_opens_36 <;> first | assumption | (repeat first | assumption | refine e9_up ?_ (by decide))) | (with_reducible apply hkh13; (repeat first | assumption | refine e9_up ?_ (by decide)))
theorem fq_opens_13 {N : Nat}  : ∀ (n : Nat) x0 M, E9 M M0 → FB M0 (f_L_opens_13 N n x0 M) := by
  intro n
  induction n with
  | zero => intro x0 M h; exact fb_n
  | succ n ih => intro x0 M h; exact fq_opens_13_b  ih h
theorem fq_opens {N : Nat}  (h : E9 M M0) : FB M0 (f_L_opens N M) := by
  unfold f_L_opens
  repeat' first | (with_reducible refine fb_g ?_) | (with_reducible refine fb_i ?_ ?_) | (with_reducible refine fb_b ?_ (fun _ _ _ => ?_)) | (with_reducible refine fb_l ?_) | (with_reducible refine fb_s ?_; (repeat first | assumption | refine e9_up ?_ (by decide))) | (with_reducible apply fq_opens_13 <;> first | assumption | (repeat first | assumption | refine e9_up ?_ (by decide)))
end

