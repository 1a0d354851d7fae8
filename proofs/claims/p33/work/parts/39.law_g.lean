section
variable {p : Program} {l : Launch} {e : Env} {s : State} {m : MethodId} {below : List Frame} {meth : Method} {c : Code} {D : va_G} {cI cZ : ClassId} {ad : Nat → Nat} {b : Nat}
def f_L_law_851 (sl : Nat) (xs : Nat → Int32) (N : Nat) (x16 : Int32) (M : gq_M) : Option (Int32 × gq_M) :=
  some (x16, M)
set_option maxHeartbeats 4000000 in
set_option maxRecDepth 20000 in
theorem t_L_law_851 {N sl : Nat} {xs : Nat → Int32} {M9 : gq_M} (hl9 : l.stackTraces = false) (hZ : gq_Zn (lw_A s) s) (hX : va_X b sl xs s s.heap) (hbl : b < s.heap.size) (hbA : ¬ lw_A s b) (hsl : sl ≤ 260) (hN : N ≤ 1000) (hC : gq_C p s m #[Value.ref b] meth c D (lw_A s) cI cZ ad mtL RL cL_law 23) (hr : meth.sig.returnType = ret)   : ∀ (x16 : Int32) (M : gq_M) (kc ks : Nat), kc + 0 ≤ 600074 → ks + 0 ≤ 7301550 → f_L_law_851 sl xs N  x16 M = some (1, M9) → gq_W p l e room_1 s m #[Value.ref b] below meth c D (lw_A s) cI cZ ad mtL 23 (lw_Z below #[Value.ref b] s) 851 [(16, .int x16)] [] M kc ks := by
  intro x16 M kc ks hkc hks h
  unfold f_L_law_851 at h
  refine g_iload hC 0 rfl dL_law_851 ?_
  exact g_lawret hC hr (by omega) (by omega) h dL_law_853
def f_L_law_843 (sl : Nat) (xs : Nat → Int32) (N : Nat) (kh399 : Int32 → Int32 → gq_M → Option (Int32 × gq_M)) (x17 : Int32) (s0 : Int32) (M : gq_M) : Option (Int32 × gq_M) :=
  kh399 s0 (x17 + 1) M
set_option maxHeartbeats 4000000 in
set_option maxRecDepth 20000 in
theorem t_L_law_843 {N sl : Nat} {xs : Nat → Int32} {K1 S1 : Nat} {kh399 : Int32 → Int32 → gq_M → Option (Int32 × gq_M)} {M9 : gq_M} (hl9 : l.stackTraces = false) (hZ : gq_Zn (lw_A s) s) (hX : va_X b sl xs s s.heap) (hbl : b < s.heap.size) (hbA : ¬ lw_A s b) (hsl : sl ≤ 260) (hN : N ≤ 1000) (hC : gq_C p s m #[Value.ref b] meth c D (lw_A s) cI cZ ad mtL RL cL_law 23) (hr : meth.sig.returnType = ret) (hK1 : K1 ≤ 600074) (hS1 : S1 ≤ 7301550) (hk399 : ∀ (x16 : Int32) (x17 : Int32) (M : gq_M) (kc ks : Nat), kc ≤ K1 → ks ≤ S1 → kh399 x16 x17 M = some (1, M9) → gq_W p l e room_1 s m #[Value.ref b] below meth c D (lw_A s) cI cZ ad mtL 23 (lw_Z below #[Value.ref b] s) 399 [(0, .ref b), (1, .ref (ad 0)), (2, .ref (ad 109)), (3, .ref (ad 110)), (4, .ref (ad 111)), (5, .ref (ad 112)), (6, .ref (ad 113)), (7, .ref (ad 114)), (8, .ref (ad 115)), (9, .ref (ad 116)), (10, .ref (ad 117)), (11, .ref (ad 118)), (12, .ref (ad 119)), (13, .ref (ad 120)), (14, .ref (ad 121)), (15, .ref (ad 122)), (16, .int x16), (17, .int x17)] [] M kc ks)  : ∀ (x17 : Int32) (s0 : Int32) (M : gq_M) (kc ks : Nat), kc + 0 ≤ K1 → ks + 0 ≤ S1 → f_L_law_843 sl xs N kh399 x17 s0 M = some (1, M9) → gq_W p l e room_1 s m #[Value.ref b] below meth c D (lw_A s) cI cZ ad mtL 23 (lw_Z below #[Value.ref b] s) 843 [(0, .ref b), (1, .ref (ad 0)), (2, .ref (ad 109)), (3, .ref (ad 110)), (4, .ref (ad 111)), (5, .ref (ad 112)), (6, .ref (ad 113)), (7, .ref (ad 114)), (8, .ref (ad 115)), (9, .ref (ad 116)), (10, .ref (ad 117)), (11, .ref (ad 118)), (12, .ref (ad 119)), (13, .ref (ad 120)), (14, .ref (ad 121)), (15, .ref (ad 122)), (17, .int x17)] [.int s0] M kc ks := by
  intro x17 s0 M kc ks hkc hks h
  unfold f_L_law_843 at h
  refine g_istore (L2 := [(16, .int s0), (0, .ref b), (1, .ref (ad 0)), (2, .ref (ad 109)), (3, .ref (ad 110)), (4, .ref (ad 111)), (5, .ref (ad 112)), (6, .ref (ad 113)), (7, .ref (ad 114)), (8, .ref (ad 115)), (9, .ref (ad 116)), (10, .ref (ad 117)), (11, .ref (ad 118)), (12, .ref (ad 119)), (13, .ref (ad 120)), (14, .ref (ad 121)), (15, .ref (ad 122)), (17, .int x17)]) hC (by decide) rfl dL_law_843 ?_
  refine g_iinc (v := (x17 + 1)) (L2 := [(17, .int (x17 + 1)), (16, .int s0), (0, .ref b), (1, .ref (ad 0)), (2, .ref (ad 109)), (3, .ref (ad 110)), (4, .ref (ad 111)), (5, .ref (ad 112)), (6, .ref (ad 113)), (7, .ref (ad 114)), (8, .ref (ad 115)), (9, .ref (ad 116)), (10, .ref (ad 117)), (11, .ref (ad 118)), (12, .ref (ad 119)), (13, .ref (ad 120)), (14, .ref (ad 121)), (15, .ref (ad 122))]) hC 17 rfl (by first | rfl | decide) (by decide) rfl dL_law_845 ?_
  refine g_goto (tgt := 399) hC (by decide) dL_law_848 ?_
  exact g_weak [2, 3, 4, 5, 6, 7, 8, 9, 10, 11, 12, 13, 14, 15, 16, 17, 1, 0] rfl (hk399 s0 (x17 + 1) M _ _ (by omega) (by omega) h)
def f_L_law_842 (sl : Nat) (xs : Nat → Int32) (N : Nat) (kh399 : Int32 → Int32 → gq_M → Option (Int32 × gq_M)) (x17 : Int32) (M : gq_M) : Option (Int32 × gq_M) :=
  f_L_law_843 sl xs N kh399 x17 0 M
set_option maxHeartbeats 4000000 in
set_option maxRecDepth 20000 in
theorem t_L_law_842 {N sl : Nat} {xs : Nat → Int32} {K1 S1 : Nat} {kh399 : Int32 → Int32 → gq_M → Option (Int32 × gq_M)} {M9 : gq_M} (hl9 : l.stackTraces = false) (hZ : gq_Zn (lw_A s) s) (hX : va_X b sl xs s s.heap) (hbl : b < s.heap.size) (hbA : ¬ lw_A s b) (hsl : sl ≤ 260) (hN : N ≤ 1000) (hC : gq_C p s m #[Value.ref b] meth c D (lw_A s) cI cZ ad mtL RL cL_law 23) (hr : meth.sig.returnType = ret) (hK1 : K1 ≤ 600074) (hS1 : S1 ≤ 7301550) (hk399 : ∀ (x16 : Int32) (x17 : Int32) (M : gq_M) (kc ks : Nat), kc ≤ K1 → ks ≤ S1 → kh399 x16 x17 M = some (1, M9) → gq_W p l e room_1 s m #[Value.ref b] below meth c D (lw_A s) cI cZ ad mtL 23 (lw_Z below #[Value.ref b] s) 399 [(0, .ref b), (1, .ref (ad 0)), (2, .ref (ad 109)), (3, .ref (ad 110)), (4, .ref (ad 111)), (5, .ref (ad 112)), (6, .ref (ad 113)), (7, .ref (ad 114)), (8, .ref (ad 115)), (9, .ref (ad 116)), (10, .ref (ad 117)), (11, .ref (ad 118)), (12, .ref (ad 119)), (13, .ref (ad 120)), (14, .ref (ad 121)), (15, .ref (ad 122)), (16, .int x16), (17, .int x17)] [] M kc ks)  : ∀ (x17 : Int32) (M : gq_M) (kc ks : Nat), kc + 0 ≤ K1 → ks + 0 ≤ S1 → f_L_law_842 sl xs N kh399 x17 M = some (1, M9) → gq_W p l e room_1 s m #[Value.ref b] below meth c D (lw_A s) cI cZ ad mtL 23 (lw_Z below #[Value.ref b] s) 842 [(0, .ref b), (1, .ref (ad 0)), (2, .ref (ad 109)), (3, .ref (ad 110)), (4, .ref (ad 111)), (5, .ref (ad 112)), (6, .ref (ad 113)), (7, .ref (ad 114)), (8, .ref (ad 115)), (9, .ref (ad 116)), (10, .ref (ad 117)), (11, .ref (ad 118)), (12, .ref (ad 119)), (13, .ref (ad 120)), (14, .ref (ad 121)), (15, .ref (ad 122)), (17, .int x17)] [] M kc ks := by
  intro x17 M kc ks hkc hks h
  unfold f_L_law_842 at h
  refine g_iconst (v := 0) hC (by decide) dL_law_842 ?_
  exact g_weak [0, 1, 2, 3, 4, 5, 6, 7, 8, 9, 10, 11, 12, 13, 14, 15, 16] rfl (t_L_law_843 hl9 hZ hX hbl hbA hsl hN hC hr hK1 hS1 hk399 x17 0 M _ _ (by omega) (by omega) h)
def f_L_law_764_b (sl : Nat) (xs : Nat → Int32) (N : Nat) (kh399 : Int32 → Int32 → gq_M → Option (Int32 × gq_M)) (kh764 : Int32 → Int32 → Int32 → Int32 → gq_M → Option (Int32 × gq_M)) (x16 : Int32) (x17 : Int32) (x19 : Int32) (x21 : Int32) (M : gq_M) : Option (Int32 × gq_M) :=
  gq_g (gq_in 4 56) (gq_l (M 119 (4 : Int32).toNatClampNeg) fun v84 => if v84 ≤ x21 then (if x16 = 0 then (f_L_law_842 sl xs N kh399 x17 M) else (gq_b (f_L_isSo N x19 M) fun v87 M89 => if v87 = 0 then (f_L_law_842 sl xs N kh399 x17 M89) else (f_L_law_843 sl xs N kh399 x17 1 M89))) else (gq_g (gq_in x21 40) (gq_l (M 110 x21.toNatClampNeg) fun v92 => gq_g (gq_in x21 40) (gq_l (M 113 x21.toNatClampNeg) fun v94 => gq_l ((v92 - v92 / 16384 * 16384) + (16384 * (v94 - v94 / 131072 * 131072))) fun v95 => gq_g (gq_in x21 40) (gq_l (gq_up M 110 x21.toNatClampNeg v95) fun M97 => kh764 x16 x17 x19 (x21 + 1) M97)))))
def f_L_law_764 (sl : Nat) (xs : Nat → Int32) (N : Nat) (kh399 : Int32 → Int32 → gq_M → Option (Int32 × gq_M)) : Nat → Int32 → Int32 → Int32 → Int32 → gq_M → Option (Int32 × gq_M)
  | 0 => fun _ _ _ _ _ => none
  | n9 + 1 => f_L_law_764_b sl xs N kh399 (f_L_law_764 sl xs N kh399 n9)
set_option maxHeartbeats 4000000 in
set_option maxRecDepth 20000 in
theorem t_L_law_764_b {N sl : Nat} {xs : Nat → Int32} {K1 S1 : Nat} {kh399 : Int32 → Int32 → gq_M → Option (Int32 × gq_M)} {kh764 : Int32 → Int32 → Int32 → Int32 → gq_M → Option (Int32 × gq_M)} {M9 : gq_M} (hl9 : l.stackTraces = false) (hZ : gq_Zn (lw_A s) s) (hX : va_X b sl xs s s.heap) (hbl : b < s.heap.size) (hbA : ¬ lw_A s b) (hsl : sl ≤ 260) (hN : N ≤ 1000) (hC : gq_C p s m #[Value.ref b] meth c D (lw_A s) cI cZ ad mtL RL cL_law 23) (hr : meth.sig.returnType = ret) (hK1 : K1 ≤ 600074) (hS1 : S1 ≤ 7301550) (hk399 : ∀ (x16 : Int32) (x17 : Int32) (M : gq_M) (kc ks : Nat), kc ≤ K1 → ks ≤ S1 → kh399 x16 x17 M = some (1, M9) → gq_W p l e room_1 s m #[Value.ref b] below meth c D (lw_A s) cI cZ ad mtL 23 (lw_Z below #[Value.ref b] s) 399 [(0, .ref b), (1, .ref (ad 0)), (2, .ref (ad 109)), (3, .ref (ad 110)), (4, .ref (ad 111)), (5, .ref (ad 112)), (6, .ref (ad 113)), (7, .ref (ad 114)), (8, .ref (ad 115)), (9, .ref (ad 116)), (10, .ref (ad 117)), (11, .ref (ad 118)), (12, .ref (ad 119)), (13, .ref (ad 120)), (14, .ref (ad 121)), (15, .ref (ad 122)), (16, .int x16), (17, .int x17)] [] M kc ks) (hk764 : ∀ (x16 : Int32) (x17 : Int32) (x19 : Int32) (x21 : Int32) (M : gq_M) (kc ks : Nat), kc + 3 ≤ K1 → ks + 18 ≤ S1 → kh764 x16 x17 x19 x21 M = some (1, M9) → gq_W p l e room_1 s m #[Value.ref b] below meth c D (lw_A s) cI cZ ad mtL 23 (lw_Z below #[Value.ref b] s) 764 [(0, .ref b), (1, .ref (ad 0)), (2, .ref (ad 109)), (3, .ref (ad 110)), (4, .ref (ad 111)), (5, .ref (ad 112)), (6, .ref (ad 113)), (7, .ref (ad 114)), (8, .ref (ad 115)), (9, .ref (ad 116)), (10, .ref (ad 117)), (11, .ref (ad 118)), (12, .ref (ad 119)), (13, .ref (ad 120)), (14, .ref (ad 121)), (15, .ref (ad 122)), (16, .int x16), (17, .int x17), (19, .int x19), (21, .int x21)] [] M kc ks) : ∀ (x16 : Int32) (x17 : Int32) (x19 : Int32) (x21 : Int32) (M : gq_M) (kc ks : Nat), kc + 3 ≤ K1 → ks + 18 ≤ S1 → f_L_law_764_b sl xs N kh399 kh764 x16 x17 x19 x21 M = some (1, M9) → gq_W p l e room_1 s m #[Value.ref b] below meth c D (lw_A s) cI cZ ad mtL 23 (lw_Z below #[Value.ref b] s) 764 [(0, .ref b), (1, .ref (ad 0)), (2, .ref (ad 109)), (3, .ref (ad 110)), (4, .ref (ad 111)), (5, .ref (ad 112)), (6, .ref (ad 113)), (7, .ref (ad 114)), (8, .ref (ad 115)), (9, .ref (ad 116)), (10, .ref (ad 117)), (11, .ref (ad 118)), (12, .ref (ad 119)), (13, .ref (ad 120)), (14, .ref (ad 121)), (15, .ref (ad 122)), (16, .int x16), (17, .int x17), (19, .int x19), (21, .int x21)] [] M kc ks := by
  intro x16 x17 x19 x21 M kc ks hkc hks h
  unfold f_L_law_764_b at h
  refine g_iload hC 19 rfl dL_law_764 ?_
  refine g_aload hC 12 rfl dL_law_766 ?_
  refine g_iconst (v := 4) hC (by decide) dL_law_768 ?_
  obtain ⟨g83, h⟩ := gq_g_i h
  refine g_iald hC arL_119 (gq_in_i g83) dL_law_769 ?_
  refine g_topi (fun v84 hv84 => ?_)
  replace h := gq_l_i hv84 h
  refine g_icmp_ge (tgt := 804) hC (by decide) dL_law_770 (fun c85 => ?_) (fun c85 => ?_)
  · replace h := gq_t c85 h
    refine g_iload hC 16 rfl dL_law_804 ?_
    refine g_if_eq (tgt := 842) hC (by decide) dL_law_806 (fun c86 => ?_) (fun c86 => ?_)
    · replace h := gq_t c86 h
      exact g_weak [0, 1, 2, 3, 4, 5, 6, 7, 8, 9, 10, 11, 12, 13, 14, 15, 17] rfl (t_L_law_842 hl9 hZ hX hbl hbA hsl hN hC hr hK1 hS1 hk399 x17 M _ _ (by omega) (by omega) h)
    · replace h := gq_f c86 h
      refine g_aload_n hC 1 rfl rfl dL_law_809 ?_
      refine g_aload_n hC 2 rfl rfl dL_law_810 ?_
      refine g_aload_n hC 3 rfl rfl dL_law_811 ?_
      refine g_aload hC 4 rfl dL_law_812 ?_
      refine g_aload hC 5 rfl dL_law_814 ?_
      refine g_aload hC 6 rfl dL_law_816 ?_
      refine g_aload hC 7 rfl dL_law_818 ?_
      refine g_aload hC 8 rfl dL_law_820 ?_
      refine g_aload hC 12 rfl dL_law_822 ?_
      refine g_aload hC 13 rfl dL_law_824 ?_
      refine g_aload hC 14 rfl dL_law_826 ?_
      refine g_aload hC 15 rfl dL_law_828 ?_
      refine g_iload hC 18 rfl dL_law_830 ?_
      obtain ⟨v87, M89, c88, h⟩ := gq_b_i h
      refine g_LNi (as := [.ref (ad 0), .ref (ad 109), .ref (ad 110), .ref (ad 111), .ref (ad 112), .ref (ad 113), .ref (ad 114), .ref (ad 115), .ref (ad 119), .ref (ad 120), .ref (ad 121), .ref (ad 122), .int x19]) hC hZ (t_L_isSo hl9 N _ _ _ _ c88) mS_L_isSo wm_L_225 rfl rfl (Nat.le_of_ble_eq_true rfl) ⟨Nat.le_of_ble_eq_true rfl, Nat.le_of_ble_eq_true rfl⟩ ⟨by show _ ≤ 600074; omega, by show _ ≤ 7301550; omega⟩ dL_law_832 ?_
      refine g_if_eq (tgt := 842) hC (by decide) dL_law_835 (fun c90 => ?_) (fun c90 => ?_)
      · replace h := gq_t c90 h
        exact g_weak [0, 1, 2, 3, 4, 5, 6, 7, 8, 9, 10, 11, 12, 13, 14, 15, 17] rfl (t_L_law_842 hl9 hZ hX hbl hbA hsl hN hC hr hK1 hS1 hk399 x17 M89 _ _ (by omega) (by omega) h)
      · replace h := gq_f c90 h
        refine g_iconst (v := 1) hC (by decide) dL_law_838 ?_
        refine g_goto (tgt := 843) hC (by decide) dL_law_839 ?_
        exact g_weak [0, 1, 2, 3, 4, 5, 6, 7, 8, 9, 10, 11, 12, 13, 14, 15, 17] rfl (t_L_law_843 hl9 hZ hX hbl hbA hsl hN hC hr hK1 hS1 hk399 x17 1 M89 _ _ (by omega) (by omega) h)
  · replace h := gq_f c85 h
    refine g_aload_n hC 3 rfl rfl dL_law_773 ?_
    refine g_iload hC 19 rfl dL_law_774 ?_
    refine g_aload_n hC 3 rfl rfl dL_law_776 ?_
    refine g_iload hC 19 rfl dL_law_777 ?_
    obtain ⟨g91, h⟩ := gq_g_i h
    refine g_iald hC arL_110 (gq_in_i g91) dL_law_779 ?_
    refine g_topi (fun v92 hv92 => ?_)
    replace h := gq_l_i hv92 h
    refine g_sipush (v := 16384) hC (by decide) dL_law_780 ?_
    refine g_irem hC (by decide) dL_law_783 ?_
    refine g_sipush (v := 16384) hC (by decide) dL_law_784 ?_
    refine g_aload hC 6 rfl dL_law_787 ?_
    refine g_iload hC 19 rfl dL_law_789 ?_
    obtain ⟨g93, h⟩ := gq_g_i h
    refine g_iald hC arL_113 (gq_in_i g93) dL_law_791 ?_
    refine g_topi (fun v94 hv94 => ?_)
    replace h := gq_l_i hv94 h
    refine g_ldc (v := 131072) hC wk_L_115 dL_law_792 ?_
    refine g_irem hC (by decide) dL_law_794 ?_
    refine g_imul hC dL_law_795 ?_
    refine g_iadd hC dL_law_796 ?_
    refine g_topi (fun v95 hv95 => ?_)
    replace h := gq_l_i hv95 h
    obtain ⟨g96, h⟩ := gq_g_i h
    refine g_iast hC arL_110 (gq_in_i g96) dL_law_797 ?_
    refine g_topM (fun M97 hM97 => ?_)
    replace h := gq_l_i hM97 h
    refine g_iinc (v := (x21 + 1)) (L2 := [(21, .int (x21 + 1)), (0, .ref b), (1, .ref (ad 0)), (2, .ref (ad 109)), (3, .ref (ad 110)), (4, .ref (ad 111)), (5, .ref (ad 112)), (6, .ref (ad 113)), (7, .ref (ad 114)), (8, .ref (ad 115)), (9, .ref (ad 116)), (10, .ref (ad 117)), (11, .ref (ad 118)), (12, .ref (ad 119)), (13, .ref (ad 120)), (14, .ref (ad 121)), (15, .ref (ad 122)), (16, .int x16), (17, .int x17), (19, .int x19)]) hC 19 rfl (by first | rfl | decide) (by decide) rfl dL_law_798 ?_
    refine g_goto (tgt := 764) hC (by decide) dL_law_801 ?_
    exact g_weak [1, 2, 3, 4, 5, 6, 7, 8, 9, 10, 11, 12, 13, 14, 15, 16, 17, 18, 19, 0] rfl (hk764 x16 x17 x19 (x21 + 1) M97 _ _ (by omega) (by omega) h)
set_option maxHeartbeats 1000000 in
theorem t_L_law_764 {N sl : Nat} {xs : Nat → Int32} {K1 S1 : Nat} {kh399 : Int32 → Int32 → gq_M → Option (Int32 × gq_M)} {M9 : gq_M} (hl9 : l.stackTraces = false) (hZ : gq_Zn (lw_A s) s) (hX : va_X b sl xs s s.heap) (hbl : b < s.heap.size) (hbA : ¬ lw_A s b) (hsl : sl ≤ 260) (hN : N ≤ 1000) (hC : gq_C p s m #[Value.ref b] meth c D (lw_A s) cI cZ ad mtL RL cL_law 23) (hr : meth.sig.returnType = ret) (hK1 : K1 ≤ 600074) (hS1 : S1 ≤ 7301550) (hk399 : ∀ (x16 : Int32) (x17 : Int32) (M : gq_M) (kc ks : Nat), kc ≤ K1 → ks ≤ S1 → kh399 x16 x17 M = some (1, M9) → gq_W p l e room_1 s m #[Value.ref b] below meth c D (lw_A s) cI cZ ad mtL 23 (lw_Z below #[Value.ref b] s) 399 [(0, .ref b), (1, .ref (ad 0)), (2, .ref (ad 109)), (3, .ref (ad 110)), (4, .ref (ad 111)), (5, .ref (ad 112)), (6, .ref (ad 113)), (7, .ref (ad 114)), (8, .ref (ad 115)), (9, .ref (ad 116)), (10, .ref (ad 117)), (11, .ref (ad 118)), (12, .ref (ad 119)), (13, .ref (ad 120)), (14, .ref (ad 121)), (15, .ref (ad 122)), (16, .int x16), (17, .int x17)] [] M kc ks) : ∀ (n9 : Nat) (x16 : Int32) (x17 : Int32) (x19 : Int32) (x21 : Int32) (M : gq_M) (kc ks : Nat), kc + 3 ≤ K1 → ks + 18 ≤ S1 → f_L_law_764 sl xs N kh399 n9 x16 x17 x19 x21 M = some (1, M9) → gq_W p l e room_1 s m #[Value.ref b] below meth c D (lw_A s) cI cZ ad mtL 23 (lw_Z below #[Value.ref b] s) 764 [(0, .ref b), (1, .ref (ad 0)), (2, .ref (ad 109)), (3, .ref (ad 110)), (4, .ref (ad 111)), (5, .ref (ad 112)), (6, .ref (ad 113)), (7, .ref (ad 114)), (8, .ref (ad 115)), (9, .ref (ad 116)), (10, .ref (ad 117)), (11, .ref (ad 118)), (12, .ref (ad 119)), (13, .ref (ad 120)), (14, .ref (ad 121)), (15, .ref (ad 122)), (16, .int x16), (17, .int x17), (19, .int x19), (21, .int x21)] [] M kc ks := by
  intro n9
  induction n9 with
  | zero => intro x16 x17 x19 x21 M kc ks hkc hks h; cases h
  | succ n9 ih => intro x16 x17 x19 x21 M kc ks hkc hks h; exact t_L_law_764_b hl9 hZ hX hbl hbA hsl hN hC hr hK1 hS1 hk399 ih x16 x17 x19 x21 M kc ks hkc hks h
def f_L_law_761 (sl : Nat) (xs : Nat → Int32) (N : Nat) (kh399 : Int32 → Int32 → gq_M → Option (Int32 × gq_M)) (x16 : Int32) (x17 : Int32) (x19 : Int32) (M : gq_M) : Option (Int32 × gq_M) :=
  f_L_law_764 sl xs N kh399 N x16 x17 x19 0 M
set_option maxHeartbeats 4000000 in
set_option maxRecDepth 20000 in
theorem t_L_law_761 {N sl : Nat} {xs : Nat → Int32} {K1 S1 : Nat} {kh399 : Int32 → Int32 → gq_M → Option (Int32 × gq_M)} {M9 : gq_M} (hl9 : l.stackTraces = false) (hZ : gq_Zn (lw_A s) s) (hX : va_X b sl xs s s.heap) (hbl : b < s.heap.size) (hbA : ¬ lw_A s b) (hsl : sl ≤ 260) (hN : N ≤ 1000) (hC : gq_C p s m #[Value.ref b] meth c D (lw_A s) cI cZ ad mtL RL cL_law 23) (hr : meth.sig.returnType = ret) (hK1 : K1 ≤ 600074) (hS1 : S1 ≤ 7301550) (hk399 : ∀ (x16 : Int32) (x17 : Int32) (M : gq_M) (kc ks : Nat), kc ≤ K1 → ks ≤ S1 → kh399 x16 x17 M = some (1, M9) → gq_W p l e room_1 s m #[Value.ref b] below meth c D (lw_A s) cI cZ ad mtL 23 (lw_Z below #[Value.ref b] s) 399 [(0, .ref b), (1, .ref (ad 0)), (2, .ref (ad 109)), (3, .ref (ad 110)), (4, .ref (ad 111)), (5, .ref (ad 112)), (6, .ref (ad 113)), (7, .ref (ad 114)), (8, .ref (ad 115)), (9, .ref (ad 116)), (10, .ref (ad 117)), (11, .ref (ad 118)), (12, .ref (ad 119)), (13, .ref (ad 120)), (14, .ref (ad 121)), (15, .ref (ad 122)), (16, .int x16), (17, .int x17)] [] M kc ks)  : ∀ (x16 : Int32) (x17 : Int32) (x19 : Int32) (M : gq_M) (kc ks : Nat), kc + 3 ≤ K1 → ks + 18 ≤ S1 → f_L_law_761 sl xs N kh399 x16 x17 x19 M = some (1, M9) → gq_W p l e room_1 s m #[Value.ref b] below meth c D (lw_A s) cI cZ ad mtL 23 (lw_Z below #[Value.ref b] s) 761 [(0, .ref b), (1, .ref (ad 0)), (2, .ref (ad 109)), (3, .ref (ad 110)), (4, .ref (ad 111)), (5, .ref (ad 112)), (6, .ref (ad 113)), (7, .ref (ad 114)), (8, .ref (ad 115)), (9, .ref (ad 116)), (10, .ref (ad 117)), (11, .ref (ad 118)), (12, .ref (ad 119)), (13, .ref (ad 120)), (14, .ref (ad 121)), (15, .ref (ad 122)), (16, .int x16), (17, .int x17), (19, .int x19)] [] M kc ks := by
  intro x16 x17 x19 M kc ks hkc hks h
  unfold f_L_law_761 at h
  refine g_iconst (v := 0) hC (by decide) dL_law_761 ?_
  refine g_istore (L2 := [(21, .int 0), (0, .ref b), (1, .ref (ad 0)), (2, .ref (ad 109)), (3, .ref (ad 110)), (4, .ref (ad 111)), (5, .ref (ad 112)), (6, .ref (ad 113)), (7, .ref (ad 114)), (8, .ref (ad 115)), (9, .ref (ad 116)), (10, .ref (ad 117)), (11, .ref (ad 118)), (12, .ref (ad 119)), (13, .ref (ad 120)), (14, .ref (ad 121)), (15, .ref (ad 122)), (16, .int x16), (17, .int x17), (19, .int x19)]) hC (by decide) rfl dL_law_762 ?_
  exact g_weak [1, 2, 3, 4, 5, 6, 7, 8, 9, 10, 11, 12, 13, 14, 15, 16, 17, 18, 19, 0] rfl (t_L_law_764 hl9 hZ hX hbl hbA hsl hN hC hr hK1 hS1 hk399 N x16 x17 x19 0 M _ _ (by omega) (by omega) h)
def f_L_law_759 (sl : Nat) (xs : Nat → Int32) (N : Nat) (kh399 : Int32 → Int32 → gq_M → Option (Int32 × gq_M)) (x17 : Int32) (x19 : Int32) (s0 : Int32) (M : gq_M) : Option (Int32 × gq_M) :=
  f_L_law_761 sl xs N kh399 s0 x17 x19 M
set_option maxHeartbeats 4000000 in
set_option maxRecDepth 20000 in
theorem t_L_law_759 {N sl : Nat} {xs : Nat → Int32} {K1 S1 : Nat} {kh399 : Int32 → Int32 → gq_M → Option (Int32 × gq_M)} {M9 : gq_M} (hl9 : l.stackTraces = false) (hZ : gq_Zn (lw_A s) s) (hX : va_X b sl xs s s.heap) (hbl : b < s.heap.size) (hbA : ¬ lw_A s b) (hsl : sl ≤ 260) (hN : N ≤ 1000) (hC : gq_C p s m #[Value.ref b] meth c D (lw_A s) cI cZ ad mtL RL cL_law 23) (hr : meth.sig.returnType = ret) (hK1 : K1 ≤ 600074) (hS1 : S1 ≤ 7301550) (hk399 : ∀ (x16 : Int32) (x17 : Int32) (M : gq_M) (kc ks : Nat), kc ≤ K1 → ks ≤ S1 → kh399 x16 x17 M = some (1, M9) → gq_W p l e room_1 s m #[Value.ref b] below meth c D (lw_A s) cI cZ ad mtL 23 (lw_Z below #[Value.ref b] s) 399 [(0, .ref b), (1, .ref (ad 0)), (2, .ref (ad 109)), (3, .ref (ad 110)), (4, .ref (ad 111)), (5, .ref (ad 112)), (6, .ref (ad 113)), (7, .ref (ad 114)), (8, .ref (ad 115)), (9, .ref (ad 116)), (10, .ref (ad 117)), (11, .ref (ad 118)), (12, .ref (ad 119)), (13, .ref (ad 120)), (14, .ref (ad 121)), (15, .ref (ad 122)), (16, .int x16), (17, .int x17)] [] M kc ks)  : ∀ (x17 : Int32) (x19 : Int32) (s0 : Int32) (M : gq_M) (kc ks : Nat), kc + 3 ≤ K1 → ks + 18 ≤ S1 → f_L_law_759 sl xs N kh399 x17 x19 s0 M = some (1, M9) → gq_W p l e room_1 s m #[Value.ref b] below meth c D (lw_A s) cI cZ ad mtL 23 (lw_Z below #[Value.ref b] s) 759 [(0, .ref b), (1, .ref (ad 0)), (2, .ref (ad 109)), (3, .ref (ad 110)), (4, .ref (ad 111)), (5, .ref (ad 112)), (6, .ref (ad 113)), (7, .ref (ad 114)), (8, .ref (ad 115)), (9, .ref (ad 116)), (10, .ref (ad 117)), (11, .ref (ad 118)), (12, .ref (ad 119)), (13, .ref (ad 120)), (14, .ref (ad 121)), (15, .ref (ad 122)), (17, .int x17), (19, .int x19)] [.int s0] M kc ks := by
  intro x17 x19 s0 M kc ks hkc hks h
  unfold f_L_law_759 at h
  refine g_istore (L2 := [(16, .int s0), (0, .ref b), (1, .ref (ad 0)), (2, .ref (ad 109)), (3, .ref (ad 110)), (4, .ref (ad 111)), (5, .ref (ad 112)), (6, .ref (ad 113)), (7, .ref (ad 114)), (8, .ref (ad 115)), (9, .ref (ad 116)), (10, .ref (ad 117)), (11, .ref (ad 118)), (12, .ref (ad 119)), (13, .ref (ad 120)), (14, .ref (ad 121)), (15, .ref (ad 122)), (17, .int x17), (19, .int x19)]) hC (by decide) rfl dL_law_759 ?_
  exact g_weak [1, 2, 3, 4, 5, 6, 7, 8, 9, 10, 11, 12, 13, 14, 15, 16, 0, 17, 18] rfl (t_L_law_761 hl9 hZ hX hbl hbA hsl hN hC hr hK1 hS1 hk399 s0 x17 x19 M _ _ (by omega) (by omega) h)
def f_L_law_694_b (sl : Nat) (xs : Nat → Int32) (N : Nat) (kh399 : Int32 → Int32 → gq_M → Option (Int32 × gq_M)) (kh694 : Int32 → Int32 → Int32 → Int32 → gq_M → Option (Int32 × gq_M)) (x17 : Int32) (x19 : Int32) (x21 : Int32) (x22 : Int32) (M : gq_M) : Option (Int32 × gq_M) :=
  if x21 ≤ x22 then (gq_b (f_L_does N 16 x21 0 0 0 0 0 M) fun v102 M104 => gq_g (gq_in 0 56) (gq_l (M104 119 (0 : Int32).toNatClampNeg) fun v106 => if v102 = v106 then (f_L_law_759 sl xs N kh399 x17 x19 1 M104) else (f_L_law_759 sl xs N kh399 x17 x19 0 M104))) else (gq_b (f_L_passes N M) fun v108 M110 => kh694 x17 x19 x21 (x22 + 1) M110)
def f_L_law_694 (sl : Nat) (xs : Nat → Int32) (N : Nat) (kh399 : Int32 → Int32 → gq_M → Option (Int32 × gq_M)) : Nat → Int32 → Int32 → Int32 → Int32 → gq_M → Option (Int32 × gq_M)
  | 0 => fun _ _ _ _ _ => none
  | n9 + 1 => f_L_law_694_b sl xs N kh399 (f_L_law_694 sl xs N kh399 n9)
set_option maxHeartbeats 4000000 in
set_option maxRecDepth 20000 in
theorem t_L_law_694_b {N sl : Nat} {xs : Nat → Int32} {K1 S1 : Nat} {kh399 : Int32 → Int32 → gq_M → Option (Int32 × gq_M)} {kh694 : Int32 → Int32 → Int32 → Int32 → gq_M → Option (Int32 × gq_M)} {M9 : gq_M} (hl9 : l.stackTraces = false) (hZ : gq_Zn (lw_A s) s) (hX : va_X b sl xs s s.heap) (hbl : b < s.heap.size) (hbA : ¬ lw_A s b) (hsl : sl ≤ 260) (hN : N ≤ 1000) (hC : gq_C p s m #[Value.ref b] meth c D (lw_A s) cI cZ ad mtL RL cL_law 23) (hr : meth.sig.returnType = ret) (hK1 : K1 ≤ 600074) (hS1 : S1 ≤ 7301550) (hk399 : ∀ (x16 : Int32) (x17 : Int32) (M : gq_M) (kc ks : Nat), kc ≤ K1 → ks ≤ S1 → kh399 x16 x17 M = some (1, M9) → gq_W p l e room_1 s m #[Value.ref b] below meth c D (lw_A s) cI cZ ad mtL 23 (lw_Z below #[Value.ref b] s) 399 [(0, .ref b), (1, .ref (ad 0)), (2, .ref (ad 109)), (3, .ref (ad 110)), (4, .ref (ad 111)), (5, .ref (ad 112)), (6, .ref (ad 113)), (7, .ref (ad 114)), (8, .ref (ad 115)), (9, .ref (ad 116)), (10, .ref (ad 117)), (11, .ref (ad 118)), (12, .ref (ad 119)), (13, .ref (ad 120)), (14, .ref (ad 121)), (15, .ref (ad 122)), (16, .int x16), (17, .int x17)] [] M kc ks) (hk694 : ∀ (x17 : Int32) (x19 : Int32) (x21 : Int32) (x22 : Int32) (M : gq_M) (kc ks : Nat), kc + 4 ≤ K1 → ks + 24 ≤ S1 → kh694 x17 x19 x21 x22 M = some (1, M9) → gq_W p l e room_1 s m #[Value.ref b] below meth c D (lw_A s) cI cZ ad mtL 23 (lw_Z below #[Value.ref b] s) 694 [(0, .ref b), (1, .ref (ad 0)), (2, .ref (ad 109)), (3, .ref (ad 110)), (4, .ref (ad 111)), (5, .ref (ad 112)), (6, .ref (ad 113)), (7, .ref (ad 114)), (8, .ref (ad 115)), (9, .ref (ad 116)), (10, .ref (ad 117)), (11, .ref (ad 118)), (12, .ref (ad 119)), (13, .ref (ad 120)), (14, .ref (ad 121)), (15, .ref (ad 122)), (17, .int x17), (19, .int x19), (21, .int x21), (22, .int x22)] [] M kc ks) : ∀ (x17 : Int32) (x19 : Int32) (x21 : Int32) (x22 : Int32) (M : gq_M) (kc ks : Nat), kc + 4 ≤ K1 → ks + 24 ≤ S1 → f_L_law_694_b sl xs N kh399 kh694 x17 x19 x21 x22 M = some (1, M9) → gq_W p l e room_1 s m #[Value.ref b] below meth c D (lw_A s) cI cZ ad mtL 23 (lw_Z below #[Value.ref b] s) 694 [(0, .ref b), (1, .ref (ad 0)), (2, .ref (ad 109)), (3, .ref (ad 110)), (4, .ref (ad 111)), (5, .ref (ad 112)), (6, .ref (ad 113)), (7, .ref (ad 114)), (8, .ref (ad 115)), (9, .ref (ad 116)), (10, .ref (ad 117)), (11, .ref (ad 118)), (12, .ref (ad 119)), (13, .ref (ad 120)), (14, .ref (ad 121)), (15, .ref (ad 122)), (17, .int x17), (19, .int x19), (21, .int x21), (22, .int x22)] [] M kc ks := by
  intro x17 x19 x21 x22 M kc ks hkc hks h
  unfold f_L_law_694_b at h
  refine g_iload hC 19 rfl dL_law_694 ?_
  refine g_iload hC 18 rfl dL_law_696 ?_
  refine g_icmp_ge (tgt := 734) hC (by decide) dL_law_698 (fun c101 => ?_) (fun c101 => ?_)
  · replace h := gq_t c101 h
    refine g_aload_n hC 1 rfl rfl dL_law_734 ?_
    refine g_bipush (v := 16) hC (by decide) dL_law_735 ?_
    refine g_iload hC 18 rfl dL_law_737 ?_
    refine g_iconst (v := 0) hC (by decide) dL_law_739 ?_
    refine g_iconst (v := 0) hC (by decide) dL_law_740 ?_
    refine g_iconst (v := 0) hC (by decide) dL_law_741 ?_
    refine g_iconst (v := 0) hC (by decide) dL_law_742 ?_
    refine g_iconst (v := 0) hC (by decide) dL_law_743 ?_
    obtain ⟨v102, M104, c103, h⟩ := gq_b_i h
    refine g_LNH (as := [.ref (ad 0), .int 16, .int x21, .int 0, .int 0, .int 0, .int 0, .int 0]) hC hZ (t_L_does hl9 N _ _ _ _ _ _ _ _ _ _ c103) mH_L_does wm_L_183 rfl rfl (Nat.le_of_ble_eq_true rfl) ⟨Nat.le_of_ble_eq_true rfl, Nat.le_of_ble_eq_true rfl⟩ ⟨by show _ ≤ 600074; omega, by show _ ≤ 7301550; omega⟩ dL_law_744 ?_
    refine g_aload hC 12 rfl dL_law_747 ?_
    refine g_iconst (v := 0) hC (by decide) dL_law_749 ?_
    obtain ⟨g105, h⟩ := gq_g_i h
    refine g_iald hC arL_119 (gq_in_i g105) dL_law_750 ?_
    refine g_topi (fun v106 hv106 => ?_)
    replace h := gq_l_i hv106 h
    refine g_icmp_ne (tgt := 758) hC (by decide) dL_law_751 (fun c107 => ?_) (fun c107 => ?_)
    · replace h := gq_f c107 h
      refine g_iconst (v := 0) hC (by decide) dL_law_758 ?_
      exact g_weak [0, 1, 2, 3, 4, 5, 6, 7, 8, 9, 10, 11, 12, 13, 14, 15, 16, 17] rfl (t_L_law_759 hl9 hZ hX hbl hbA hsl hN hC hr hK1 hS1 hk399 x17 x19 0 M104 _ _ (by omega) (by omega) h)
    · replace h := gq_t c107 h
      refine g_iconst (v := 1) hC (by decide) dL_law_754 ?_
      refine g_goto (tgt := 759) hC (by decide) dL_law_755 ?_
      exact g_weak [0, 1, 2, 3, 4, 5, 6, 7, 8, 9, 10, 11, 12, 13, 14, 15, 16, 17] rfl (t_L_law_759 hl9 hZ hX hbl hbA hsl hN hC hr hK1 hS1 hk399 x17 x19 1 M104 _ _ (by omega) (by omega) h)
  · replace h := gq_f c101 h
    refine g_aload_n hC 2 rfl rfl dL_law_701 ?_
    refine g_aload_n hC 3 rfl rfl dL_law_702 ?_
    refine g_aload hC 4 rfl dL_law_703 ?_
    refine g_aload hC 5 rfl dL_law_705 ?_
    refine g_aload hC 6 rfl dL_law_707 ?_
    refine g_aload hC 7 rfl dL_law_709 ?_
    refine g_aload hC 8 rfl dL_law_711 ?_
    refine g_aload hC 9 rfl dL_law_713 ?_
    refine g_aload hC 10 rfl dL_law_715 ?_
    refine g_aload hC 11 rfl dL_law_717 ?_
    refine g_aload hC 12 rfl dL_law_719 ?_
    refine g_aload hC 14 rfl dL_law_721 ?_
    refine g_aload hC 15 rfl dL_law_723 ?_
    obtain ⟨v108, M110, c109, h⟩ := gq_b_i h
    refine g_Sv (as := [.ref (ad 109), .ref (ad 110), .ref (ad 111), .ref (ad 112), .ref (ad 113), .ref (ad 114), .ref (ad 115), .ref (ad 116), .ref (ad 117), .ref (ad 118), .ref (ad 119), .ref (ad 121), .ref (ad 122)]) hC (t_L_passes N _ _ _ c109) mS_L_passes wm_L_221 rfl rfl (Nat.le_of_ble_eq_true rfl) ⟨Nat.le_of_ble_eq_true rfl, Nat.le_of_ble_eq_true rfl⟩ ⟨by show _ ≤ 600074; omega, by show _ ≤ 7301550; omega⟩ dL_law_725 ?_
    refine g_iinc (v := (x22 + 1)) (L2 := [(22, .int (x22 + 1)), (0, .ref b), (1, .ref (ad 0)), (2, .ref (ad 109)), (3, .ref (ad 110)), (4, .ref (ad 111)), (5, .ref (ad 112)), (6, .ref (ad 113)), (7, .ref (ad 114)), (8, .ref (ad 115)), (9, .ref (ad 116)), (10, .ref (ad 117)), (11, .ref (ad 118)), (12, .ref (ad 119)), (13, .ref (ad 120)), (14, .ref (ad 121)), (15, .ref (ad 122)), (17, .int x17), (19, .int x19), (21, .int x21)]) hC 19 rfl (by first | rfl | decide) (by decide) rfl dL_law_728 ?_
    refine g_goto (tgt := 694) hC (by decide) dL_law_731 ?_
    exact g_weak [1, 2, 3, 4, 5, 6, 7, 8, 9, 10, 11, 12, 13, 14, 15, 16, 17, 18, 19, 0] rfl (hk694 x17 x19 x21 (x22 + 1) M110 _ _ (by omega) (by omega) h)
set_option maxHeartbeats 1000000 in
theorem t_L_law_694 {N sl : Nat} {xs : Nat → Int32} {K1 S1 : Nat} {kh399 : Int32 → Int32 → gq_M → Option (Int32 × gq_M)} {M9 : gq_M} (hl9 : l.stackTraces = false) (hZ : gq_Zn (lw_A s) s) (hX : va_X b sl xs s s.heap) (hbl : b < s.heap.size) (hbA : ¬ lw_A s b) (hsl : sl ≤ 260) (hN : N ≤ 1000) (hC : gq_C p s m #[Value.ref b] meth c D (lw_A s) cI cZ ad mtL RL cL_law 23) (hr : meth.sig.returnType = ret) (hK1 : K1 ≤ 600074) (hS1 : S1 ≤ 7301550) (hk399 : ∀ (x16 : Int32) (x17 : Int32) (M : gq_M) (kc ks : Nat), kc ≤ K1 → ks ≤ S1 → kh399 x16 x17 M = some (1, M9) → gq_W p l e room_1 s m #[Value.ref b] below meth c D (lw_A s) cI cZ ad mtL 23 (lw_Z below #[Value.ref b] s) 399 [(0, .ref b), (1, .ref (ad 0)), (2, .ref (ad 109)), (3, .ref (ad 110)), (4, .ref (ad 111)), (5, .ref (ad 112)), (6, .ref (ad 113)), (7, .ref (ad 114)), (8, .ref (ad 115)), (9, .ref (ad 116)), (10, .ref (ad 117)), (11, .ref (ad 118)), (12, .ref (ad 119)), (13, .ref (ad 120)), (14, .ref (ad 121)), (15, .ref (ad 122)), (16, .int x16), (17, .int x17)] [] M kc ks) : ∀ (n9 : Nat) (x17 : Int32) (x19 : Int32) (x21 : Int32) (x22 : Int32) (M : gq_M) (kc ks : Nat), kc + 4 ≤ K1 → ks + 24 ≤ S1 → f_L_law_694 sl xs N kh399 n9 x17 x19 x21 x22 M = some (1, M9) → gq_W p l e room_1 s m #[Value.ref b] below meth c D (lw_A s) cI cZ ad mtL 23 (lw_Z below #[Value.ref b] s) 694 [(0, .ref b), (1, .ref (ad 0)), (2, .ref (ad 109)), (3, .ref (ad 110)), (4, .ref (ad 111)), (5, .ref (ad 112)), (6, .ref (ad 113)), (7, .ref (ad 114)), (8, .ref (ad 115)), (9, .ref (ad 116)), (10, .ref (ad 117)), (11, .ref (ad 118)), (12, .ref (ad 119)), (13, .ref (ad 120)), (14, .ref (ad 121)), (15, .ref (ad 122)), (17, .int x17), (19, .int x19), (21, .int x21), (22, .int x22)] [] M kc ks := by
  intro n9
  induction n9 with
  | zero => intro x17 x19 x21 x22 M kc ks hkc hks h; cases h
  | succ n9 ih => intro x17 x19 x21 x22 M kc ks hkc hks h; exact t_L_law_694_b hl9 hZ hX hbl hbA hsl hN hC hr hK1 hS1 hk399 ih x17 x19 x21 x22 M kc ks hkc hks h
def f_L_law_689 (sl : Nat) (xs : Nat → Int32) (N : Nat) (kh399 : Int32 → Int32 → gq_M → Option (Int32 × gq_M)) (x17 : Int32) (x19 : Int32) (s0 : Int32) (M : gq_M) : Option (Int32 × gq_M) :=
  f_L_law_694 sl xs N kh399 N x17 x19 s0 0 M
set_option maxHeartbeats 4000000 in
set_option maxRecDepth 20000 in
theorem t_L_law_689 {N sl : Nat} {xs : Nat → Int32} {K1 S1 : Nat} {kh399 : Int32 → Int32 → gq_M → Option (Int32 × gq_M)} {M9 : gq_M} (hl9 : l.stackTraces = false) (hZ : gq_Zn (lw_A s) s) (hX : va_X b sl xs s s.heap) (hbl : b < s.heap.size) (hbA : ¬ lw_A s b) (hsl : sl ≤ 260) (hN : N ≤ 1000) (hC : gq_C p s m #[Value.ref b] meth c D (lw_A s) cI cZ ad mtL RL cL_law 23) (hr : meth.sig.returnType = ret) (hK1 : K1 ≤ 600074) (hS1 : S1 ≤ 7301550) (hk399 : ∀ (x16 : Int32) (x17 : Int32) (M : gq_M) (kc ks : Nat), kc ≤ K1 → ks ≤ S1 → kh399 x16 x17 M = some (1, M9) → gq_W p l e room_1 s m #[Value.ref b] below meth c D (lw_A s) cI cZ ad mtL 23 (lw_Z below #[Value.ref b] s) 399 [(0, .ref b), (1, .ref (ad 0)), (2, .ref (ad 109)), (3, .ref (ad 110)), (4, .ref (ad 111)), (5, .ref (ad 112)), (6, .ref (ad 113)), (7, .ref (ad 114)), (8, .ref (ad 115)), (9, .ref (ad 116)), (10, .ref (ad 117)), (11, .ref (ad 118)), (12, .ref (ad 119)), (13, .ref (ad 120)), (14, .ref (ad 121)), (15, .ref (ad 122)), (16, .int x16), (17, .int x17)] [] M kc ks)  : ∀ (x17 : Int32) (x19 : Int32) (s0 : Int32) (M : gq_M) (kc ks : Nat), kc + 4 ≤ K1 → ks + 24 ≤ S1 → f_L_law_689 sl xs N kh399 x17 x19 s0 M = some (1, M9) → gq_W p l e room_1 s m #[Value.ref b] below meth c D (lw_A s) cI cZ ad mtL 23 (lw_Z below #[Value.ref b] s) 689 [(0, .ref b), (1, .ref (ad 0)), (2, .ref (ad 109)), (3, .ref (ad 110)), (4, .ref (ad 111)), (5, .ref (ad 112)), (6, .ref (ad 113)), (7, .ref (ad 114)), (8, .ref (ad 115)), (9, .ref (ad 116)), (10, .ref (ad 117)), (11, .ref (ad 118)), (12, .ref (ad 119)), (13, .ref (ad 120)), (14, .ref (ad 121)), (15, .ref (ad 122)), (17, .int x17), (19, .int x19)] [.int s0] M kc ks := by
  intro x17 x19 s0 M kc ks hkc hks h
  unfold f_L_law_689 at h
  refine g_istore (L2 := [(21, .int s0), (0, .ref b), (1, .ref (ad 0)), (2, .ref (ad 109)), (3, .ref (ad 110)), (4, .ref (ad 111)), (5, .ref (ad 112)), (6, .ref (ad 113)), (7, .ref (ad 114)), (8, .ref (ad 115)), (9, .ref (ad 116)), (10, .ref (ad 117)), (11, .ref (ad 118)), (12, .ref (ad 119)), (13, .ref (ad 120)), (14, .ref (ad 121)), (15, .ref (ad 122)), (17, .int x17), (19, .int x19)]) hC (by decide) rfl dL_law_689 ?_
  refine g_iconst (v := 0) hC (by decide) dL_law_691 ?_
  refine g_istore (L2 := [(22, .int 0), (21, .int s0), (0, .ref b), (1, .ref (ad 0)), (2, .ref (ad 109)), (3, .ref (ad 110)), (4, .ref (ad 111)), (5, .ref (ad 112)), (6, .ref (ad 113)), (7, .ref (ad 114)), (8, .ref (ad 115)), (9, .ref (ad 116)), (10, .ref (ad 117)), (11, .ref (ad 118)), (12, .ref (ad 119)), (13, .ref (ad 120)), (14, .ref (ad 121)), (15, .ref (ad 122)), (17, .int x17), (19, .int x19)]) hC (by decide) rfl dL_law_692 ?_
  exact g_weak [2, 3, 4, 5, 6, 7, 8, 9, 10, 11, 12, 13, 14, 15, 16, 17, 18, 19, 1, 0] rfl (t_L_law_694 hl9 hZ hX hbl hbA hsl hN hC hr hK1 hS1 hk399 N x17 x19 s0 0 M _ _ (by omega) (by omega) h)
def f_L_law_622 (sl : Nat) (xs : Nat → Int32) (N : Nat) (kh399 : Int32 → Int32 → gq_M → Option (Int32 × gq_M)) (x17 : Int32) (x19 : Int32) (x20 : Int32) (s0 : Int32) (M : gq_M) : Option (Int32 × gq_M) :=
  gq_b (f_L_isSale N s0 x19 x20 M) fun v98 M100 => f_L_law_761 sl xs N kh399 v98 x17 x19 M100
set_option maxHeartbeats 4000000 in
set_option maxRecDepth 20000 in
theorem t_L_law_622 {N sl : Nat} {xs : Nat → Int32} {K1 S1 : Nat} {kh399 : Int32 → Int32 → gq_M → Option (Int32 × gq_M)} {M9 : gq_M} (hl9 : l.stackTraces = false) (hZ : gq_Zn (lw_A s) s) (hX : va_X b sl xs s s.heap) (hbl : b < s.heap.size) (hbA : ¬ lw_A s b) (hsl : sl ≤ 260) (hN : N ≤ 1000) (hC : gq_C p s m #[Value.ref b] meth c D (lw_A s) cI cZ ad mtL RL cL_law 23) (hr : meth.sig.returnType = ret) (hK1 : K1 ≤ 600074) (hS1 : S1 ≤ 7301550) (hk399 : ∀ (x16 : Int32) (x17 : Int32) (M : gq_M) (kc ks : Nat), kc ≤ K1 → ks ≤ S1 → kh399 x16 x17 M = some (1, M9) → gq_W p l e room_1 s m #[Value.ref b] below meth c D (lw_A s) cI cZ ad mtL 23 (lw_Z below #[Value.ref b] s) 399 [(0, .ref b), (1, .ref (ad 0)), (2, .ref (ad 109)), (3, .ref (ad 110)), (4, .ref (ad 111)), (5, .ref (ad 112)), (6, .ref (ad 113)), (7, .ref (ad 114)), (8, .ref (ad 115)), (9, .ref (ad 116)), (10, .ref (ad 117)), (11, .ref (ad 118)), (12, .ref (ad 119)), (13, .ref (ad 120)), (14, .ref (ad 121)), (15, .ref (ad 122)), (16, .int x16), (17, .int x17)] [] M kc ks)  : ∀ (x17 : Int32) (x19 : Int32) (x20 : Int32) (s0 : Int32) (M : gq_M) (kc ks : Nat), kc + 4 ≤ K1 → ks + 24 ≤ S1 → f_L_law_622 sl xs N kh399 x17 x19 x20 s0 M = some (1, M9) → gq_W p l e room_1 s m #[Value.ref b] below meth c D (lw_A s) cI cZ ad mtL 23 (lw_Z below #[Value.ref b] s) 622 [(0, .ref b), (1, .ref (ad 0)), (2, .ref (ad 109)), (3, .ref (ad 110)), (4, .ref (ad 111)), (5, .ref (ad 112)), (6, .ref (ad 113)), (7, .ref (ad 114)), (8, .ref (ad 115)), (9, .ref (ad 116)), (10, .ref (ad 117)), (11, .ref (ad 118)), (12, .ref (ad 119)), (13, .ref (ad 120)), (14, .ref (ad 121)), (15, .ref (ad 122)), (17, .int x17), (19, .int x19), (20, .int x20)] [.int s0] M kc ks := by
  intro x17 x19 x20 s0 M kc ks hkc hks h
  unfold f_L_law_622 at h
  refine g_istore (L2 := [(21, .int s0), (0, .ref b), (1, .ref (ad 0)), (2, .ref (ad 109)), (3, .ref (ad 110)), (4, .ref (ad 111)), (5, .ref (ad 112)), (6, .ref (ad 113)), (7, .ref (ad 114)), (8, .ref (ad 115)), (9, .ref (ad 116)), (10, .ref (ad 117)), (11, .ref (ad 118)), (12, .ref (ad 119)), (13, .ref (ad 120)), (14, .ref (ad 121)), (15, .ref (ad 122)), (17, .int x17), (19, .int x19), (20, .int x20)]) hC (by decide) rfl dL_law_622 ?_
  refine g_aload_n hC 2 rfl rfl dL_law_624 ?_
  refine g_aload_n hC 3 rfl rfl dL_law_625 ?_
  refine g_aload_n hC 4 rfl rfl dL_law_626 ?_
  refine g_aload hC 5 rfl dL_law_627 ?_
  refine g_aload hC 6 rfl dL_law_629 ?_
  refine g_aload hC 7 rfl dL_law_631 ?_
  refine g_aload hC 8 rfl dL_law_633 ?_
  refine g_aload hC 9 rfl dL_law_635 ?_
  refine g_aload hC 10 rfl dL_law_637 ?_
  refine g_aload hC 11 rfl dL_law_639 ?_
  refine g_aload hC 12 rfl dL_law_641 ?_
  refine g_aload hC 13 rfl dL_law_643 ?_
  refine g_aload hC 14 rfl dL_law_645 ?_
  refine g_aload hC 15 rfl dL_law_647 ?_
  refine g_aload hC 16 rfl dL_law_649 ?_
  refine g_iload hC 0 rfl dL_law_651 ?_
  refine g_iload hC 18 rfl dL_law_653 ?_
  refine g_iload hC 19 rfl dL_law_655 ?_
  obtain ⟨v98, M100, c99, h⟩ := gq_b_i h
  refine g_LNi (as := [.ref (ad 0), .ref (ad 109), .ref (ad 110), .ref (ad 111), .ref (ad 112), .ref (ad 113), .ref (ad 114), .ref (ad 115), .ref (ad 116), .ref (ad 117), .ref (ad 118), .ref (ad 119), .ref (ad 120), .ref (ad 121), .ref (ad 122), .int s0, .int x19, .int x20]) hC hZ (t_L_isSale hl9 N _ _ _ _ _ _ c99) mS_L_isSale wm_L_217 rfl rfl (Nat.le_of_ble_eq_true rfl) ⟨Nat.le_of_ble_eq_true rfl, Nat.le_of_ble_eq_true rfl⟩ ⟨by show _ ≤ 600074; omega, by show _ ≤ 7301550; omega⟩ dL_law_657 ?_
  refine g_istore (L2 := [(16, .int v98), (21, .int s0), (0, .ref b), (1, .ref (ad 0)), (2, .ref (ad 109)), (3, .ref (ad 110)), (4, .ref (ad 111)), (5, .ref (ad 112)), (6, .ref (ad 113)), (7, .ref (ad 114)), (8, .ref (ad 115)), (9, .ref (ad 116)), (10, .ref (ad 117)), (11, .ref (ad 118)), (12, .ref (ad 119)), (13, .ref (ad 120)), (14, .ref (ad 121)), (15, .ref (ad 122)), (17, .int x17), (19, .int x19), (20, .int x20)]) hC (by decide) rfl dL_law_660 ?_
  refine g_goto (tgt := 761) hC (by decide) dL_law_662 ?_
  exact g_weak [2, 3, 4, 5, 6, 7, 8, 9, 10, 11, 12, 13, 14, 15, 16, 17, 0, 18, 19] rfl (t_L_law_761 hl9 hZ hX hbl hbA hsl hN hC hr hK1 hS1 hk399 v98 x17 x19 M100 _ _ (by omega) (by omega) h)
def f_L_law_494 (sl : Nat) (xs : Nat → Int32) (N : Nat) (kh399 : Int32 → Int32 → gq_M → Option (Int32 × gq_M)) (x17 : Int32) (x18 : Int32) (s0 : Int32) (M : gq_M) : Option (Int32 × gq_M) :=
  gq_p (f_L_part sl xs ((3 * x17) + 2) 60000 ) fun v69 => if 11 ≤ x18 then (if 29 ≤ x18 then (if (s0 - s0 / 6 * 6) = 0 then (f_L_law_689 sl xs N kh399 x17 s0 (1 + (s0 - s0 / 40 * 40)) M) else (f_L_law_689 sl xs N kh399 x17 s0 (1 + (s0 - s0 / 4 * 4)) M)) else (if x18 = 11 then (f_L_law_622 sl xs N kh399 x17 s0 v69 0 M) else (if x18 = 12 then (f_L_law_622 sl xs N kh399 x17 s0 v69 1 M) else (if x18 = 13 then (f_L_law_622 sl xs N kh399 x17 s0 v69 2 M) else (if 16 ≤ x18 then (if 23 ≤ x18 then (if 28 ≤ x18 then (f_L_law_622 sl xs N kh399 x17 s0 v69 9 M) else (f_L_law_622 sl xs N kh399 x17 s0 v69 7 M)) else (f_L_law_622 sl xs N kh399 x17 s0 v69 3 M)) else (f_L_law_622 sl xs N kh399 x17 s0 v69 0 M)))))) else (gq_b (f_L_isTold N x18 s0 v69 M) fun v80 M82 => f_L_law_761 sl xs N kh399 v80 x17 s0 M82)
set_option maxHeartbeats 4000000 in
set_option maxRecDepth 20000 in
theorem t_L_law_494 {N sl : Nat} {xs : Nat → Int32} {K1 S1 : Nat} {kh399 : Int32 → Int32 → gq_M → Option (Int32 × gq_M)} {M9 : gq_M} (hl9 : l.stackTraces = false) (hZ : gq_Zn (lw_A s) s) (hX : va_X b sl xs s s.heap) (hbl : b < s.heap.size) (hbA : ¬ lw_A s b) (hsl : sl ≤ 260) (hN : N ≤ 1000) (hC : gq_C p s m #[Value.ref b] meth c D (lw_A s) cI cZ ad mtL RL cL_law 23) (hr : meth.sig.returnType = ret) (hK1 : K1 ≤ 600074) (hS1 : S1 ≤ 7301550) (hk399 : ∀ (x16 : Int32) (x17 : Int32) (M : gq_M) (kc ks : Nat), kc ≤ K1 → ks ≤ S1 → kh399 x16 x17 M = some (1, M9) → gq_W p l e room_1 s m #[Value.ref b] below meth c D (lw_A s) cI cZ ad mtL 23 (lw_Z below #[Value.ref b] s) 399 [(0, .ref b), (1, .ref (ad 0)), (2, .ref (ad 109)), (3, .ref (ad 110)), (4, .ref (ad 111)), (5, .ref (ad 112)), (6, .ref (ad 113)), (7, .ref (ad 114)), (8, .ref (ad 115)), (9, .ref (ad 116)), (10, .ref (ad 117)), (11, .ref (ad 118)), (12, .ref (ad 119)), (13, .ref (ad 120)), (14, .ref (ad 121)), (15, .ref (ad 122)), (16, .int x16), (17, .int x17)] [] M kc ks)  : ∀ (x17 : Int32) (x18 : Int32) (s0 : Int32) (M : gq_M) (kc ks : Nat), kc + 4 ≤ K1 → ks + 24 ≤ S1 → f_L_law_494 sl xs N kh399 x17 x18 s0 M = some (1, M9) → gq_W p l e room_1 s m #[Value.ref b] below meth c D (lw_A s) cI cZ ad mtL 23 (lw_Z below #[Value.ref b] s) 494 [(0, .ref b), (1, .ref (ad 0)), (2, .ref (ad 109)), (3, .ref (ad 110)), (4, .ref (ad 111)), (5, .ref (ad 112)), (6, .ref (ad 113)), (7, .ref (ad 114)), (8, .ref (ad 115)), (9, .ref (ad 116)), (10, .ref (ad 117)), (11, .ref (ad 118)), (12, .ref (ad 119)), (13, .ref (ad 120)), (14, .ref (ad 121)), (15, .ref (ad 122)), (17, .int x17), (18, .int x18)] [.int s0] M kc ks := by
  intro x17 x18 s0 M kc ks hkc hks h
  unfold f_L_law_494 at h
  refine g_istore (L2 := [(19, .int s0), (0, .ref b), (1, .ref (ad 0)), (2, .ref (ad 109)), (3, .ref (ad 110)), (4, .ref (ad 111)), (5, .ref (ad 112)), (6, .ref (ad 113)), (7, .ref (ad 114)), (8, .ref (ad 115)), (9, .ref (ad 116)), (10, .ref (ad 117)), (11, .ref (ad 118)), (12, .ref (ad 119)), (13, .ref (ad 120)), (14, .ref (ad 121)), (15, .ref (ad 122)), (17, .int x17), (18, .int x18)]) hC (by decide) rfl dL_law_494 ?_
  refine g_aload_n hC 1 rfl rfl dL_law_496 ?_
  refine g_iconst (v := 3) hC (by decide) dL_law_497 ?_
  refine g_iload hC 17 rfl dL_law_498 ?_
  refine g_imul hC dL_law_500 ?_
  refine g_iconst (v := 2) hC (by decide) dL_law_501 ?_
  refine g_iadd hC dL_law_502 ?_
  refine g_ldc (v := 60000) hC wk_L_212 dL_law_503 ?_
  obtain ⟨v69, c70, h⟩ := gq_p_i h
  refine g_part hC hX hbl hbA (t_L_part c70) wm_L_208 (Nat.le_of_ble_eq_true rfl) ⟨Nat.le_of_ble_eq_true rfl, Nat.le_of_ble_eq_true rfl⟩ ⟨by show _ ≤ 600074; omega, by show _ ≤ 7301550; omega⟩ dL_law_505 ?_
  refine g_istore (L2 := [(20, .int v69), (19, .int s0), (0, .ref b), (1, .ref (ad 0)), (2, .ref (ad 109)), (3, .ref (ad 110)), (4, .ref (ad 111)), (5, .ref (ad 112)), (6, .ref (ad 113)), (7, .ref (ad 114)), (8, .ref (ad 115)), (9, .ref (ad 116)), (10, .ref (ad 117)), (11, .ref (ad 118)), (12, .ref (ad 119)), (13, .ref (ad 120)), (14, .ref (ad 121)), (15, .ref (ad 122)), (17, .int x17), (18, .int x18)]) hC (by decide) rfl dL_law_508 ?_
  refine g_iload hC 19 rfl dL_law_510 ?_
  refine g_bipush (v := 11) hC (by decide) dL_law_512 ?_
  refine g_icmp_ge (tgt := 546) hC (by decide) dL_law_514 (fun c71 => ?_) (fun c71 => ?_)
  · replace h := gq_t c71 h
    refine g_iload hC 19 rfl dL_law_546 ?_
    refine g_bipush (v := 29) hC (by decide) dL_law_548 ?_
    refine g_icmp_ge (tgt := 665) hC (by decide) dL_law_550 (fun c72 => ?_) (fun c72 => ?_)
    · replace h := gq_t c72 h
      refine g_iload hC 1 rfl dL_law_665 ?_
      refine g_bipush (v := 6) hC (by decide) dL_law_667 ?_
      refine g_irem hC (by decide) dL_law_669 ?_
      refine g_if_ne (tgt := 683) hC (by decide) dL_law_670 (fun c73 => ?_) (fun c73 => ?_)
      · replace h := gq_f c73 h
        refine g_iconst (v := 1) hC (by decide) dL_law_683 ?_
        refine g_iload hC 1 rfl dL_law_684 ?_
        refine g_iconst (v := 4) hC (by decide) dL_law_686 ?_
        refine g_irem hC (by decide) dL_law_687 ?_
        refine g_iadd hC dL_law_688 ?_
        exact g_weak [2, 3, 4, 5, 6, 7, 8, 9, 10, 11, 12, 13, 14, 15, 16, 17, 18, 1] rfl (t_L_law_689 hl9 hZ hX hbl hbA hsl hN hC hr hK1 hS1 hk399 x17 s0 (1 + (s0 - s0 / 4 * 4)) M _ _ (by omega) (by omega) h)
      · replace h := gq_t c73 h
        refine g_iconst (v := 1) hC (by decide) dL_law_673 ?_
        refine g_iload hC 1 rfl dL_law_674 ?_
        refine g_bipush (v := 40) hC (by decide) dL_law_676 ?_
        refine g_irem hC (by decide) dL_law_678 ?_
        refine g_iadd hC dL_law_679 ?_
        refine g_goto (tgt := 689) hC (by decide) dL_law_680 ?_
        exact g_weak [2, 3, 4, 5, 6, 7, 8, 9, 10, 11, 12, 13, 14, 15, 16, 17, 18, 1] rfl (t_L_law_689 hl9 hZ hX hbl hbA hsl hN hC hr hK1 hS1 hk399 x17 s0 (1 + (s0 - s0 / 40 * 40)) M _ _ (by omega) (by omega) h)
    · replace h := gq_f c72 h
      refine g_iload hC 19 rfl dL_law_553 ?_
      refine g_bipush (v := 11) hC (by decide) dL_law_555 ?_
      refine g_icmp_ne (tgt := 564) hC (by decide) dL_law_557 (fun c74 => ?_) (fun c74 => ?_)
      · replace h := gq_f c74 h
        refine g_iload hC 19 rfl dL_law_564 ?_
        refine g_bipush (v := 12) hC (by decide) dL_law_566 ?_
        refine g_icmp_ne (tgt := 575) hC (by decide) dL_law_568 (fun c75 => ?_) (fun c75 => ?_)
        · replace h := gq_f c75 h
          refine g_iload hC 19 rfl dL_law_575 ?_
          refine g_bipush (v := 13) hC (by decide) dL_law_577 ?_
          refine g_icmp_ne (tgt := 586) hC (by decide) dL_law_579 (fun c76 => ?_) (fun c76 => ?_)
          · replace h := gq_f c76 h
            refine g_iload hC 19 rfl dL_law_586 ?_
            refine g_bipush (v := 16) hC (by decide) dL_law_588 ?_
            refine g_icmp_ge (tgt := 597) hC (by decide) dL_law_590 (fun c77 => ?_) (fun c77 => ?_)
            · replace h := gq_t c77 h
              refine g_iload hC 19 rfl dL_law_597 ?_
              refine g_bipush (v := 23) hC (by decide) dL_law_599 ?_
              refine g_icmp_ge (tgt := 608) hC (by decide) dL_law_601 (fun c78 => ?_) (fun c78 => ?_)
              · replace h := gq_t c78 h
                refine g_iload hC 19 rfl dL_law_608 ?_
                refine g_bipush (v := 28) hC (by decide) dL_law_610 ?_
                refine g_icmp_ge (tgt := 620) hC (by decide) dL_law_612 (fun c79 => ?_) (fun c79 => ?_)
                · replace h := gq_t c79 h
                  refine g_bipush (v := 9) hC (by decide) dL_law_620 ?_
                  exact g_weak [2, 3, 4, 5, 6, 7, 8, 9, 10, 11, 12, 13, 14, 15, 16, 17, 18, 1, 0] rfl (t_L_law_622 hl9 hZ hX hbl hbA hsl hN hC hr hK1 hS1 hk399 x17 s0 v69 9 M _ _ (by omega) (by omega) h)
                · replace h := gq_f c79 h
                  refine g_bipush (v := 7) hC (by decide) dL_law_615 ?_
                  refine g_goto (tgt := 622) hC (by decide) dL_law_617 ?_
                  exact g_weak [2, 3, 4, 5, 6, 7, 8, 9, 10, 11, 12, 13, 14, 15, 16, 17, 18, 1, 0] rfl (t_L_law_622 hl9 hZ hX hbl hbA hsl hN hC hr hK1 hS1 hk399 x17 s0 v69 7 M _ _ (by omega) (by omega) h)
              · replace h := gq_f c78 h
                refine g_iconst (v := 3) hC (by decide) dL_law_604 ?_
                refine g_goto (tgt := 622) hC (by decide) dL_law_605 ?_
                exact g_weak [2, 3, 4, 5, 6, 7, 8, 9, 10, 11, 12, 13, 14, 15, 16, 17, 18, 1, 0] rfl (t_L_law_622 hl9 hZ hX hbl hbA hsl hN hC hr hK1 hS1 hk399 x17 s0 v69 3 M _ _ (by omega) (by omega) h)
            · replace h := gq_f c77 h
              refine g_iconst (v := 0) hC (by decide) dL_law_593 ?_
              refine g_goto (tgt := 622) hC (by decide) dL_law_594 ?_
              exact g_weak [2, 3, 4, 5, 6, 7, 8, 9, 10, 11, 12, 13, 14, 15, 16, 17, 18, 1, 0] rfl (t_L_law_622 hl9 hZ hX hbl hbA hsl hN hC hr hK1 hS1 hk399 x17 s0 v69 0 M _ _ (by omega) (by omega) h)
          · replace h := gq_t c76 h
            refine g_iconst (v := 2) hC (by decide) dL_law_582 ?_
            refine g_goto (tgt := 622) hC (by decide) dL_law_583 ?_
            exact g_weak [2, 3, 4, 5, 6, 7, 8, 9, 10, 11, 12, 13, 14, 15, 16, 17, 18, 1, 0] rfl (t_L_law_622 hl9 hZ hX hbl hbA hsl hN hC hr hK1 hS1 hk399 x17 s0 v69 2 M _ _ (by omega) (by omega) h)
        · replace h := gq_t c75 h
          refine g_iconst (v := 1) hC (by decide) dL_law_571 ?_
          refine g_goto (tgt := 622) hC (by decide) dL_law_572 ?_
          exact g_weak [2, 3, 4, 5, 6, 7, 8, 9, 10, 11, 12, 13, 14, 15, 16, 17, 18, 1, 0] rfl (t_L_law_622 hl9 hZ hX hbl hbA hsl hN hC hr hK1 hS1 hk399 x17 s0 v69 1 M _ _ (by omega) (by omega) h)
      · replace h := gq_t c74 h
        refine g_iconst (v := 0) hC (by decide) dL_law_560 ?_
        refine g_goto (tgt := 622) hC (by decide) dL_law_561 ?_
        exact g_weak [2, 3, 4, 5, 6, 7, 8, 9, 10, 11, 12, 13, 14, 15, 16, 17, 18, 1, 0] rfl (t_L_law_622 hl9 hZ hX hbl hbA hsl hN hC hr hK1 hS1 hk399 x17 s0 v69 0 M _ _ (by omega) (by omega) h)
  · replace h := gq_f c71 h
    refine g_aload_n hC 3 rfl rfl dL_law_517 ?_
    refine g_aload_n hC 4 rfl rfl dL_law_518 ?_
    refine g_aload_n hC 5 rfl rfl dL_law_519 ?_
    refine g_aload hC 6 rfl dL_law_520 ?_
    refine g_aload hC 7 rfl dL_law_522 ?_
    refine g_aload hC 10 rfl dL_law_524 ?_
    refine g_aload hC 14 rfl dL_law_526 ?_
    refine g_aload hC 15 rfl dL_law_528 ?_
    refine g_aload hC 16 rfl dL_law_530 ?_
    refine g_iload hC 19 rfl dL_law_532 ?_
    refine g_iload hC 1 rfl dL_law_534 ?_
    refine g_iload hC 0 rfl dL_law_536 ?_
    obtain ⟨v80, M82, c81, h⟩ := gq_b_i h
    refine g_LNi (as := [.ref (ad 0), .ref (ad 109), .ref (ad 110), .ref (ad 111), .ref (ad 112), .ref (ad 115), .ref (ad 119), .ref (ad 120), .ref (ad 121), .int x18, .int s0, .int v69]) hC hZ (t_L_isTold hl9 N _ _ _ _ _ _ c81) mS_L_isTold wm_L_213 rfl rfl (Nat.le_of_ble_eq_true rfl) ⟨Nat.le_of_ble_eq_true rfl, Nat.le_of_ble_eq_true rfl⟩ ⟨by show _ ≤ 600074; omega, by show _ ≤ 7301550; omega⟩ dL_law_538 ?_
    refine g_istore (L2 := [(16, .int v80), (20, .int v69), (19, .int s0), (0, .ref b), (1, .ref (ad 0)), (2, .ref (ad 109)), (3, .ref (ad 110)), (4, .ref (ad 111)), (5, .ref (ad 112)), (6, .ref (ad 113)), (7, .ref (ad 114)), (8, .ref (ad 115)), (9, .ref (ad 116)), (10, .ref (ad 117)), (11, .ref (ad 118)), (12, .ref (ad 119)), (13, .ref (ad 120)), (14, .ref (ad 121)), (15, .ref (ad 122)), (17, .int x17), (18, .int x18)]) hC (by decide) rfl dL_law_541 ?_
    refine g_goto (tgt := 761) hC (by decide) dL_law_543 ?_
    exact g_weak [3, 4, 5, 6, 7, 8, 9, 10, 11, 12, 13, 14, 15, 16, 17, 18, 0, 19, 2] rfl (t_L_law_761 hl9 hZ hX hbl hbA hsl hN hC hr hK1 hS1 hk399 v80 x17 s0 M82 _ _ (by omega) (by omega) h)
def f_L_law_465 (sl : Nat) (xs : Nat → Int32) (N : Nat) (kh399 : Int32 → Int32 → gq_M → Option (Int32 × gq_M)) (x17 : Int32) (s0 : Int32) (M : gq_M) : Option (Int32 × gq_M) :=
  if 3 ≤ x17 then (gq_p (f_L_part sl xs ((3 * x17) + 1) 60000 ) fun v67 => f_L_law_494 sl xs N kh399 x17 s0 v67 M) else (f_L_law_494 sl xs N kh399 x17 s0 (414 + x17) M)
set_option maxHeartbeats 4000000 in
set_option maxRecDepth 20000 in
theorem t_L_law_465 {N sl : Nat} {xs : Nat → Int32} {K1 S1 : Nat} {kh399 : Int32 → Int32 → gq_M → Option (Int32 × gq_M)} {M9 : gq_M} (hl9 : l.stackTraces = false) (hZ : gq_Zn (lw_A s) s) (hX : va_X b sl xs s s.heap) (hbl : b < s.heap.size) (hbA : ¬ lw_A s b) (hsl : sl ≤ 260) (hN : N ≤ 1000) (hC : gq_C p s m #[Value.ref b] meth c D (lw_A s) cI cZ ad mtL RL cL_law 23) (hr : meth.sig.returnType = ret) (hK1 : K1 ≤ 600074) (hS1 : S1 ≤ 7301550) (hk399 : ∀ (x16 : Int32) (x17 : Int32) (M : gq_M) (kc ks : Nat), kc ≤ K1 → ks ≤ S1 → kh399 x16 x17 M = some (1, M9) → gq_W p l e room_1 s m #[Value.ref b] below meth c D (lw_A s) cI cZ ad mtL 23 (lw_Z below #[Value.ref b] s) 399 [(0, .ref b), (1, .ref (ad 0)), (2, .ref (ad 109)), (3, .ref (ad 110)), (4, .ref (ad 111)), (5, .ref (ad 112)), (6, .ref (ad 113)), (7, .ref (ad 114)), (8, .ref (ad 115)), (9, .ref (ad 116)), (10, .ref (ad 117)), (11, .ref (ad 118)), (12, .ref (ad 119)), (13, .ref (ad 120)), (14, .ref (ad 121)), (15, .ref (ad 122)), (16, .int x16), (17, .int x17)] [] M kc ks)  : ∀ (x17 : Int32) (s0 : Int32) (M : gq_M) (kc ks : Nat), kc + 4 ≤ K1 → ks + 24 ≤ S1 → f_L_law_465 sl xs N kh399 x17 s0 M = some (1, M9) → gq_W p l e room_1 s m #[Value.ref b] below meth c D (lw_A s) cI cZ ad mtL 23 (lw_Z below #[Value.ref b] s) 465 [(0, .ref b), (1, .ref (ad 0)), (2, .ref (ad 109)), (3, .ref (ad 110)), (4, .ref (ad 111)), (5, .ref (ad 112)), (6, .ref (ad 113)), (7, .ref (ad 114)), (8, .ref (ad 115)), (9, .ref (ad 116)), (10, .ref (ad 117)), (11, .ref (ad 118)), (12, .ref (ad 119)), (13, .ref (ad 120)), (14, .ref (ad 121)), (15, .ref (ad 122)), (17, .int x17)] [.int s0] M kc ks := by
  intro x17 s0 M kc ks hkc hks h
  unfold f_L_law_465 at h
  refine g_istore (L2 := [(18, .int s0), (0, .ref b), (1, .ref (ad 0)), (2, .ref (ad 109)), (3, .ref (ad 110)), (4, .ref (ad 111)), (5, .ref (ad 112)), (6, .ref (ad 113)), (7, .ref (ad 114)), (8, .ref (ad 115)), (9, .ref (ad 116)), (10, .ref (ad 117)), (11, .ref (ad 118)), (12, .ref (ad 119)), (13, .ref (ad 120)), (14, .ref (ad 121)), (15, .ref (ad 122)), (17, .int x17)]) hC (by decide) rfl dL_law_465 ?_
  refine g_iload hC 17 rfl dL_law_467 ?_
  refine g_iconst (v := 3) hC (by decide) dL_law_469 ?_
  refine g_icmp_ge (tgt := 482) hC (by decide) dL_law_470 (fun c66 => ?_) (fun c66 => ?_)
  · replace h := gq_t c66 h
    refine g_aload_n hC 1 rfl rfl dL_law_482 ?_
    refine g_iconst (v := 3) hC (by decide) dL_law_483 ?_
    refine g_iload hC 17 rfl dL_law_484 ?_
    refine g_imul hC dL_law_486 ?_
    refine g_iconst (v := 1) hC (by decide) dL_law_487 ?_
    refine g_iadd hC dL_law_488 ?_
    refine g_ldc (v := 60000) hC wk_L_212 dL_law_489 ?_
    obtain ⟨v67, c68, h⟩ := gq_p_i h
    refine g_part hC hX hbl hbA (t_L_part c68) wm_L_208 (Nat.le_of_ble_eq_true rfl) ⟨Nat.le_of_ble_eq_true rfl, Nat.le_of_ble_eq_true rfl⟩ ⟨by show _ ≤ 600074; omega, by show _ ≤ 7301550; omega⟩ dL_law_491 ?_
    exact g_weak [1, 2, 3, 4, 5, 6, 7, 8, 9, 10, 11, 12, 13, 14, 15, 16, 17, 0] rfl (t_L_law_494 hl9 hZ hX hbl hbA hsl hN hC hr hK1 hS1 hk399 x17 s0 v67 M _ _ (by omega) (by omega) h)
  · replace h := gq_f c66 h
    refine g_sipush (v := 414) hC (by decide) dL_law_473 ?_
    refine g_iload hC 17 rfl dL_law_476 ?_
    refine g_iadd hC dL_law_478 ?_
    refine g_goto (tgt := 494) hC (by decide) dL_law_479 ?_
    exact g_weak [1, 2, 3, 4, 5, 6, 7, 8, 9, 10, 11, 12, 13, 14, 15, 16, 17, 0] rfl (t_L_law_494 hl9 hZ hX hbl hbA hsl hN hC hr hK1 hS1 hk399 x17 s0 (414 + x17) M _ _ (by omega) (by omega) h)
def f_L_law_399_b (sl : Nat) (xs : Nat → Int32) (N : Nat) (kh399 : Int32 → Int32 → gq_M → Option (Int32 × gq_M)) (x16 : Int32) (x17 : Int32) (M : gq_M) : Option (Int32 × gq_M) :=
  if 64 ≤ x17 then (f_L_law_851 sl xs N  x16 M) else (if x16 = 0 then (f_L_law_851 sl xs N  x16 M) else (if 3 ≤ x17 then (if 4 ≤ x17 then (if 10 ≤ x17 then (if x17 = 10 then (f_L_law_465 sl xs N kh399 x17 12 M) else (gq_p (f_L_part sl xs (3 * x17) 40 ) fun v64 => f_L_law_465 sl xs N kh399 x17 v64 M)) else (f_L_law_465 sl xs N kh399 x17 11 M)) else (f_L_law_465 sl xs N kh399 x17 2 M)) else (f_L_law_465 sl xs N kh399 x17 4 M)))
def f_L_law_399 (sl : Nat) (xs : Nat → Int32) (N : Nat) : Nat → Int32 → Int32 → gq_M → Option (Int32 × gq_M)
  | 0 => fun _ _ _ => none
  | n9 + 1 => f_L_law_399_b sl xs N  (f_L_law_399 sl xs N  n9)
set_option maxHeartbeats 4000000 in
set_option maxRecDepth 20000 in
theorem t_L_law_399_b {N sl : Nat} {xs : Nat → Int32} {K1 S1 : Nat} {kh399 : Int32 → Int32 → gq_M → Option (Int32 × gq_M)} {M9 : gq_M} (hl9 : l.stackTraces = false) (hZ : gq_Zn (lw_A s) s) (hX : va_X b sl xs s s.heap) (hbl : b < s.heap.size) (hbA : ¬ lw_A s b) (hsl : sl ≤ 260) (hN : N ≤ 1000) (hC : gq_C p s m #[Value.ref b] meth c D (lw_A s) cI cZ ad mtL RL cL_law 23) (hr : meth.sig.returnType = ret) (hK1 : K1 ≤ 600074) (hS1 : S1 ≤ 7301550)  (hk399 : ∀ (x16 : Int32) (x17 : Int32) (M : gq_M) (kc ks : Nat), kc ≤ K1 → ks ≤ S1 → kh399 x16 x17 M = some (1, M9) → gq_W p l e room_1 s m #[Value.ref b] below meth c D (lw_A s) cI cZ ad mtL 23 (lw_Z below #[Value.ref b] s) 399 [(0, .ref b), (1, .ref (ad 0)), (2, .ref (ad 109)), (3, .ref (ad 110)), (4, .ref (ad 111)), (5, .ref (ad 112)), (6, .ref (ad 113)), (7, .ref (ad 114)), (8, .ref (ad 115)), (9, .ref (ad 116)), (10, .ref (ad 117)), (11, .ref (ad 118)), (12, .ref (ad 119)), (13, .ref (ad 120)), (14, .ref (ad 121)), (15, .ref (ad 122)), (16, .int x16), (17, .int x17)] [] M kc ks) : ∀ (x16 : Int32) (x17 : Int32) (M : gq_M) (kc ks : Nat), kc + 4 ≤ K1 → ks + 24 ≤ S1 → f_L_law_399_b sl xs N  kh399 x16 x17 M = some (1, M9) → gq_W p l e room_1 s m #[Value.ref b] below meth c D (lw_A s) cI cZ ad mtL 23 (lw_Z below #[Value.ref b] s) 399 [(0, .ref b), (1, .ref (ad 0)), (2, .ref (ad 109)), (3, .ref (ad 110)), (4, .ref (ad 111)), (5, .ref (ad 112)), (6, .ref (ad 113)), (7, .ref (ad 114)), (8, .ref (ad 115)), (9, .ref (ad 116)), (10, .ref (ad 117)), (11, .ref (ad 118)), (12, .ref (ad 119)), (13, .ref (ad 120)), (14, .ref (ad 121)), (15, .ref (ad 122)), (16, .int x16), (17, .int x17)] [] M kc ks := by
  intro x16 x17 M kc ks hkc hks h
  unfold f_L_law_399_b at h
  refine g_iload hC 17 rfl dL_law_399 ?_
  refine g_bipush (v := 64) hC (by decide) dL_law_401 ?_
  refine g_icmp_ge (tgt := 851) hC (by decide) dL_law_403 (fun c58 => ?_) (fun c58 => ?_)
  · replace h := gq_t c58 h
    exact g_weak [16] rfl (t_L_law_851 hl9 hZ hX hbl hbA hsl hN hC hr  x16 M _ _ (by omega) (by omega) h)
  · replace h := gq_f c58 h
    refine g_iload hC 16 rfl dL_law_406 ?_
    refine g_if_eq (tgt := 851) hC (by decide) dL_law_408 (fun c59 => ?_) (fun c59 => ?_)
    · replace h := gq_t c59 h
      exact g_weak [16] rfl (t_L_law_851 hl9 hZ hX hbl hbA hsl hN hC hr  x16 M _ _ (by omega) (by omega) h)
    · replace h := gq_f c59 h
      refine g_iload hC 17 rfl dL_law_411 ?_
      refine g_iconst (v := 3) hC (by decide) dL_law_413 ?_
      refine g_icmp_ge (tgt := 421) hC (by decide) dL_law_414 (fun c60 => ?_) (fun c60 => ?_)
      · replace h := gq_t c60 h
        refine g_iload hC 17 rfl dL_law_421 ?_
        refine g_iconst (v := 4) hC (by decide) dL_law_423 ?_
        refine g_icmp_ge (tgt := 431) hC (by decide) dL_law_424 (fun c61 => ?_) (fun c61 => ?_)
        · replace h := gq_t c61 h
          refine g_iload hC 17 rfl dL_law_431 ?_
          refine g_bipush (v := 10) hC (by decide) dL_law_433 ?_
          refine g_icmp_ge (tgt := 443) hC (by decide) dL_law_435 (fun c62 => ?_) (fun c62 => ?_)
          · replace h := gq_t c62 h
            refine g_iload hC 17 rfl dL_law_443 ?_
            refine g_bipush (v := 10) hC (by decide) dL_law_445 ?_
            refine g_icmp_ne (tgt := 455) hC (by decide) dL_law_447 (fun c63 => ?_) (fun c63 => ?_)
            · replace h := gq_f c63 h
              refine g_aload_n hC 0 rfl rfl dL_law_455 ?_
              refine g_iconst (v := 3) hC (by decide) dL_law_456 ?_
              refine g_iload hC 17 rfl dL_law_457 ?_
              refine g_imul hC dL_law_459 ?_
              refine g_bipush (v := 40) hC (by decide) dL_law_460 ?_
              obtain ⟨v64, c65, h⟩ := gq_p_i h
              refine g_part hC hX hbl hbA (t_L_part c65) wm_L_208 (Nat.le_of_ble_eq_true rfl) ⟨Nat.le_of_ble_eq_true rfl, Nat.le_of_ble_eq_true rfl⟩ ⟨by show _ ≤ 600074; omega, by show _ ≤ 7301550; omega⟩ dL_law_462 ?_
              exact g_weak [0, 1, 2, 3, 4, 5, 6, 7, 8, 9, 10, 11, 12, 13, 14, 15, 17] rfl (t_L_law_465 hl9 hZ hX hbl hbA hsl hN hC hr hK1 hS1 hk399 x17 v64 M _ _ (by omega) (by omega) h)
            · replace h := gq_t c63 h
              refine g_bipush (v := 12) hC (by decide) dL_law_450 ?_
              refine g_goto (tgt := 465) hC (by decide) dL_law_452 ?_
              exact g_weak [0, 1, 2, 3, 4, 5, 6, 7, 8, 9, 10, 11, 12, 13, 14, 15, 17] rfl (t_L_law_465 hl9 hZ hX hbl hbA hsl hN hC hr hK1 hS1 hk399 x17 12 M _ _ (by omega) (by omega) h)
          · replace h := gq_f c62 h
            refine g_bipush (v := 11) hC (by decide) dL_law_438 ?_
            refine g_goto (tgt := 465) hC (by decide) dL_law_440 ?_
            exact g_weak [0, 1, 2, 3, 4, 5, 6, 7, 8, 9, 10, 11, 12, 13, 14, 15, 17] rfl (t_L_law_465 hl9 hZ hX hbl hbA hsl hN hC hr hK1 hS1 hk399 x17 11 M _ _ (by omega) (by omega) h)
        · replace h := gq_f c61 h
          refine g_iconst (v := 2) hC (by decide) dL_law_427 ?_
          refine g_goto (tgt := 465) hC (by decide) dL_law_428 ?_
          exact g_weak [0, 1, 2, 3, 4, 5, 6, 7, 8, 9, 10, 11, 12, 13, 14, 15, 17] rfl (t_L_law_465 hl9 hZ hX hbl hbA hsl hN hC hr hK1 hS1 hk399 x17 2 M _ _ (by omega) (by omega) h)
      · replace h := gq_f c60 h
        refine g_iconst (v := 4) hC (by decide) dL_law_417 ?_
        refine g_goto (tgt := 465) hC (by decide) dL_law_418 ?_
        exact g_weak [0, 1, 2, 3, 4, 5, 6, 7, 8, 9, 10, 11, 12, 13, 14, 15, 17] rfl (t_L_law_465 hl9 hZ hX hbl hbA hsl hN hC hr hK1 hS1 hk399 x17 4 M _ _ (by omega) (by omega) h)
set_option maxHeartbeats 1000000 in
theorem t_L_law_399 {N sl : Nat} {xs : Nat → Int32} {M9 : gq_M} (hl9 : l.stackTraces = false) (hZ : gq_Zn (lw_A s) s) (hX : va_X b sl xs s s.heap) (hbl : b < s.heap.size) (hbA : ¬ lw_A s b) (hsl : sl ≤ 260) (hN : N ≤ 1000) (hC : gq_C p s m #[Value.ref b] meth c D (lw_A s) cI cZ ad mtL RL cL_law 23) (hr : meth.sig.returnType = ret)  : ∀ (n9 : Nat) (x16 : Int32) (x17 : Int32) (M : gq_M) (kc ks : Nat), kc + 4 * n9 ≤ 600074 → ks + 24 * n9 ≤ 7301550 → f_L_law_399 sl xs N  n9 x16 x17 M = some (1, M9) → gq_W p l e room_1 s m #[Value.ref b] below meth c D (lw_A s) cI cZ ad mtL 23 (lw_Z below #[Value.ref b] s) 399 [(0, .ref b), (1, .ref (ad 0)), (2, .ref (ad 109)), (3, .ref (ad 110)), (4, .ref (ad 111)), (5, .ref (ad 112)), (6, .ref (ad 113)), (7, .ref (ad 114)), (8, .ref (ad 115)), (9, .ref (ad 116)), (10, .ref (ad 117)), (11, .ref (ad 118)), (12, .ref (ad 119)), (13, .ref (ad 120)), (14, .ref (ad 121)), (15, .ref (ad 122)), (16, .int x16), (17, .int x17)] [] M kc ks := by
  intro n9
  induction n9 with
  | zero => intro x16 x17 M kc ks hkc hks h; cases h
  | succ n9 ih => intro x16 x17 M kc ks hkc hks h; exact t_L_law_399_b (K1 := 600074 - 4 * n9) (S1 := 7301550 - 24 * n9) hl9 hZ hX hbl hbA hsl hN hC hr (by omega) (by omega)  (fun x16 x17 M kc ks h1 h2 h => ih x16 x17 M kc ks (by omega) (by omega) h) x16 x17 M kc ks (by omega) (by omega) h
def f_L_law_394 (sl : Nat) (xs : Nat → Int32) (N : Nat) (s0 : Int32) (M : gq_M) : Option (Int32 × gq_M) :=
  f_L_law_399 sl xs N  N s0 0 M
set_option maxHeartbeats 4000000 in
set_option maxRecDepth 20000 in
theorem t_L_law_394 {N sl : Nat} {xs : Nat → Int32} {M9 : gq_M} (hl9 : l.stackTraces = false) (hZ : gq_Zn (lw_A s) s) (hX : va_X b sl xs s s.heap) (hbl : b < s.heap.size) (hbA : ¬ lw_A s b) (hsl : sl ≤ 260) (hN : N ≤ 1000) (hC : gq_C p s m #[Value.ref b] meth c D (lw_A s) cI cZ ad mtL RL cL_law 23) (hr : meth.sig.returnType = ret)   : ∀ (s0 : Int32) (M : gq_M) (kc ks : Nat), kc + 4000 ≤ 600074 → ks + 24000 ≤ 7301550 → f_L_law_394 sl xs N  s0 M = some (1, M9) → gq_W p l e room_1 s m #[Value.ref b] below meth c D (lw_A s) cI cZ ad mtL 23 (lw_Z below #[Value.ref b] s) 394 [(0, .ref b), (1, .ref (ad 0)), (2, .ref (ad 109)), (3, .ref (ad 110)), (4, .ref (ad 111)), (5, .ref (ad 112)), (6, .ref (ad 113)), (7, .ref (ad 114)), (8, .ref (ad 115)), (9, .ref (ad 116)), (10, .ref (ad 117)), (11, .ref (ad 118)), (12, .ref (ad 119)), (13, .ref (ad 120)), (14, .ref (ad 121)), (15, .ref (ad 122))] [.int s0] M kc ks := by
  intro s0 M kc ks hkc hks h
  unfold f_L_law_394 at h
  refine g_istore (L2 := [(16, .int s0), (0, .ref b), (1, .ref (ad 0)), (2, .ref (ad 109)), (3, .ref (ad 110)), (4, .ref (ad 111)), (5, .ref (ad 112)), (6, .ref (ad 113)), (7, .ref (ad 114)), (8, .ref (ad 115)), (9, .ref (ad 116)), (10, .ref (ad 117)), (11, .ref (ad 118)), (12, .ref (ad 119)), (13, .ref (ad 120)), (14, .ref (ad 121)), (15, .ref (ad 122))]) hC (by decide) rfl dL_law_394 ?_
  refine g_iconst (v := 0) hC (by decide) dL_law_396 ?_
  refine g_istore (L2 := [(17, .int 0), (16, .int s0), (0, .ref b), (1, .ref (ad 0)), (2, .ref (ad 109)), (3, .ref (ad 110)), (4, .ref (ad 111)), (5, .ref (ad 112)), (6, .ref (ad 113)), (7, .ref (ad 114)), (8, .ref (ad 115)), (9, .ref (ad 116)), (10, .ref (ad 117)), (11, .ref (ad 118)), (12, .ref (ad 119)), (13, .ref (ad 120)), (14, .ref (ad 121)), (15, .ref (ad 122))]) hC (by decide) rfl dL_law_397 ?_
  exact g_weak [2, 3, 4, 5, 6, 7, 8, 9, 10, 11, 12, 13, 14, 15, 16, 17, 1, 0] rfl (t_L_law_399 hl9 hZ hX hbl hbA hsl hN hC hr  N s0 0 M _ _ (by omega) (by omega) h)
def f_L_law_393 (sl : Nat) (xs : Nat → Int32) (N : Nat) (M : gq_M) : Option (Int32 × gq_M) :=
  f_L_law_394 sl xs N  0 M
set_option maxHeartbeats 4000000 in
set_option maxRecDepth 20000 in
theorem t_L_law_393 {N sl : Nat} {xs : Nat → Int32} {M9 : gq_M} (hl9 : l.stackTraces = false) (hZ : gq_Zn (lw_A s) s) (hX : va_X b sl xs s s.heap) (hbl : b < s.heap.size) (hbA : ¬ lw_A s b) (hsl : sl ≤ 260) (hN : N ≤ 1000) (hC : gq_C p s m #[Value.ref b] meth c D (lw_A s) cI cZ ad mtL RL cL_law 23) (hr : meth.sig.returnType = ret)   : ∀ (M : gq_M) (kc ks : Nat), kc + 4000 ≤ 600074 → ks + 24000 ≤ 7301550 → f_L_law_393 sl xs N   M = some (1, M9) → gq_W p l e room_1 s m #[Value.ref b] below meth c D (lw_A s) cI cZ ad mtL 23 (lw_Z below #[Value.ref b] s) 393 [(0, .ref b), (1, .ref (ad 0)), (2, .ref (ad 109)), (3, .ref (ad 110)), (4, .ref (ad 111)), (5, .ref (ad 112)), (6, .ref (ad 113)), (7, .ref (ad 114)), (8, .ref (ad 115)), (9, .ref (ad 116)), (10, .ref (ad 117)), (11, .ref (ad 118)), (12, .ref (ad 119)), (13, .ref (ad 120)), (14, .ref (ad 121)), (15, .ref (ad 122))] [] M kc ks := by
  intro  M kc ks hkc hks h
  unfold f_L_law_393 at h
  refine g_iconst (v := 0) hC (by decide) dL_law_393 ?_
  exact g_weak [0, 1, 2, 3, 4, 5, 6, 7, 8, 9, 10, 11, 12, 13, 14, 15] rfl (t_L_law_394 hl9 hZ hX hbl hbA hsl hN hC hr  0 M _ _ (by omega) (by omega) h)
def f_L_law_204_b (sl : Nat) (xs : Nat → Int32) (N : Nat) (kh204 : Int32 → gq_M → Option (Int32 × gq_M)) (x16 : Int32) (M : gq_M) : Option (Int32 × gq_M) :=
  if 3 ≤ x16 then (gq_b (f_L_does N 0 0 4 0 0 0 0 M) fun v19 M21 => if v19 = (-300000000) then (gq_b (f_L_does N 8 0 0 0 0 0 0 M21) fun v23 M25 => if v23 = (-100000000) then (gq_b (f_L_does N 9 0 0 0 0 0 0 M25) fun v27 M29 => if v27 = (-100000000) then (gq_b (f_L_does N 10 0 0 0 0 0 0 M29) fun v31 M33 => if v31 = (-100000000) then (gq_b (f_L_does N 16 501 0 0 0 0 0 M33) fun v35 M37 => if v35 = (-200000000) then (gq_b (f_L_does N 20 0 0 0 0 0 0 M37) fun v39 M41 => if v39 = (-300000000) then (gq_b (f_L_does N 13 0 0 0 0 0 0 M41) fun v43 M45 => if v43 = (-200000000) then (f_L_law_394 sl xs N  1 M45) else (f_L_law_393 sl xs N   M45)) else (f_L_law_393 sl xs N   M41)) else (f_L_law_393 sl xs N   M37)) else (f_L_law_393 sl xs N   M33)) else (f_L_law_393 sl xs N   M29)) else (f_L_law_393 sl xs N   M25)) else (f_L_law_393 sl xs N   M21)) else (gq_g (gq_in ((8 * x16) + 1) 24) (gq_l (gq_up M 115 (((8 * x16) + 1) : Int32).toNatClampNeg (-1)) fun M48 => gq_g (gq_in ((8 * x16) + 4) 24) (gq_l (gq_up M48 115 (((8 * x16) + 4) : Int32).toNatClampNeg (-1)) fun M50 => gq_g (gq_in ((8 * x16) + 5) 24) (gq_l (gq_up M50 115 (((8 * x16) + 5) : Int32).toNatClampNeg 10) fun M52 => gq_g (gq_in ((8 * x16) + 6) 24) (gq_l (gq_up M52 115 (((8 * x16) + 6) : Int32).toNatClampNeg 1) fun M54 => gq_b (f_L_begins N x16 M54) fun v55 M57 => kh204 (x16 + 1) M57)))))
def f_L_law_204 (sl : Nat) (xs : Nat → Int32) (N : Nat) : Nat → Int32 → gq_M → Option (Int32 × gq_M)
  | 0 => fun _ _ => none
  | n9 + 1 => f_L_law_204_b sl xs N  (f_L_law_204 sl xs N  n9)
set_option maxHeartbeats 4000000 in
set_option maxRecDepth 20000 in
theorem t_L_law_204_b {N sl : Nat} {xs : Nat → Int32} {kh204 : Int32 → gq_M → Option (Int32 × gq_M)} {M9 : gq_M} (hl9 : l.stackTraces = false) (hZ : gq_Zn (lw_A s) s) (hX : va_X b sl xs s s.heap) (hbl : b < s.heap.size) (hbA : ¬ lw_A s b) (hsl : sl ≤ 260) (hN : N ≤ 1000) (hC : gq_C p s m #[Value.ref b] meth c D (lw_A s) cI cZ ad mtL RL cL_law 23) (hr : meth.sig.returnType = ret)  (hk204 : ∀ (x16 : Int32) (M : gq_M) (kc ks : Nat), kc + 4007 ≤ 600074 → ks + 24042 ≤ 7301550 → kh204 x16 M = some (1, M9) → gq_W p l e room_1 s m #[Value.ref b] below meth c D (lw_A s) cI cZ ad mtL 23 (lw_Z below #[Value.ref b] s) 204 [(0, .ref b), (1, .ref (ad 0)), (2, .ref (ad 109)), (3, .ref (ad 110)), (4, .ref (ad 111)), (5, .ref (ad 112)), (6, .ref (ad 113)), (7, .ref (ad 114)), (8, .ref (ad 115)), (9, .ref (ad 116)), (10, .ref (ad 117)), (11, .ref (ad 118)), (12, .ref (ad 119)), (13, .ref (ad 120)), (14, .ref (ad 121)), (15, .ref (ad 122)), (16, .int x16)] [] M kc ks) : ∀ (x16 : Int32) (M : gq_M) (kc ks : Nat), kc + 4007 ≤ 600074 → ks + 24042 ≤ 7301550 → f_L_law_204_b sl xs N  kh204 x16 M = some (1, M9) → gq_W p l e room_1 s m #[Value.ref b] below meth c D (lw_A s) cI cZ ad mtL 23 (lw_Z below #[Value.ref b] s) 204 [(0, .ref b), (1, .ref (ad 0)), (2, .ref (ad 109)), (3, .ref (ad 110)), (4, .ref (ad 111)), (5, .ref (ad 112)), (6, .ref (ad 113)), (7, .ref (ad 114)), (8, .ref (ad 115)), (9, .ref (ad 116)), (10, .ref (ad 117)), (11, .ref (ad 118)), (12, .ref (ad 119)), (13, .ref (ad 120)), (14, .ref (ad 121)), (15, .ref (ad 122)), (16, .int x16)] [] M kc ks := by
  intro x16 M kc ks hkc hks h
  unfold f_L_law_204_b at h
  refine g_iload hC 16 rfl dL_law_204 ?_
  refine g_iconst (v := 3) hC (by decide) dL_law_206 ?_
  refine g_icmp_ge (tgt := 269) hC (by decide) dL_law_207 (fun c18 => ?_) (fun c18 => ?_)
  · replace h := gq_t c18 h
    refine g_aload_n hC 1 rfl rfl dL_law_269 ?_
    refine g_iconst (v := 0) hC (by decide) dL_law_270 ?_
    refine g_iconst (v := 0) hC (by decide) dL_law_271 ?_
    refine g_iconst (v := 4) hC (by decide) dL_law_272 ?_
    refine g_iconst (v := 0) hC (by decide) dL_law_273 ?_
    refine g_iconst (v := 0) hC (by decide) dL_law_274 ?_
    refine g_iconst (v := 0) hC (by decide) dL_law_275 ?_
    refine g_iconst (v := 0) hC (by decide) dL_law_276 ?_
    obtain ⟨v19, M21, c20, h⟩ := gq_b_i h
    refine g_LNH (as := [.ref (ad 0), .int 0, .int 0, .int 4, .int 0, .int 0, .int 0, .int 0]) hC hZ (t_L_does hl9 N _ _ _ _ _ _ _ _ _ _ c20) mH_L_does wm_L_183 rfl rfl (Nat.le_of_ble_eq_true rfl) ⟨Nat.le_of_ble_eq_true rfl, Nat.le_of_ble_eq_true rfl⟩ ⟨by show _ ≤ 600074; omega, by show _ ≤ 7301550; omega⟩ dL_law_277 ?_
    refine g_ldc (v := (-300000000)) hC wk_L_84 dL_law_280 ?_
    refine g_icmp_ne (tgt := 393) hC (by decide) dL_law_282 (fun c22 => ?_) (fun c22 => ?_)
    · replace h := gq_f c22 h
      exact g_weak [0, 1, 2, 3, 4, 5, 6, 7, 8, 9, 10, 11, 12, 13, 14, 15] rfl (t_L_law_393 hl9 hZ hX hbl hbA hsl hN hC hr   M21 _ _ (by omega) (by omega) h)
    · replace h := gq_t c22 h
      refine g_aload_n hC 1 rfl rfl dL_law_285 ?_
      refine g_bipush (v := 8) hC (by decide) dL_law_286 ?_
      refine g_iconst (v := 0) hC (by decide) dL_law_288 ?_
      refine g_iconst (v := 0) hC (by decide) dL_law_289 ?_
      refine g_iconst (v := 0) hC (by decide) dL_law_290 ?_
      refine g_iconst (v := 0) hC (by decide) dL_law_291 ?_
      refine g_iconst (v := 0) hC (by decide) dL_law_292 ?_
      refine g_iconst (v := 0) hC (by decide) dL_law_293 ?_
      obtain ⟨v23, M25, c24, h⟩ := gq_b_i h
      refine g_LNH (as := [.ref (ad 0), .int 8, .int 0, .int 0, .int 0, .int 0, .int 0, .int 0]) hC hZ (t_L_does hl9 N _ _ _ _ _ _ _ _ _ _ c24) mH_L_does wm_L_183 rfl rfl (Nat.le_of_ble_eq_true rfl) ⟨Nat.le_of_ble_eq_true rfl, Nat.le_of_ble_eq_true rfl⟩ ⟨by show _ ≤ 600074; omega, by show _ ≤ 7301550; omega⟩ dL_law_294 ?_
      refine g_ldc (v := (-100000000)) hC wk_L_90 dL_law_297 ?_
      refine g_icmp_ne (tgt := 393) hC (by decide) dL_law_299 (fun c26 => ?_) (fun c26 => ?_)
      · replace h := gq_f c26 h
        exact g_weak [0, 1, 2, 3, 4, 5, 6, 7, 8, 9, 10, 11, 12, 13, 14, 15] rfl (t_L_law_393 hl9 hZ hX hbl hbA hsl hN hC hr   M25 _ _ (by omega) (by omega) h)
      · replace h := gq_t c26 h
        refine g_aload_n hC 1 rfl rfl dL_law_302 ?_
        refine g_bipush (v := 9) hC (by decide) dL_law_303 ?_
        refine g_iconst (v := 0) hC (by decide) dL_law_305 ?_
        refine g_iconst (v := 0) hC (by decide) dL_law_306 ?_
        refine g_iconst (v := 0) hC (by decide) dL_law_307 ?_
        refine g_iconst (v := 0) hC (by decide) dL_law_308 ?_
        refine g_iconst (v := 0) hC (by decide) dL_law_309 ?_
        refine g_iconst (v := 0) hC (by decide) dL_law_310 ?_
        obtain ⟨v27, M29, c28, h⟩ := gq_b_i h
        refine g_LNH (as := [.ref (ad 0), .int 9, .int 0, .int 0, .int 0, .int 0, .int 0, .int 0]) hC hZ (t_L_does hl9 N _ _ _ _ _ _ _ _ _ _ c28) mH_L_does wm_L_183 rfl rfl (Nat.le_of_ble_eq_true rfl) ⟨Nat.le_of_ble_eq_true rfl, Nat.le_of_ble_eq_true rfl⟩ ⟨by show _ ≤ 600074; omega, by show _ ≤ 7301550; omega⟩ dL_law_311 ?_
        refine g_ldc (v := (-100000000)) hC wk_L_90 dL_law_314 ?_
        refine g_icmp_ne (tgt := 393) hC (by decide) dL_law_316 (fun c30 => ?_) (fun c30 => ?_)
        · replace h := gq_f c30 h
          exact g_weak [0, 1, 2, 3, 4, 5, 6, 7, 8, 9, 10, 11, 12, 13, 14, 15] rfl (t_L_law_393 hl9 hZ hX hbl hbA hsl hN hC hr   M29 _ _ (by omega) (by omega) h)
        · replace h := gq_t c30 h
          refine g_aload_n hC 1 rfl rfl dL_law_319 ?_
          refine g_bipush (v := 10) hC (by decide) dL_law_320 ?_
          refine g_iconst (v := 0) hC (by decide) dL_law_322 ?_
          refine g_iconst (v := 0) hC (by decide) dL_law_323 ?_
          refine g_iconst (v := 0) hC (by decide) dL_law_324 ?_
          refine g_iconst (v := 0) hC (by decide) dL_law_325 ?_
          refine g_iconst (v := 0) hC (by decide) dL_law_326 ?_
          refine g_iconst (v := 0) hC (by decide) dL_law_327 ?_
          obtain ⟨v31, M33, c32, h⟩ := gq_b_i h
          refine g_LNH (as := [.ref (ad 0), .int 10, .int 0, .int 0, .int 0, .int 0, .int 0, .int 0]) hC hZ (t_L_does hl9 N _ _ _ _ _ _ _ _ _ _ c32) mH_L_does wm_L_183 rfl rfl (Nat.le_of_ble_eq_true rfl) ⟨Nat.le_of_ble_eq_true rfl, Nat.le_of_ble_eq_true rfl⟩ ⟨by show _ ≤ 600074; omega, by show _ ≤ 7301550; omega⟩ dL_law_328 ?_
          refine g_ldc (v := (-100000000)) hC wk_L_90 dL_law_331 ?_
          refine g_icmp_ne (tgt := 393) hC (by decide) dL_law_333 (fun c34 => ?_) (fun c34 => ?_)
          · replace h := gq_f c34 h
            exact g_weak [0, 1, 2, 3, 4, 5, 6, 7, 8, 9, 10, 11, 12, 13, 14, 15] rfl (t_L_law_393 hl9 hZ hX hbl hbA hsl hN hC hr   M33 _ _ (by omega) (by omega) h)
          · replace h := gq_t c34 h
            refine g_aload_n hC 1 rfl rfl dL_law_336 ?_
            refine g_bipush (v := 16) hC (by decide) dL_law_337 ?_
            refine g_sipush (v := 501) hC (by decide) dL_law_339 ?_
            refine g_iconst (v := 0) hC (by decide) dL_law_342 ?_
            refine g_iconst (v := 0) hC (by decide) dL_law_343 ?_
            refine g_iconst (v := 0) hC (by decide) dL_law_344 ?_
            refine g_iconst (v := 0) hC (by decide) dL_law_345 ?_
            refine g_iconst (v := 0) hC (by decide) dL_law_346 ?_
            obtain ⟨v35, M37, c36, h⟩ := gq_b_i h
            refine g_LNH (as := [.ref (ad 0), .int 16, .int 501, .int 0, .int 0, .int 0, .int 0, .int 0]) hC hZ (t_L_does hl9 N _ _ _ _ _ _ _ _ _ _ c36) mH_L_does wm_L_183 rfl rfl (Nat.le_of_ble_eq_true rfl) ⟨Nat.le_of_ble_eq_true rfl, Nat.le_of_ble_eq_true rfl⟩ ⟨by show _ ≤ 600074; omega, by show _ ≤ 7301550; omega⟩ dL_law_347 ?_
            refine g_ldc (v := (-200000000)) hC wk_L_87 dL_law_350 ?_
            refine g_icmp_ne (tgt := 393) hC (by decide) dL_law_352 (fun c38 => ?_) (fun c38 => ?_)
            · replace h := gq_f c38 h
              exact g_weak [0, 1, 2, 3, 4, 5, 6, 7, 8, 9, 10, 11, 12, 13, 14, 15] rfl (t_L_law_393 hl9 hZ hX hbl hbA hsl hN hC hr   M37 _ _ (by omega) (by omega) h)
            · replace h := gq_t c38 h
              refine g_aload_n hC 1 rfl rfl dL_law_355 ?_
              refine g_bipush (v := 20) hC (by decide) dL_law_356 ?_
              refine g_iconst (v := 0) hC (by decide) dL_law_358 ?_
              refine g_iconst (v := 0) hC (by decide) dL_law_359 ?_
              refine g_iconst (v := 0) hC (by decide) dL_law_360 ?_
              refine g_iconst (v := 0) hC (by decide) dL_law_361 ?_
              refine g_iconst (v := 0) hC (by decide) dL_law_362 ?_
              refine g_iconst (v := 0) hC (by decide) dL_law_363 ?_
              obtain ⟨v39, M41, c40, h⟩ := gq_b_i h
              refine g_LNH (as := [.ref (ad 0), .int 20, .int 0, .int 0, .int 0, .int 0, .int 0, .int 0]) hC hZ (t_L_does hl9 N _ _ _ _ _ _ _ _ _ _ c40) mH_L_does wm_L_183 rfl rfl (Nat.le_of_ble_eq_true rfl) ⟨Nat.le_of_ble_eq_true rfl, Nat.le_of_ble_eq_true rfl⟩ ⟨by show _ ≤ 600074; omega, by show _ ≤ 7301550; omega⟩ dL_law_364 ?_
              refine g_ldc (v := (-300000000)) hC wk_L_84 dL_law_367 ?_
              refine g_icmp_ne (tgt := 393) hC (by decide) dL_law_369 (fun c42 => ?_) (fun c42 => ?_)
              · replace h := gq_f c42 h
                exact g_weak [0, 1, 2, 3, 4, 5, 6, 7, 8, 9, 10, 11, 12, 13, 14, 15] rfl (t_L_law_393 hl9 hZ hX hbl hbA hsl hN hC hr   M41 _ _ (by omega) (by omega) h)
              · replace h := gq_t c42 h
                refine g_aload_n hC 1 rfl rfl dL_law_372 ?_
                refine g_bipush (v := 13) hC (by decide) dL_law_373 ?_
                refine g_iconst (v := 0) hC (by decide) dL_law_375 ?_
                refine g_iconst (v := 0) hC (by decide) dL_law_376 ?_
                refine g_iconst (v := 0) hC (by decide) dL_law_377 ?_
                refine g_iconst (v := 0) hC (by decide) dL_law_378 ?_
                refine g_iconst (v := 0) hC (by decide) dL_law_379 ?_
                refine g_iconst (v := 0) hC (by decide) dL_law_380 ?_
                obtain ⟨v43, M45, c44, h⟩ := gq_b_i h
                refine g_LNH (as := [.ref (ad 0), .int 13, .int 0, .int 0, .int 0, .int 0, .int 0, .int 0]) hC hZ (t_L_does hl9 N _ _ _ _ _ _ _ _ _ _ c44) mH_L_does wm_L_183 rfl rfl (Nat.le_of_ble_eq_true rfl) ⟨Nat.le_of_ble_eq_true rfl, Nat.le_of_ble_eq_true rfl⟩ ⟨by show _ ≤ 600074; omega, by show _ ≤ 7301550; omega⟩ dL_law_381 ?_
                refine g_ldc (v := (-200000000)) hC wk_L_87 dL_law_384 ?_
                refine g_icmp_ne (tgt := 393) hC (by decide) dL_law_386 (fun c46 => ?_) (fun c46 => ?_)
                · replace h := gq_f c46 h
                  exact g_weak [0, 1, 2, 3, 4, 5, 6, 7, 8, 9, 10, 11, 12, 13, 14, 15] rfl (t_L_law_393 hl9 hZ hX hbl hbA hsl hN hC hr   M45 _ _ (by omega) (by omega) h)
                · replace h := gq_t c46 h
                  refine g_iconst (v := 1) hC (by decide) dL_law_389 ?_
                  refine g_goto (tgt := 394) hC (by decide) dL_law_390 ?_
                  exact g_weak [0, 1, 2, 3, 4, 5, 6, 7, 8, 9, 10, 11, 12, 13, 14, 15] rfl (t_L_law_394 hl9 hZ hX hbl hbA hsl hN hC hr  1 M45 _ _ (by omega) (by omega) h)
  · replace h := gq_f c18 h
    refine g_aload hC 8 rfl dL_law_210 ?_
    refine g_bipush (v := 8) hC (by decide) dL_law_212 ?_
    refine g_iload hC 16 rfl dL_law_214 ?_
    refine g_imul hC dL_law_216 ?_
    refine g_iconst (v := 1) hC (by decide) dL_law_217 ?_
    refine g_iadd hC dL_law_218 ?_
    refine g_iconst (v := (-1)) hC (by decide) dL_law_219 ?_
    obtain ⟨g47, h⟩ := gq_g_i h
    refine g_iast hC arL_115 (gq_in_i g47) dL_law_220 ?_
    refine g_topM (fun M48 hM48 => ?_)
    replace h := gq_l_i hM48 h
    refine g_aload hC 8 rfl dL_law_221 ?_
    refine g_bipush (v := 8) hC (by decide) dL_law_223 ?_
    refine g_iload hC 16 rfl dL_law_225 ?_
    refine g_imul hC dL_law_227 ?_
    refine g_iconst (v := 4) hC (by decide) dL_law_228 ?_
    refine g_iadd hC dL_law_229 ?_
    refine g_iconst (v := (-1)) hC (by decide) dL_law_230 ?_
    obtain ⟨g49, h⟩ := gq_g_i h
    refine g_iast hC arL_115 (gq_in_i g49) dL_law_231 ?_
    refine g_topM (fun M50 hM50 => ?_)
    replace h := gq_l_i hM50 h
    refine g_aload hC 8 rfl dL_law_232 ?_
    refine g_bipush (v := 8) hC (by decide) dL_law_234 ?_
    refine g_iload hC 16 rfl dL_law_236 ?_
    refine g_imul hC dL_law_238 ?_
    refine g_iconst (v := 5) hC (by decide) dL_law_239 ?_
    refine g_iadd hC dL_law_240 ?_
    refine g_bipush (v := 10) hC (by decide) dL_law_241 ?_
    obtain ⟨g51, h⟩ := gq_g_i h
    refine g_iast hC arL_115 (gq_in_i g51) dL_law_243 ?_
    refine g_topM (fun M52 hM52 => ?_)
    replace h := gq_l_i hM52 h
    refine g_aload hC 8 rfl dL_law_244 ?_
    refine g_bipush (v := 8) hC (by decide) dL_law_246 ?_
    refine g_iload hC 16 rfl dL_law_248 ?_
    refine g_imul hC dL_law_250 ?_
    refine g_bipush (v := 6) hC (by decide) dL_law_251 ?_
    refine g_iadd hC dL_law_253 ?_
    refine g_iconst (v := 1) hC (by decide) dL_law_254 ?_
    obtain ⟨g53, h⟩ := gq_g_i h
    refine g_iast hC arL_115 (gq_in_i g53) dL_law_255 ?_
    refine g_topM (fun M54 hM54 => ?_)
    replace h := gq_l_i hM54 h
    refine g_aload hC 9 rfl dL_law_256 ?_
    refine g_iload hC 16 rfl dL_law_258 ?_
    obtain ⟨v55, M57, c56, h⟩ := gq_b_i h
    refine g_Sv (as := [.ref (ad 116), .int x16]) hC (t_L_begins N _ _ _ _ c56) mS_L_begins wm_L_103 rfl rfl (Nat.le_of_ble_eq_true rfl) ⟨Nat.le_of_ble_eq_true rfl, Nat.le_of_ble_eq_true rfl⟩ ⟨by show _ ≤ 600074; omega, by show _ ≤ 7301550; omega⟩ dL_law_260 ?_
    refine g_iinc (v := (x16 + 1)) (L2 := [(16, .int (x16 + 1)), (0, .ref b), (1, .ref (ad 0)), (2, .ref (ad 109)), (3, .ref (ad 110)), (4, .ref (ad 111)), (5, .ref (ad 112)), (6, .ref (ad 113)), (7, .ref (ad 114)), (8, .ref (ad 115)), (9, .ref (ad 116)), (10, .ref (ad 117)), (11, .ref (ad 118)), (12, .ref (ad 119)), (13, .ref (ad 120)), (14, .ref (ad 121)), (15, .ref (ad 122))]) hC 16 rfl (by first | rfl | decide) (by decide) rfl dL_law_263 ?_
    refine g_goto (tgt := 204) hC (by decide) dL_law_266 ?_
    exact g_weak [1, 2, 3, 4, 5, 6, 7, 8, 9, 10, 11, 12, 13, 14, 15, 16, 0] rfl (hk204 (x16 + 1) M57 _ _ (by omega) (by omega) h)
set_option maxHeartbeats 1000000 in
theorem t_L_law_204 {N sl : Nat} {xs : Nat → Int32} {M9 : gq_M} (hl9 : l.stackTraces = false) (hZ : gq_Zn (lw_A s) s) (hX : va_X b sl xs s s.heap) (hbl : b < s.heap.size) (hbA : ¬ lw_A s b) (hsl : sl ≤ 260) (hN : N ≤ 1000) (hC : gq_C p s m #[Value.ref b] meth c D (lw_A s) cI cZ ad mtL RL cL_law 23) (hr : meth.sig.returnType = ret)  : ∀ (n9 : Nat) (x16 : Int32) (M : gq_M) (kc ks : Nat), kc + 4007 ≤ 600074 → ks + 24042 ≤ 7301550 → f_L_law_204 sl xs N  n9 x16 M = some (1, M9) → gq_W p l e room_1 s m #[Value.ref b] below meth c D (lw_A s) cI cZ ad mtL 23 (lw_Z below #[Value.ref b] s) 204 [(0, .ref b), (1, .ref (ad 0)), (2, .ref (ad 109)), (3, .ref (ad 110)), (4, .ref (ad 111)), (5, .ref (ad 112)), (6, .ref (ad 113)), (7, .ref (ad 114)), (8, .ref (ad 115)), (9, .ref (ad 116)), (10, .ref (ad 117)), (11, .ref (ad 118)), (12, .ref (ad 119)), (13, .ref (ad 120)), (14, .ref (ad 121)), (15, .ref (ad 122)), (16, .int x16)] [] M kc ks := by
  intro n9
  induction n9 with
  | zero => intro x16 M kc ks hkc hks h; cases h
  | succ n9 ih => intro x16 M kc ks hkc hks h; exact t_L_law_204_b hl9 hZ hX hbl hbA hsl hN hC hr  ih x16 M kc ks hkc hks h
def f_L_law_156_b (sl : Nat) (xs : Nat → Int32) (N : Nat) (kh156 : Int32 → gq_M → Option (Int32 × gq_M)) (x16 : Int32) (M : gq_M) : Option (Int32 × gq_M) :=
  if 4 ≤ x16 then (f_L_law_204 sl xs N  N 0 M) else (gq_g (gq_in (8 + x16) 56) (gq_l (gq_up M 119 ((8 + x16) : Int32).toNatClampNeg 1000) fun M13 => gq_g (gq_in (12 + x16) 56) (gq_l (gq_up M13 119 ((12 + x16) : Int32).toNatClampNeg 100) fun M15 => gq_g (gq_in (16 + x16) 56) (gq_l (gq_up M15 119 ((16 + x16) : Int32).toNatClampNeg (x16 - x16 / 3 * 3)) fun M17 => kh156 (x16 + 1) M17))))
def f_L_law_156 (sl : Nat) (xs : Nat → Int32) (N : Nat) : Nat → Int32 → gq_M → Option (Int32 × gq_M)
  | 0 => fun _ _ => none
  | n9 + 1 => f_L_law_156_b sl xs N  (f_L_law_156 sl xs N  n9)
set_option maxHeartbeats 4000000 in
set_option maxRecDepth 20000 in
theorem t_L_law_156_b {N sl : Nat} {xs : Nat → Int32} {kh156 : Int32 → gq_M → Option (Int32 × gq_M)} {M9 : gq_M} (hl9 : l.stackTraces = false) (hZ : gq_Zn (lw_A s) s) (hX : va_X b sl xs s s.heap) (hbl : b < s.heap.size) (hbA : ¬ lw_A s b) (hsl : sl ≤ 260) (hN : N ≤ 1000) (hC : gq_C p s m #[Value.ref b] meth c D (lw_A s) cI cZ ad mtL RL cL_law 23) (hr : meth.sig.returnType = ret)  (hk156 : ∀ (x16 : Int32) (M : gq_M) (kc ks : Nat), kc + 4007 ≤ 600074 → ks + 24042 ≤ 7301550 → kh156 x16 M = some (1, M9) → gq_W p l e room_1 s m #[Value.ref b] below meth c D (lw_A s) cI cZ ad mtL 23 (lw_Z below #[Value.ref b] s) 156 [(0, .ref b), (1, .ref (ad 0)), (2, .ref (ad 109)), (3, .ref (ad 110)), (4, .ref (ad 111)), (5, .ref (ad 112)), (6, .ref (ad 113)), (7, .ref (ad 114)), (8, .ref (ad 115)), (9, .ref (ad 116)), (10, .ref (ad 117)), (11, .ref (ad 118)), (12, .ref (ad 119)), (13, .ref (ad 120)), (14, .ref (ad 121)), (15, .ref (ad 122)), (16, .int x16)] [] M kc ks) : ∀ (x16 : Int32) (M : gq_M) (kc ks : Nat), kc + 4007 ≤ 600074 → ks + 24042 ≤ 7301550 → f_L_law_156_b sl xs N  kh156 x16 M = some (1, M9) → gq_W p l e room_1 s m #[Value.ref b] below meth c D (lw_A s) cI cZ ad mtL 23 (lw_Z below #[Value.ref b] s) 156 [(0, .ref b), (1, .ref (ad 0)), (2, .ref (ad 109)), (3, .ref (ad 110)), (4, .ref (ad 111)), (5, .ref (ad 112)), (6, .ref (ad 113)), (7, .ref (ad 114)), (8, .ref (ad 115)), (9, .ref (ad 116)), (10, .ref (ad 117)), (11, .ref (ad 118)), (12, .ref (ad 119)), (13, .ref (ad 120)), (14, .ref (ad 121)), (15, .ref (ad 122)), (16, .int x16)] [] M kc ks := by
  intro x16 M kc ks hkc hks h
  unfold f_L_law_156_b at h
  refine g_iload hC 16 rfl dL_law_156 ?_
  refine g_iconst (v := 4) hC (by decide) dL_law_158 ?_
  refine g_icmp_ge (tgt := 201) hC (by decide) dL_law_159 (fun c11 => ?_) (fun c11 => ?_)
  · replace h := gq_t c11 h
    refine g_iconst (v := 0) hC (by decide) dL_law_201 ?_
    refine g_istore (L2 := [(16, .int 0), (0, .ref b), (1, .ref (ad 0)), (2, .ref (ad 109)), (3, .ref (ad 110)), (4, .ref (ad 111)), (5, .ref (ad 112)), (6, .ref (ad 113)), (7, .ref (ad 114)), (8, .ref (ad 115)), (9, .ref (ad 116)), (10, .ref (ad 117)), (11, .ref (ad 118)), (12, .ref (ad 119)), (13, .ref (ad 120)), (14, .ref (ad 121)), (15, .ref (ad 122))]) hC (by decide) rfl dL_law_202 ?_
    exact g_weak [1, 2, 3, 4, 5, 6, 7, 8, 9, 10, 11, 12, 13, 14, 15, 16, 0] rfl (t_L_law_204 hl9 hZ hX hbl hbA hsl hN hC hr  N 0 M _ _ (by omega) (by omega) h)
  · replace h := gq_f c11 h
    refine g_aload hC 12 rfl dL_law_162 ?_
    refine g_bipush (v := 8) hC (by decide) dL_law_164 ?_
    refine g_iload hC 16 rfl dL_law_166 ?_
    refine g_iadd hC dL_law_168 ?_
    refine g_sipush (v := 1000) hC (by decide) dL_law_169 ?_
    obtain ⟨g12, h⟩ := gq_g_i h
    refine g_iast hC arL_119 (gq_in_i g12) dL_law_172 ?_
    refine g_topM (fun M13 hM13 => ?_)
    replace h := gq_l_i hM13 h
    refine g_aload hC 12 rfl dL_law_173 ?_
    refine g_bipush (v := 12) hC (by decide) dL_law_175 ?_
    refine g_iload hC 16 rfl dL_law_177 ?_
    refine g_iadd hC dL_law_179 ?_
    refine g_bipush (v := 100) hC (by decide) dL_law_180 ?_
    obtain ⟨g14, h⟩ := gq_g_i h
    refine g_iast hC arL_119 (gq_in_i g14) dL_law_182 ?_
    refine g_topM (fun M15 hM15 => ?_)
    replace h := gq_l_i hM15 h
    refine g_aload hC 12 rfl dL_law_183 ?_
    refine g_bipush (v := 16) hC (by decide) dL_law_185 ?_
    refine g_iload hC 16 rfl dL_law_187 ?_
    refine g_iadd hC dL_law_189 ?_
    refine g_iload hC 16 rfl dL_law_190 ?_
    refine g_iconst (v := 3) hC (by decide) dL_law_192 ?_
    refine g_irem hC (by decide) dL_law_193 ?_
    obtain ⟨g16, h⟩ := gq_g_i h
    refine g_iast hC arL_119 (gq_in_i g16) dL_law_194 ?_
    refine g_topM (fun M17 hM17 => ?_)
    replace h := gq_l_i hM17 h
    refine g_iinc (v := (x16 + 1)) (L2 := [(16, .int (x16 + 1)), (0, .ref b), (1, .ref (ad 0)), (2, .ref (ad 109)), (3, .ref (ad 110)), (4, .ref (ad 111)), (5, .ref (ad 112)), (6, .ref (ad 113)), (7, .ref (ad 114)), (8, .ref (ad 115)), (9, .ref (ad 116)), (10, .ref (ad 117)), (11, .ref (ad 118)), (12, .ref (ad 119)), (13, .ref (ad 120)), (14, .ref (ad 121)), (15, .ref (ad 122))]) hC 16 rfl (by first | rfl | decide) (by decide) rfl dL_law_195 ?_
    refine g_goto (tgt := 156) hC (by decide) dL_law_198 ?_
    exact g_weak [1, 2, 3, 4, 5, 6, 7, 8, 9, 10, 11, 12, 13, 14, 15, 16, 0] rfl (hk156 (x16 + 1) M17 _ _ (by omega) (by omega) h)
set_option maxHeartbeats 1000000 in
theorem t_L_law_156 {N sl : Nat} {xs : Nat → Int32} {M9 : gq_M} (hl9 : l.stackTraces = false) (hZ : gq_Zn (lw_A s) s) (hX : va_X b sl xs s s.heap) (hbl : b < s.heap.size) (hbA : ¬ lw_A s b) (hsl : sl ≤ 260) (hN : N ≤ 1000) (hC : gq_C p s m #[Value.ref b] meth c D (lw_A s) cI cZ ad mtL RL cL_law 23) (hr : meth.sig.returnType = ret)  : ∀ (n9 : Nat) (x16 : Int32) (M : gq_M) (kc ks : Nat), kc + 4007 ≤ 600074 → ks + 24042 ≤ 7301550 → f_L_law_156 sl xs N  n9 x16 M = some (1, M9) → gq_W p l e room_1 s m #[Value.ref b] below meth c D (lw_A s) cI cZ ad mtL 23 (lw_Z below #[Value.ref b] s) 156 [(0, .ref b), (1, .ref (ad 0)), (2, .ref (ad 109)), (3, .ref (ad 110)), (4, .ref (ad 111)), (5, .ref (ad 112)), (6, .ref (ad 113)), (7, .ref (ad 114)), (8, .ref (ad 115)), (9, .ref (ad 116)), (10, .ref (ad 117)), (11, .ref (ad 118)), (12, .ref (ad 119)), (13, .ref (ad 120)), (14, .ref (ad 121)), (15, .ref (ad 122)), (16, .int x16)] [] M kc ks := by
  intro n9
  induction n9 with
  | zero => intro x16 M kc ks hkc hks h; cases h
  | succ n9 ih => intro x16 M kc ks hkc hks h; exact t_L_law_156_b hl9 hZ hX hbl hbA hsl hN hC hr  ih x16 M kc ks hkc hks h
def f_L_law_122_b (sl : Nat) (xs : Nat → Int32) (N : Nat) (kh122 : Int32 → gq_M → Option (Int32 × gq_M)) (x16 : Int32) (M : gq_M) : Option (Int32 × gq_M) :=
  if 8 ≤ x16 then (f_L_law_156 sl xs N  N 0 M) else (gq_g (gq_in (32 + x16) 56) (gq_l (gq_up M 119 ((32 + x16) : Int32).toNatClampNeg 1) fun M8 => gq_g (gq_in (48 + x16) 56) (gq_l (gq_up M8 119 ((48 + x16) : Int32).toNatClampNeg 1) fun M10 => kh122 (x16 + 1) M10)))
def f_L_law_122 (sl : Nat) (xs : Nat → Int32) (N : Nat) : Nat → Int32 → gq_M → Option (Int32 × gq_M)
  | 0 => fun _ _ => none
  | n9 + 1 => f_L_law_122_b sl xs N  (f_L_law_122 sl xs N  n9)
set_option maxHeartbeats 4000000 in
set_option maxRecDepth 20000 in
theorem t_L_law_122_b {N sl : Nat} {xs : Nat → Int32} {kh122 : Int32 → gq_M → Option (Int32 × gq_M)} {M9 : gq_M} (hl9 : l.stackTraces = false) (hZ : gq_Zn (lw_A s) s) (hX : va_X b sl xs s s.heap) (hbl : b < s.heap.size) (hbA : ¬ lw_A s b) (hsl : sl ≤ 260) (hN : N ≤ 1000) (hC : gq_C p s m #[Value.ref b] meth c D (lw_A s) cI cZ ad mtL RL cL_law 23) (hr : meth.sig.returnType = ret)  (hk122 : ∀ (x16 : Int32) (M : gq_M) (kc ks : Nat), kc + 4007 ≤ 600074 → ks + 24042 ≤ 7301550 → kh122 x16 M = some (1, M9) → gq_W p l e room_1 s m #[Value.ref b] below meth c D (lw_A s) cI cZ ad mtL 23 (lw_Z below #[Value.ref b] s) 122 [(0, .ref b), (1, .ref (ad 0)), (2, .ref (ad 109)), (3, .ref (ad 110)), (4, .ref (ad 111)), (5, .ref (ad 112)), (6, .ref (ad 113)), (7, .ref (ad 114)), (8, .ref (ad 115)), (9, .ref (ad 116)), (10, .ref (ad 117)), (11, .ref (ad 118)), (12, .ref (ad 119)), (13, .ref (ad 120)), (14, .ref (ad 121)), (15, .ref (ad 122)), (16, .int x16)] [] M kc ks) : ∀ (x16 : Int32) (M : gq_M) (kc ks : Nat), kc + 4007 ≤ 600074 → ks + 24042 ≤ 7301550 → f_L_law_122_b sl xs N  kh122 x16 M = some (1, M9) → gq_W p l e room_1 s m #[Value.ref b] below meth c D (lw_A s) cI cZ ad mtL 23 (lw_Z below #[Value.ref b] s) 122 [(0, .ref b), (1, .ref (ad 0)), (2, .ref (ad 109)), (3, .ref (ad 110)), (4, .ref (ad 111)), (5, .ref (ad 112)), (6, .ref (ad 113)), (7, .ref (ad 114)), (8, .ref (ad 115)), (9, .ref (ad 116)), (10, .ref (ad 117)), (11, .ref (ad 118)), (12, .ref (ad 119)), (13, .ref (ad 120)), (14, .ref (ad 121)), (15, .ref (ad 122)), (16, .int x16)] [] M kc ks := by
  intro x16 M kc ks hkc hks h
  unfold f_L_law_122_b at h
  refine g_iload hC 16 rfl dL_law_122 ?_
  refine g_bipush (v := 8) hC (by decide) dL_law_124 ?_
  refine g_icmp_ge (tgt := 153) hC (by decide) dL_law_126 (fun c6 => ?_) (fun c6 => ?_)
  · replace h := gq_t c6 h
    refine g_iconst (v := 0) hC (by decide) dL_law_153 ?_
    refine g_istore (L2 := [(16, .int 0), (0, .ref b), (1, .ref (ad 0)), (2, .ref (ad 109)), (3, .ref (ad 110)), (4, .ref (ad 111)), (5, .ref (ad 112)), (6, .ref (ad 113)), (7, .ref (ad 114)), (8, .ref (ad 115)), (9, .ref (ad 116)), (10, .ref (ad 117)), (11, .ref (ad 118)), (12, .ref (ad 119)), (13, .ref (ad 120)), (14, .ref (ad 121)), (15, .ref (ad 122))]) hC (by decide) rfl dL_law_154 ?_
    exact g_weak [1, 2, 3, 4, 5, 6, 7, 8, 9, 10, 11, 12, 13, 14, 15, 16, 0] rfl (t_L_law_156 hl9 hZ hX hbl hbA hsl hN hC hr  N 0 M _ _ (by omega) (by omega) h)
  · replace h := gq_f c6 h
    refine g_aload hC 12 rfl dL_law_129 ?_
    refine g_bipush (v := 32) hC (by decide) dL_law_131 ?_
    refine g_iload hC 16 rfl dL_law_133 ?_
    refine g_iadd hC dL_law_135 ?_
    refine g_iconst (v := 1) hC (by decide) dL_law_136 ?_
    obtain ⟨g7, h⟩ := gq_g_i h
    refine g_iast hC arL_119 (gq_in_i g7) dL_law_137 ?_
    refine g_topM (fun M8 hM8 => ?_)
    replace h := gq_l_i hM8 h
    refine g_aload hC 12 rfl dL_law_138 ?_
    refine g_bipush (v := 48) hC (by decide) dL_law_140 ?_
    refine g_iload hC 16 rfl dL_law_142 ?_
    refine g_iadd hC dL_law_144 ?_
    refine g_iconst (v := 1) hC (by decide) dL_law_145 ?_
    obtain ⟨g9, h⟩ := gq_g_i h
    refine g_iast hC arL_119 (gq_in_i g9) dL_law_146 ?_
    refine g_topM (fun M10 hM10 => ?_)
    replace h := gq_l_i hM10 h
    refine g_iinc (v := (x16 + 1)) (L2 := [(16, .int (x16 + 1)), (0, .ref b), (1, .ref (ad 0)), (2, .ref (ad 109)), (3, .ref (ad 110)), (4, .ref (ad 111)), (5, .ref (ad 112)), (6, .ref (ad 113)), (7, .ref (ad 114)), (8, .ref (ad 115)), (9, .ref (ad 116)), (10, .ref (ad 117)), (11, .ref (ad 118)), (12, .ref (ad 119)), (13, .ref (ad 120)), (14, .ref (ad 121)), (15, .ref (ad 122))]) hC 16 rfl (by first | rfl | decide) (by decide) rfl dL_law_147 ?_
    refine g_goto (tgt := 122) hC (by decide) dL_law_150 ?_
    exact g_weak [1, 2, 3, 4, 5, 6, 7, 8, 9, 10, 11, 12, 13, 14, 15, 16, 0] rfl (hk122 (x16 + 1) M10 _ _ (by omega) (by omega) h)
set_option maxHeartbeats 1000000 in
theorem t_L_law_122 {N sl : Nat} {xs : Nat → Int32} {M9 : gq_M} (hl9 : l.stackTraces = false) (hZ : gq_Zn (lw_A s) s) (hX : va_X b sl xs s s.heap) (hbl : b < s.heap.size) (hbA : ¬ lw_A s b) (hsl : sl ≤ 260) (hN : N ≤ 1000) (hC : gq_C p s m #[Value.ref b] meth c D (lw_A s) cI cZ ad mtL RL cL_law 23) (hr : meth.sig.returnType = ret)  : ∀ (n9 : Nat) (x16 : Int32) (M : gq_M) (kc ks : Nat), kc + 4007 ≤ 600074 → ks + 24042 ≤ 7301550 → f_L_law_122 sl xs N  n9 x16 M = some (1, M9) → gq_W p l e room_1 s m #[Value.ref b] below meth c D (lw_A s) cI cZ ad mtL 23 (lw_Z below #[Value.ref b] s) 122 [(0, .ref b), (1, .ref (ad 0)), (2, .ref (ad 109)), (3, .ref (ad 110)), (4, .ref (ad 111)), (5, .ref (ad 112)), (6, .ref (ad 113)), (7, .ref (ad 114)), (8, .ref (ad 115)), (9, .ref (ad 116)), (10, .ref (ad 117)), (11, .ref (ad 118)), (12, .ref (ad 119)), (13, .ref (ad 120)), (14, .ref (ad 121)), (15, .ref (ad 122)), (16, .int x16)] [] M kc ks := by
  intro n9
  induction n9 with
  | zero => intro x16 M kc ks hkc hks h; cases h
  | succ n9 ih => intro x16 M kc ks hkc hks h; exact t_L_law_122_b hl9 hZ hX hbl hbA hsl hN hC hr  ih x16 M kc ks hkc hks h
def f_L_law_98_b (sl : Nat) (xs : Nat → Int32) (N : Nat) (kh98 : Int32 → gq_M → Option (Int32 × gq_M)) (x16 : Int32) (M : gq_M) : Option (Int32 × gq_M) :=
  if 32 ≤ x16 then (f_L_law_122 sl xs N  N 0 M) else (gq_g (gq_in x16 64) (gq_l (gq_up M 120 x16.toNatClampNeg 10000) fun M5 => kh98 (x16 + 1) M5))
def f_L_law_98 (sl : Nat) (xs : Nat → Int32) (N : Nat) : Nat → Int32 → gq_M → Option (Int32 × gq_M)
  | 0 => fun _ _ => none
  | n9 + 1 => f_L_law_98_b sl xs N  (f_L_law_98 sl xs N  n9)
set_option maxHeartbeats 4000000 in
set_option maxRecDepth 20000 in
theorem t_L_law_98_b {N sl : Nat} {xs : Nat → Int32} {kh98 : Int32 → gq_M → Option (Int32 × gq_M)} {M9 : gq_M} (hl9 : l.stackTraces = false) (hZ : gq_Zn (lw_A s) s) (hX : va_X b sl xs s s.heap) (hbl : b < s.heap.size) (hbA : ¬ lw_A s b) (hsl : sl ≤ 260) (hN : N ≤ 1000) (hC : gq_C p s m #[Value.ref b] meth c D (lw_A s) cI cZ ad mtL RL cL_law 23) (hr : meth.sig.returnType = ret)  (hk98 : ∀ (x16 : Int32) (M : gq_M) (kc ks : Nat), kc + 4007 ≤ 600074 → ks + 24042 ≤ 7301550 → kh98 x16 M = some (1, M9) → gq_W p l e room_1 s m #[Value.ref b] below meth c D (lw_A s) cI cZ ad mtL 23 (lw_Z below #[Value.ref b] s) 98 [(0, .ref b), (1, .ref (ad 0)), (2, .ref (ad 109)), (3, .ref (ad 110)), (4, .ref (ad 111)), (5, .ref (ad 112)), (6, .ref (ad 113)), (7, .ref (ad 114)), (8, .ref (ad 115)), (9, .ref (ad 116)), (10, .ref (ad 117)), (11, .ref (ad 118)), (12, .ref (ad 119)), (13, .ref (ad 120)), (14, .ref (ad 121)), (15, .ref (ad 122)), (16, .int x16)] [] M kc ks) : ∀ (x16 : Int32) (M : gq_M) (kc ks : Nat), kc + 4007 ≤ 600074 → ks + 24042 ≤ 7301550 → f_L_law_98_b sl xs N  kh98 x16 M = some (1, M9) → gq_W p l e room_1 s m #[Value.ref b] below meth c D (lw_A s) cI cZ ad mtL 23 (lw_Z below #[Value.ref b] s) 98 [(0, .ref b), (1, .ref (ad 0)), (2, .ref (ad 109)), (3, .ref (ad 110)), (4, .ref (ad 111)), (5, .ref (ad 112)), (6, .ref (ad 113)), (7, .ref (ad 114)), (8, .ref (ad 115)), (9, .ref (ad 116)), (10, .ref (ad 117)), (11, .ref (ad 118)), (12, .ref (ad 119)), (13, .ref (ad 120)), (14, .ref (ad 121)), (15, .ref (ad 122)), (16, .int x16)] [] M kc ks := by
  intro x16 M kc ks hkc hks h
  unfold f_L_law_98_b at h
  refine g_iload hC 16 rfl dL_law_98 ?_
  refine g_bipush (v := 32) hC (by decide) dL_law_100 ?_
  refine g_icmp_ge (tgt := 119) hC (by decide) dL_law_102 (fun c3 => ?_) (fun c3 => ?_)
  · replace h := gq_t c3 h
    refine g_iconst (v := 0) hC (by decide) dL_law_119 ?_
    refine g_istore (L2 := [(16, .int 0), (0, .ref b), (1, .ref (ad 0)), (2, .ref (ad 109)), (3, .ref (ad 110)), (4, .ref (ad 111)), (5, .ref (ad 112)), (6, .ref (ad 113)), (7, .ref (ad 114)), (8, .ref (ad 115)), (9, .ref (ad 116)), (10, .ref (ad 117)), (11, .ref (ad 118)), (12, .ref (ad 119)), (13, .ref (ad 120)), (14, .ref (ad 121)), (15, .ref (ad 122))]) hC (by decide) rfl dL_law_120 ?_
    exact g_weak [1, 2, 3, 4, 5, 6, 7, 8, 9, 10, 11, 12, 13, 14, 15, 16, 0] rfl (t_L_law_122 hl9 hZ hX hbl hbA hsl hN hC hr  N 0 M _ _ (by omega) (by omega) h)
  · replace h := gq_f c3 h
    refine g_aload hC 13 rfl dL_law_105 ?_
    refine g_iload hC 16 rfl dL_law_107 ?_
    refine g_sipush (v := 10000) hC (by decide) dL_law_109 ?_
    obtain ⟨g4, h⟩ := gq_g_i h
    refine g_iast hC arL_120 (gq_in_i g4) dL_law_112 ?_
    refine g_topM (fun M5 hM5 => ?_)
    replace h := gq_l_i hM5 h
    refine g_iinc (v := (x16 + 1)) (L2 := [(16, .int (x16 + 1)), (0, .ref b), (1, .ref (ad 0)), (2, .ref (ad 109)), (3, .ref (ad 110)), (4, .ref (ad 111)), (5, .ref (ad 112)), (6, .ref (ad 113)), (7, .ref (ad 114)), (8, .ref (ad 115)), (9, .ref (ad 116)), (10, .ref (ad 117)), (11, .ref (ad 118)), (12, .ref (ad 119)), (13, .ref (ad 120)), (14, .ref (ad 121)), (15, .ref (ad 122))]) hC 16 rfl (by first | rfl | decide) (by decide) rfl dL_law_113 ?_
    refine g_goto (tgt := 98) hC (by decide) dL_law_116 ?_
    exact g_weak [1, 2, 3, 4, 5, 6, 7, 8, 9, 10, 11, 12, 13, 14, 15, 16, 0] rfl (hk98 (x16 + 1) M5 _ _ (by omega) (by omega) h)
set_option maxHeartbeats 1000000 in
theorem t_L_law_98 {N sl : Nat} {xs : Nat → Int32} {M9 : gq_M} (hl9 : l.stackTraces = false) (hZ : gq_Zn (lw_A s) s) (hX : va_X b sl xs s s.heap) (hbl : b < s.heap.size) (hbA : ¬ lw_A s b) (hsl : sl ≤ 260) (hN : N ≤ 1000) (hC : gq_C p s m #[Value.ref b] meth c D (lw_A s) cI cZ ad mtL RL cL_law 23) (hr : meth.sig.returnType = ret)  : ∀ (n9 : Nat) (x16 : Int32) (M : gq_M) (kc ks : Nat), kc + 4007 ≤ 600074 → ks + 24042 ≤ 7301550 → f_L_law_98 sl xs N  n9 x16 M = some (1, M9) → gq_W p l e room_1 s m #[Value.ref b] below meth c D (lw_A s) cI cZ ad mtL 23 (lw_Z below #[Value.ref b] s) 98 [(0, .ref b), (1, .ref (ad 0)), (2, .ref (ad 109)), (3, .ref (ad 110)), (4, .ref (ad 111)), (5, .ref (ad 112)), (6, .ref (ad 113)), (7, .ref (ad 114)), (8, .ref (ad 115)), (9, .ref (ad 116)), (10, .ref (ad 117)), (11, .ref (ad 118)), (12, .ref (ad 119)), (13, .ref (ad 120)), (14, .ref (ad 121)), (15, .ref (ad 122)), (16, .int x16)] [] M kc ks := by
  intro n9
  induction n9 with
  | zero => intro x16 M kc ks hkc hks h; cases h
  | succ n9 ih => intro x16 M kc ks hkc hks h; exact t_L_law_98_b hl9 hZ hX hbl hbA hsl hN hC hr  ih x16 M kc ks hkc hks h
def f_L_law_90 (sl : Nat) (xs : Nat → Int32) (N : Nat) (M : gq_M) : Option (Int32 × gq_M) :=
  gq_g (gq_in 3 56) (gq_l (gq_up M 119 (3 : Int32).toNatClampNeg 1) fun M2 => f_L_law_98 sl xs N  N 0 M2)
set_option maxHeartbeats 4000000 in
set_option maxRecDepth 20000 in
theorem t_L_law_90 {N sl : Nat} {xs : Nat → Int32} {M9 : gq_M} (hl9 : l.stackTraces = false) (hZ : gq_Zn (lw_A s) s) (hX : va_X b sl xs s s.heap) (hbl : b < s.heap.size) (hbA : ¬ lw_A s b) (hsl : sl ≤ 260) (hN : N ≤ 1000) (hC : gq_C p s m #[Value.ref b] meth c D (lw_A s) cI cZ ad mtL RL cL_law 23) (hr : meth.sig.returnType = ret)   : ∀ (M : gq_M) (kc ks : Nat), kc + 4007 ≤ 600074 → ks + 24042 ≤ 7301550 → f_L_law_90 sl xs N   M = some (1, M9) → gq_W p l e room_1 s m #[Value.ref b] below meth c D (lw_A s) cI cZ ad mtL 23 (lw_Z below #[Value.ref b] s) 90 [(0, .ref b), (1, .ref (ad 0)), (2, .ref (ad 109)), (3, .ref (ad 110)), (4, .ref (ad 111)), (5, .ref (ad 112)), (6, .ref (ad 113)), (7, .ref (ad 114)), (8, .ref (ad 115)), (9, .ref (ad 116)), (10, .ref (ad 117)), (11, .ref (ad 118)), (12, .ref (ad 119)), (13, .ref (ad 120)), (14, .ref (ad 121)), (15, .ref (ad 122))] [] M kc ks := by
  intro  M kc ks hkc hks h
  unfold f_L_law_90 at h
  refine g_aload hC 12 rfl dL_law_90 ?_
  refine g_iconst (v := 3) hC (by decide) dL_law_92 ?_
  refine g_iconst (v := 1) hC (by decide) dL_law_93 ?_
  obtain ⟨g1, h⟩ := gq_g_i h
  refine g_iast hC arL_119 (gq_in_i g1) dL_law_94 ?_
  refine g_topM (fun M2 hM2 => ?_)
  replace h := gq_l_i hM2 h
  refine g_iconst (v := 0) hC (by decide) dL_law_95 ?_
  refine g_istore (L2 := [(16, .int 0), (0, .ref b), (1, .ref (ad 0)), (2, .ref (ad 109)), (3, .ref (ad 110)), (4, .ref (ad 111)), (5, .ref (ad 112)), (6, .ref (ad 113)), (7, .ref (ad 114)), (8, .ref (ad 115)), (9, .ref (ad 116)), (10, .ref (ad 117)), (11, .ref (ad 118)), (12, .ref (ad 119)), (13, .ref (ad 120)), (14, .ref (ad 121)), (15, .ref (ad 122))]) hC (by decide) rfl dL_law_96 ?_
  exact g_weak [1, 2, 3, 4, 5, 6, 7, 8, 9, 10, 11, 12, 13, 14, 15, 16, 0] rfl (t_L_law_98 hl9 hZ hX hbl hbA hsl hN hC hr  N 0 M2 _ _ (by omega) (by omega) h)
end
