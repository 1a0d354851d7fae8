section
variable {p : Program} {l : Launch} {e : Env} {s : State} {m : MethodId} {args : Array Value} {below : List Frame} {meth : Method} {c : Code} {D : va_G} {A : Nat → Prop} {cI cZ : ClassId} {ad : Nat → Nat}
def f_X10_canPay_22 (N : Nat) (s0 : Int32) (M : gq_M) : Option (Int32 × gq_M) :=
  gq_g (gq_bb s0) (some (s0, M))
set_option maxHeartbeats 1000000 in
set_option maxRecDepth 20000 in
theorem t_X10_canPay_22 {N : Nat} {v9 : Int32} {M9 : gq_M} (hC : gq_C p s m args meth c D A cI cZ ad mtR RX10 cX10_canPay 3) (hr : meth.sig.returnType = (some .boolean))   : ∀ (s0 : Int32) (M : gq_M), f_X10_canPay_22 N  s0 M = some (v9, M9) → gq_W p l e (gq_rm 0) s m args below meth c D A cI cZ ad mtR 3 (MQ below (gq_Qi D cI cZ ad mtR v9 M9 A) args s 0 0 A) 22 [] [.int s0] M 0 0 := by
  intro s0 M h
  unfold f_X10_canPay_22 at h
  obtain ⟨g6, h⟩ := gq_g_i h
  exact g_zrets hC hr (gq_bb_i g6) h dX10_canPay_22
def f_X10_canPay (N : Nat) (a1 : Int32) (a2 : Int32) (M : gq_M) : Option (Int32 × gq_M) :=
  gq_g (gq_in a1 8) (gq_l (M 9 a1.toNatClampNeg) fun v2 => gq_g (gq_in a1 8) (gq_l (M 11 a1.toNatClampNeg) fun v4 => if (v2 - v4) < a2 then (f_X10_canPay_22 N  0 M) else (f_X10_canPay_22 N  1 M)))
set_option maxHeartbeats 1000000 in
set_option maxRecDepth 20000 in
theorem t_X10_canPay {l : Launch} {D : va_G} {cI cZ : ClassId} {ad : Nat → Nat} (N : Nat) (a1 : Int32) (a2 : Int32) (M : gq_M) (v9 : Int32) (M9 : gq_M) (h : f_X10_canPay N a1 a2 M = some (v9, M9)) : gq_Ci l D cI cZ ad mtR yX10_canPay cX10_canPay 3 (some .boolean) 0 [.ref (ad 0), .int a1, .int a2] M v9 M9 := by
  refine gq_introI (own := RX10) (by decide) rfl (Nat.le_of_ble_eq_true rfl) ?_
  intro p e s m below meth c hC hr
  refine g_cast (L2 := [(0, .ref (ad 0)), (1, .int a1), (2, .int a2)]) ?_ rfl rfl rfl rfl
  unfold f_X10_canPay at h
  refine g_aload_n hC 0 rfl rfl dX10_canPay_0 ?_
  refine g_getR hC fF_X10_39 lkR_0_12 dX10_canPay_1 ?_
  refine g_iload_n hC 1 rfl rfl dX10_canPay_4 ?_
  obtain ⟨g1, h⟩ := gq_g_i h
  refine g_iald hC arR_9 (gq_in_i g1) dX10_canPay_5 ?_
  refine g_topi (fun v2 hv2 => ?_)
  replace h := gq_l_i hv2 h
  refine g_aload_n hC 0 rfl rfl dX10_canPay_6 ?_
  refine g_getR hC fF_X10_45 lkR_0_14 dX10_canPay_7 ?_
  refine g_iload_n hC 1 rfl rfl dX10_canPay_10 ?_
  obtain ⟨g3, h⟩ := gq_g_i h
  refine g_iald hC arR_11 (gq_in_i g3) dX10_canPay_11 ?_
  refine g_topi (fun v4 hv4 => ?_)
  replace h := gq_l_i hv4 h
  refine g_isub hC dX10_canPay_12 ?_
  refine g_iload_n hC 2 rfl rfl dX10_canPay_13 ?_
  refine g_icmp_lt (tgt := 21) hC (by decide) dX10_canPay_14 (fun c5 => ?_) (fun c5 => ?_)
  · replace h := gq_t c5 h
    refine g_iconst (v := 0) hC (by decide) dX10_canPay_21 ?_
    exact g_weak [] rfl (t_X10_canPay_22 hC hr  0 M h)
  · replace h := gq_f c5 h
    refine g_iconst (v := 1) hC (by decide) dX10_canPay_17 ?_
    refine g_goto (tgt := 22) hC (by decide) dX10_canPay_18 ?_
    exact g_weak [] rfl (t_X10_canPay_22 hC hr  1 M h)
def f_X10_costOf_88 (N : Nat) (kh9 : Int32 → Int32 → Int32 → Int32 → Int32 → Int32 → gq_M → Option (Int32 × gq_M)) (x1 : Int32) (x2 : Int32) (x3 : Int32) (x4 : Int32) (x6 : Int32) (s0 : Int32) (s1 : Int32) (M : gq_M) : Option (Int32 × gq_M) :=
  kh9 x1 x2 x3 x4 (s0 + s1) (x6 + 1) M
set_option maxHeartbeats 1000000 in
set_option maxRecDepth 20000 in
theorem t_X10_costOf_88 {N : Nat} {kh9 : Int32 → Int32 → Int32 → Int32 → Int32 → Int32 → gq_M → Option (Int32 × gq_M)} {v9 : Int32} {M9 : gq_M} (hC : gq_C p s m args meth c D A cI cZ ad mtR RX10 cX10_costOf 8) (hr : meth.sig.returnType = (some .int)) (hk9 : ∀ (x1 : Int32) (x2 : Int32) (x3 : Int32) (x4 : Int32) (x5 : Int32) (x6 : Int32) (M : gq_M), kh9 x1 x2 x3 x4 x5 x6 M = some (v9, M9) → gq_W p l e (gq_rm 0) s m args below meth c D A cI cZ ad mtR 8 (MQ below (gq_Qi D cI cZ ad mtR v9 M9 A) args s 0 0 A) 9 [(0, .ref (ad 0)), (1, .int x1), (2, .int x2), (3, .int x3), (4, .int x4), (5, .int x5), (6, .int x6)] [] M 0 0)  : ∀ (x1 : Int32) (x2 : Int32) (x3 : Int32) (x4 : Int32) (x6 : Int32) (s0 : Int32) (s1 : Int32) (M : gq_M), f_X10_costOf_88 N kh9 x1 x2 x3 x4 x6 s0 s1 M = some (v9, M9) → gq_W p l e (gq_rm 0) s m args below meth c D A cI cZ ad mtR 8 (MQ below (gq_Qi D cI cZ ad mtR v9 M9 A) args s 0 0 A) 88 [(0, .ref (ad 0)), (1, .int x1), (2, .int x2), (3, .int x3), (4, .int x4), (6, .int x6)] [.int s1, .int s0] M 0 0 := by
  intro x1 x2 x3 x4 x6 s0 s1 M h
  unfold f_X10_costOf_88 at h
  refine g_iadd hC dX10_costOf_88 ?_
  refine g_istore (L2 := [(5, .int (s0 + s1)), (0, .ref (ad 0)), (1, .int x1), (2, .int x2), (3, .int x3), (4, .int x4), (6, .int x6)]) hC (by decide) rfl dX10_costOf_89 ?_
  refine g_iinc (v := (x6 + 1)) (L2 := [(6, .int (x6 + 1)), (5, .int (s0 + s1)), (0, .ref (ad 0)), (1, .int x1), (2, .int x2), (3, .int x3), (4, .int x4)]) hC 6 rfl (by first | rfl | decide) (by decide) rfl dX10_costOf_91 ?_
  refine g_goto (tgt := 9) hC (by decide) dX10_costOf_94 ?_
  exact g_weak [2, 3, 4, 5, 6, 1, 0] rfl (hk9 x1 x2 x3 x4 (s0 + s1) (x6 + 1) M h)
def f_X10_costOf_73 (N : Nat) (kh9 : Int32 → Int32 → Int32 → Int32 → Int32 → Int32 → gq_M → Option (Int32 × gq_M)) (x1 : Int32) (x2 : Int32) (x3 : Int32) (x5 : Int32) (x6 : Int32) (x7 : Int32) (s0 : Int32) (s1 : Int32) (M : gq_M) : Option (Int32 × gq_M) :=
  if x7 = 0 then (f_X10_costOf_88 N kh9 x1 x2 x3 (s0 + s1) x6 x5 0 M) else (f_X10_costOf_88 N kh9 x1 x2 x3 (s0 + s1) x6 x5 1 M)
set_option maxHeartbeats 1000000 in
set_option maxRecDepth 20000 in
theorem t_X10_costOf_73 {N : Nat} {kh9 : Int32 → Int32 → Int32 → Int32 → Int32 → Int32 → gq_M → Option (Int32 × gq_M)} {v9 : Int32} {M9 : gq_M} (hC : gq_C p s m args meth c D A cI cZ ad mtR RX10 cX10_costOf 8) (hr : meth.sig.returnType = (some .int)) (hk9 : ∀ (x1 : Int32) (x2 : Int32) (x3 : Int32) (x4 : Int32) (x5 : Int32) (x6 : Int32) (M : gq_M), kh9 x1 x2 x3 x4 x5 x6 M = some (v9, M9) → gq_W p l e (gq_rm 0) s m args below meth c D A cI cZ ad mtR 8 (MQ below (gq_Qi D cI cZ ad mtR v9 M9 A) args s 0 0 A) 9 [(0, .ref (ad 0)), (1, .int x1), (2, .int x2), (3, .int x3), (4, .int x4), (5, .int x5), (6, .int x6)] [] M 0 0)  : ∀ (x1 : Int32) (x2 : Int32) (x3 : Int32) (x5 : Int32) (x6 : Int32) (x7 : Int32) (s0 : Int32) (s1 : Int32) (M : gq_M), f_X10_costOf_73 N kh9 x1 x2 x3 x5 x6 x7 s0 s1 M = some (v9, M9) → gq_W p l e (gq_rm 0) s m args below meth c D A cI cZ ad mtR 8 (MQ below (gq_Qi D cI cZ ad mtR v9 M9 A) args s 0 0 A) 73 [(0, .ref (ad 0)), (1, .int x1), (2, .int x2), (3, .int x3), (5, .int x5), (6, .int x6), (7, .int x7)] [.int s1, .int s0] M 0 0 := by
  intro x1 x2 x3 x5 x6 x7 s0 s1 M h
  unfold f_X10_costOf_73 at h
  refine g_iadd hC dX10_costOf_73 ?_
  refine g_istore (L2 := [(4, .int (s0 + s1)), (0, .ref (ad 0)), (1, .int x1), (2, .int x2), (3, .int x3), (5, .int x5), (6, .int x6), (7, .int x7)]) hC (by decide) rfl dX10_costOf_74 ?_
  refine g_iload hC 5 rfl dX10_costOf_76 ?_
  refine g_iload hC 7 rfl dX10_costOf_78 ?_
  refine g_if_eq (tgt := 87) hC (by decide) dX10_costOf_80 (fun c12 => ?_) (fun c12 => ?_)
  · replace h := gq_t c12 h
    refine g_iconst (v := 0) hC (by decide) dX10_costOf_87 ?_
    exact g_weak [1, 2, 3, 4, 0, 6] rfl (t_X10_costOf_88 hC hr hk9 x1 x2 x3 (s0 + s1) x6 x5 0 M h)
  · replace h := gq_f c12 h
    refine g_iconst (v := 1) hC (by decide) dX10_costOf_83 ?_
    refine g_goto (tgt := 88) hC (by decide) dX10_costOf_84 ?_
    exact g_weak [1, 2, 3, 4, 0, 6] rfl (t_X10_costOf_88 hC hr hk9 x1 x2 x3 (s0 + s1) x6 x5 1 M h)
def f_X10_costOf_51 (N : Nat) (kh9 : Int32 → Int32 → Int32 → Int32 → Int32 → Int32 → gq_M → Option (Int32 × gq_M)) (x1 : Int32) (x2 : Int32) (x3 : Int32) (x4 : Int32) (x5 : Int32) (x6 : Int32) (s0 : Int32) (M : gq_M) : Option (Int32 × gq_M) :=
  if s0 = 0 then (f_X10_costOf_73 N kh9 x1 x2 x3 x5 x6 s0 x4 0 M) else (gq_g (gq_in x6 150) (gq_l (M 17 x6.toNatClampNeg) fun v11 => f_X10_costOf_73 N kh9 x1 x2 x3 x5 x6 s0 x4 (v11 * x3) M))
set_option maxHeartbeats 1000000 in
set_option maxRecDepth 20000 in
theorem t_X10_costOf_51 {N : Nat} {kh9 : Int32 → Int32 → Int32 → Int32 → Int32 → Int32 → gq_M → Option (Int32 × gq_M)} {v9 : Int32} {M9 : gq_M} (hC : gq_C p s m args meth c D A cI cZ ad mtR RX10 cX10_costOf 8) (hr : meth.sig.returnType = (some .int)) (hk9 : ∀ (x1 : Int32) (x2 : Int32) (x3 : Int32) (x4 : Int32) (x5 : Int32) (x6 : Int32) (M : gq_M), kh9 x1 x2 x3 x4 x5 x6 M = some (v9, M9) → gq_W p l e (gq_rm 0) s m args below meth c D A cI cZ ad mtR 8 (MQ below (gq_Qi D cI cZ ad mtR v9 M9 A) args s 0 0 A) 9 [(0, .ref (ad 0)), (1, .int x1), (2, .int x2), (3, .int x3), (4, .int x4), (5, .int x5), (6, .int x6)] [] M 0 0)  : ∀ (x1 : Int32) (x2 : Int32) (x3 : Int32) (x4 : Int32) (x5 : Int32) (x6 : Int32) (s0 : Int32) (M : gq_M), f_X10_costOf_51 N kh9 x1 x2 x3 x4 x5 x6 s0 M = some (v9, M9) → gq_W p l e (gq_rm 0) s m args below meth c D A cI cZ ad mtR 8 (MQ below (gq_Qi D cI cZ ad mtR v9 M9 A) args s 0 0 A) 51 [(0, .ref (ad 0)), (1, .int x1), (2, .int x2), (3, .int x3), (4, .int x4), (5, .int x5), (6, .int x6)] [.int s0] M 0 0 := by
  intro x1 x2 x3 x4 x5 x6 s0 M h
  unfold f_X10_costOf_51 at h
  refine g_istore (L2 := [(7, .int s0), (0, .ref (ad 0)), (1, .int x1), (2, .int x2), (3, .int x3), (4, .int x4), (5, .int x5), (6, .int x6)]) hC (by decide) rfl dX10_costOf_51 ?_
  refine g_iload hC 5 rfl dX10_costOf_53 ?_
  refine g_iload hC 0 rfl dX10_costOf_55 ?_
  refine g_if_eq (tgt := 72) hC (by decide) dX10_costOf_57 (fun c9 => ?_) (fun c9 => ?_)
  · replace h := gq_t c9 h
    refine g_iconst (v := 0) hC (by decide) dX10_costOf_72 ?_
    exact g_weak [1, 2, 3, 4, 6, 7, 0] rfl (t_X10_costOf_73 hC hr hk9 x1 x2 x3 x5 x6 s0 x4 0 M h)
  · replace h := gq_f c9 h
    refine g_aload_n hC 1 rfl rfl dX10_costOf_60 ?_
    refine g_getR hC fF_X10_63 lkR_0_21 dX10_costOf_61 ?_
    refine g_iload hC 7 rfl dX10_costOf_64 ?_
    obtain ⟨g10, h⟩ := gq_g_i h
    refine g_iald hC arR_17 (gq_in_i g10) dX10_costOf_66 ?_
    refine g_topi (fun v11 hv11 => ?_)
    replace h := gq_l_i hv11 h
    refine g_iload_n hC 4 rfl rfl dX10_costOf_67 ?_
    refine g_imul hC dX10_costOf_68 ?_
    refine g_goto (tgt := 73) hC (by decide) dX10_costOf_69 ?_
    exact g_weak [1, 2, 3, 4, 6, 7, 0] rfl (t_X10_costOf_73 hC hr hk9 x1 x2 x3 x5 x6 s0 x4 (v11 * x3) M h)
def f_X10_costOf_50 (N : Nat) (kh9 : Int32 → Int32 → Int32 → Int32 → Int32 → Int32 → gq_M → Option (Int32 × gq_M)) (x1 : Int32) (x2 : Int32) (x3 : Int32) (x4 : Int32) (x5 : Int32) (x6 : Int32) (M : gq_M) : Option (Int32 × gq_M) :=
  f_X10_costOf_51 N kh9 x1 x2 x3 x4 x5 x6 0 M
set_option maxHeartbeats 1000000 in
set_option maxRecDepth 20000 in
theorem t_X10_costOf_50 {N : Nat} {kh9 : Int32 → Int32 → Int32 → Int32 → Int32 → Int32 → gq_M → Option (Int32 × gq_M)} {v9 : Int32} {M9 : gq_M} (hC : gq_C p s m args meth c D A cI cZ ad mtR RX10 cX10_costOf 8) (hr : meth.sig.returnType = (some .int)) (hk9 : ∀ (x1 : Int32) (x2 : Int32) (x3 : Int32) (x4 : Int32) (x5 : Int32) (x6 : Int32) (M : gq_M), kh9 x1 x2 x3 x4 x5 x6 M = some (v9, M9) → gq_W p l e (gq_rm 0) s m args below meth c D A cI cZ ad mtR 8 (MQ below (gq_Qi D cI cZ ad mtR v9 M9 A) args s 0 0 A) 9 [(0, .ref (ad 0)), (1, .int x1), (2, .int x2), (3, .int x3), (4, .int x4), (5, .int x5), (6, .int x6)] [] M 0 0)  : ∀ (x1 : Int32) (x2 : Int32) (x3 : Int32) (x4 : Int32) (x5 : Int32) (x6 : Int32) (M : gq_M), f_X10_costOf_50 N kh9 x1 x2 x3 x4 x5 x6 M = some (v9, M9) → gq_W p l e (gq_rm 0) s m args below meth c D A cI cZ ad mtR 8 (MQ below (gq_Qi D cI cZ ad mtR v9 M9 A) args s 0 0 A) 50 [(0, .ref (ad 0)), (1, .int x1), (2, .int x2), (3, .int x3), (4, .int x4), (5, .int x5), (6, .int x6)] [] M 0 0 := by
  intro x1 x2 x3 x4 x5 x6 M h
  unfold f_X10_costOf_50 at h
  refine g_iconst (v := 0) hC (by decide) dX10_costOf_50 ?_
  exact g_weak [0, 1, 2, 3, 4, 5, 6] rfl (t_X10_costOf_51 hC hr hk9 x1 x2 x3 x4 x5 x6 0 M h)
def f_X10_costOf_9_b (N : Nat) (kh9 : Int32 → Int32 → Int32 → Int32 → Int32 → Int32 → gq_M → Option (Int32 × gq_M)) (x1 : Int32) (x2 : Int32) (x3 : Int32) (x4 : Int32) (x5 : Int32) (x6 : Int32) (M : gq_M) : Option (Int32 × gq_M) :=
  if (M 0 16) ≤ x6 then (some (x4, M)) else (gq_g (gq_in x6 150) (gq_l (M 26 x6.toNatClampNeg) fun v3 => if v3 = x1 then (gq_g (gq_in x6 150) (gq_l (M 19 x6.toNatClampNeg) fun v6 => if v6 = 2 then (if x2 ≤ x5 then (f_X10_costOf_50 N kh9 x1 x2 x3 x4 x5 x6 M) else (f_X10_costOf_51 N kh9 x1 x2 x3 x4 x5 x6 1 M)) else (f_X10_costOf_50 N kh9 x1 x2 x3 x4 x5 x6 M))) else (f_X10_costOf_50 N kh9 x1 x2 x3 x4 x5 x6 M)))
def f_X10_costOf_9 (N : Nat) : Nat → Int32 → Int32 → Int32 → Int32 → Int32 → Int32 → gq_M → Option (Int32 × gq_M)
  | 0 => fun _ _ _ _ _ _ _ => none
  | n9 + 1 => f_X10_costOf_9_b N  (f_X10_costOf_9 N  n9)
set_option maxHeartbeats 1000000 in
set_option maxRecDepth 20000 in
theorem t_X10_costOf_9_b {N : Nat} {kh9 : Int32 → Int32 → Int32 → Int32 → Int32 → Int32 → gq_M → Option (Int32 × gq_M)} {v9 : Int32} {M9 : gq_M} (hC : gq_C p s m args meth c D A cI cZ ad mtR RX10 cX10_costOf 8) (hr : meth.sig.returnType = (some .int))  (hk9 : ∀ (x1 : Int32) (x2 : Int32) (x3 : Int32) (x4 : Int32) (x5 : Int32) (x6 : Int32) (M : gq_M), kh9 x1 x2 x3 x4 x5 x6 M = some (v9, M9) → gq_W p l e (gq_rm 0) s m args below meth c D A cI cZ ad mtR 8 (MQ below (gq_Qi D cI cZ ad mtR v9 M9 A) args s 0 0 A) 9 [(0, .ref (ad 0)), (1, .int x1), (2, .int x2), (3, .int x3), (4, .int x4), (5, .int x5), (6, .int x6)] [] M 0 0) : ∀ (x1 : Int32) (x2 : Int32) (x3 : Int32) (x4 : Int32) (x5 : Int32) (x6 : Int32) (M : gq_M), f_X10_costOf_9_b N  kh9 x1 x2 x3 x4 x5 x6 M = some (v9, M9) → gq_W p l e (gq_rm 0) s m args below meth c D A cI cZ ad mtR 8 (MQ below (gq_Qi D cI cZ ad mtR v9 M9 A) args s 0 0 A) 9 [(0, .ref (ad 0)), (1, .int x1), (2, .int x2), (3, .int x3), (4, .int x4), (5, .int x5), (6, .int x6)] [] M 0 0 := by
  intro x1 x2 x3 x4 x5 x6 M h
  unfold f_X10_costOf_9_b at h
  refine g_iload hC 6 rfl dX10_costOf_9 ?_
  refine g_aload_n hC 0 rfl rfl dX10_costOf_11 ?_
  refine g_getI hC fF_X10_167 lkR_0_16 dX10_costOf_12 ?_
  refine g_icmp_ge (tgt := 97) hC (by decide) dX10_costOf_15 (fun c1 => ?_) (fun c1 => ?_)
  · replace h := gq_t c1 h
    refine g_iload hC 4 rfl dX10_costOf_97 ?_
    exact g_irets hC hr h dX10_costOf_99
  · replace h := gq_f c1 h
    refine g_aload_n hC 0 rfl rfl dX10_costOf_18 ?_
    refine g_getR hC fF_X10_90 lkR_0_30 dX10_costOf_19 ?_
    refine g_iload hC 6 rfl dX10_costOf_22 ?_
    obtain ⟨g2, h⟩ := gq_g_i h
    refine g_iald hC arR_26 (gq_in_i g2) dX10_costOf_24 ?_
    refine g_topi (fun v3 hv3 => ?_)
    replace h := gq_l_i hv3 h
    refine g_iload_n hC 1 rfl rfl dX10_costOf_25 ?_
    refine g_icmp_ne (tgt := 50) hC (by decide) dX10_costOf_26 (fun c4 => ?_) (fun c4 => ?_)
    · replace h := gq_f c4 h
      exact g_weak [0, 1, 2, 3, 4, 5, 6] rfl (t_X10_costOf_50 hC hr hk9 x1 x2 x3 x4 x5 x6 M h)
    · replace h := gq_t c4 h
      refine g_aload_n hC 0 rfl rfl dX10_costOf_29 ?_
      refine g_getR hC fF_X10_69 lkR_0_23 dX10_costOf_30 ?_
      refine g_iload hC 6 rfl dX10_costOf_33 ?_
      obtain ⟨g5, h⟩ := gq_g_i h
      refine g_iald hC arR_19 (gq_in_i g5) dX10_costOf_35 ?_
      refine g_topi (fun v6 hv6 => ?_)
      replace h := gq_l_i hv6 h
      refine g_iconst (v := 2) hC (by decide) dX10_costOf_36 ?_
      refine g_icmp_ne (tgt := 50) hC (by decide) dX10_costOf_37 (fun c7 => ?_) (fun c7 => ?_)
      · replace h := gq_f c7 h
        exact g_weak [0, 1, 2, 3, 4, 5, 6] rfl (t_X10_costOf_50 hC hr hk9 x1 x2 x3 x4 x5 x6 M h)
      · replace h := gq_t c7 h
        refine g_iload hC 5 rfl dX10_costOf_40 ?_
        refine g_iload_n hC 2 rfl rfl dX10_costOf_42 ?_
        refine g_icmp_ge (tgt := 50) hC (by decide) dX10_costOf_43 (fun c8 => ?_) (fun c8 => ?_)
        · replace h := gq_t c8 h
          exact g_weak [0, 1, 2, 3, 4, 5, 6] rfl (t_X10_costOf_50 hC hr hk9 x1 x2 x3 x4 x5 x6 M h)
        · replace h := gq_f c8 h
          refine g_iconst (v := 1) hC (by decide) dX10_costOf_46 ?_
          refine g_goto (tgt := 51) hC (by decide) dX10_costOf_47 ?_
          exact g_weak [0, 1, 2, 3, 4, 5, 6] rfl (t_X10_costOf_51 hC hr hk9 x1 x2 x3 x4 x5 x6 1 M h)
theorem t_X10_costOf_9 {N : Nat} {v9 : Int32} {M9 : gq_M} (hC : gq_C p s m args meth c D A cI cZ ad mtR RX10 cX10_costOf 8) (hr : meth.sig.returnType = (some .int))  : ∀ (n9 : Nat) (x1 : Int32) (x2 : Int32) (x3 : Int32) (x4 : Int32) (x5 : Int32) (x6 : Int32) (M : gq_M), f_X10_costOf_9 N  n9 x1 x2 x3 x4 x5 x6 M = some (v9, M9) → gq_W p l e (gq_rm 0) s m args below meth c D A cI cZ ad mtR 8 (MQ below (gq_Qi D cI cZ ad mtR v9 M9 A) args s 0 0 A) 9 [(0, .ref (ad 0)), (1, .int x1), (2, .int x2), (3, .int x3), (4, .int x4), (5, .int x5), (6, .int x6)] [] M 0 0 := by
  intro n9
  induction n9 with
  | zero => intro x1 x2 x3 x4 x5 x6 M h; cases h
  | succ n9 ih => intro x1 x2 x3 x4 x5 x6 M h; exact t_X10_costOf_9_b hC hr  ih x1 x2 x3 x4 x5 x6 M h
def f_X10_costOf (N : Nat) (a1 : Int32) (a2 : Int32) (a3 : Int32) (M : gq_M) : Option (Int32 × gq_M) :=
  f_X10_costOf_9 N  N a1 a2 a3 0 0 0 M
set_option maxHeartbeats 1000000 in
set_option maxRecDepth 20000 in
theorem t_X10_costOf {l : Launch} {D : va_G} {cI cZ : ClassId} {ad : Nat → Nat} (N : Nat) (a1 : Int32) (a2 : Int32) (a3 : Int32) (M : gq_M) (v9 : Int32) (M9 : gq_M) (h : f_X10_costOf N a1 a2 a3 M = some (v9, M9)) : gq_Ci l D cI cZ ad mtR yX10_costOf cX10_costOf 8 (some .int) 0 [.ref (ad 0), .int a1, .int a2, .int a3] M v9 M9 := by
  refine gq_introI (own := RX10) (by decide) rfl (Nat.le_of_ble_eq_true rfl) ?_
  intro p e s m below meth c hC hr
  refine g_cast (L2 := [(0, .ref (ad 0)), (1, .int a1), (2, .int a2), (3, .int a3)]) ?_ rfl rfl rfl rfl
  unfold f_X10_costOf at h
  refine g_iconst (v := 0) hC (by decide) dX10_costOf_0 ?_
  refine g_istore (L2 := [(4, .int 0), (0, .ref (ad 0)), (1, .int a1), (2, .int a2), (3, .int a3)]) hC (by decide) rfl dX10_costOf_1 ?_
  refine g_iconst (v := 0) hC (by decide) dX10_costOf_3 ?_
  refine g_istore (L2 := [(5, .int 0), (4, .int 0), (0, .ref (ad 0)), (1, .int a1), (2, .int a2), (3, .int a3)]) hC (by decide) rfl dX10_costOf_4 ?_
  refine g_iconst (v := 0) hC (by decide) dX10_costOf_6 ?_
  refine g_istore (L2 := [(6, .int 0), (5, .int 0), (4, .int 0), (0, .ref (ad 0)), (1, .int a1), (2, .int a2), (3, .int a3)]) hC (by decide) rfl dX10_costOf_7 ?_
  exact g_weak [3, 4, 5, 6, 2, 1, 0] rfl (t_X10_costOf_9 hC hr  N a1 a2 a3 0 0 0 M h)
def f_X10_gets_2_b (N : Nat) (kh2 : Int32 → Int32 → Int32 → gq_M → Option (Int32 × gq_M)) (x1 : Int32) (x2 : Int32) (x3 : Int32) (M : gq_M) : Option (Int32 × gq_M) :=
  if x2 ≤ x3 then (gq_g (gq_in x1 3) (gq_l (M 36 x1.toNatClampNeg) fun v3 => gq_b (f_X10_leftOf N v3 M) fun v4 M5 => if v4 = 0 then (gq_b (f_X10_ends N x1 M5) fun v15 M16 => some (0, M16)) else (gq_g (gq_in x1 3) (gq_l (gq_up M5 35 x1.toNatClampNeg 1) fun M9 => gq_g (gq_in x1 3) (gq_l (gq_up M9 39 x1.toNatClampNeg (-1)) fun M11 => gq_b (f_X10_begins N x1 M11) fun v12 M13 => some (0, M13)))))) else (gq_g (gq_in x1 3) (gq_l (M 36 x1.toNatClampNeg) fun v19 => gq_b (f_X10_firstOf N v19 M) fun v20 M21 => gq_g (gq_in v20 150) (gq_l (gq_up M21 19 v20.toNatClampNeg 3) fun M24 => gq_g (gq_in x1 3) (gq_l (M24 39 x1.toNatClampNeg) fun v26 => gq_g (gq_in v20 150) (gq_l (gq_up M24 21 v20.toNatClampNeg v26) fun M28 => gq_g (gq_in x1 3) (gq_l (M28 37 x1.toNatClampNeg) fun v30 => gq_g (gq_in v20 150) (gq_l (gq_up M28 22 v20.toNatClampNeg v30) fun M32 => gq_g (gq_in v20 150) (gq_l (gq_up M32 23 v20.toNatClampNeg (M32 0 0)) fun M34 => gq_g (gq_in v20 150) (gq_l (gq_up M34 24 v20.toNatClampNeg (M34 0 1)) fun M36 => gq_g (gq_in x1 3) (gq_l (M36 39 x1.toNatClampNeg) fun v38 => gq_g (gq_in v38 8) (gq_l (M36 11 v38.toNatClampNeg) fun v40 => gq_g (gq_in v20 150) (gq_l (M36 17 v20.toNatClampNeg) fun v42 => gq_g (gq_in x1 3) (gq_l (M36 37 x1.toNatClampNeg) fun v44 => gq_g (gq_in v38 8) (gq_l (gq_up M36 11 v38.toNatClampNeg (v40 + (v42 * v44))) fun M46 => gq_g (gq_in v20 150) (gq_l (M46 13 v20.toNatClampNeg) fun v48 => gq_g (gq_in v48 8) (gq_l (M46 5 v48.toNatClampNeg) fun v50 => gq_g (gq_in v20 150) (gq_l (M46 17 v20.toNatClampNeg) fun v52 => gq_g (gq_in x1 3) (gq_l (M46 37 x1.toNatClampNeg) fun v54 => gq_g (gq_in v48 8) (gq_l (gq_up M46 5 v48.toNatClampNeg (v50 + (v52 * v54))) fun M56 => kh2 x1 x2 (x3 + 1) M56)))))))))))))))))))
def f_X10_gets_2 (N : Nat) : Nat → Int32 → Int32 → Int32 → gq_M → Option (Int32 × gq_M)
  | 0 => fun _ _ _ _ => none
  | n9 + 1 => f_X10_gets_2_b N  (f_X10_gets_2 N  n9)
set_option maxHeartbeats 1000000 in
set_option maxRecDepth 20000 in
theorem t_X10_gets_2_b {N : Nat} {kh2 : Int32 → Int32 → Int32 → gq_M → Option (Int32 × gq_M)} {v9 : Int32} {M9 : gq_M} (hC : gq_C p s m args meth c D A cI cZ ad mtR RX10 cX10_gets 5) (hr : meth.sig.returnType = none)  (hk2 : ∀ (x1 : Int32) (x2 : Int32) (x3 : Int32) (M : gq_M), kh2 x1 x2 x3 M = some (v9, M9) → gq_W p l e (gq_rm 3) s m args below meth c D A cI cZ ad mtR 5 (MQ below (gq_Qv D cI cZ ad mtR M9 A) args s 0 0 A) 2 [(0, .ref (ad 0)), (1, .int x1), (2, .int x2), (3, .int x3)] [] M 0 0) : ∀ (x1 : Int32) (x2 : Int32) (x3 : Int32) (M : gq_M), f_X10_gets_2_b N  kh2 x1 x2 x3 M = some (v9, M9) → gq_W p l e (gq_rm 3) s m args below meth c D A cI cZ ad mtR 5 (MQ below (gq_Qv D cI cZ ad mtR M9 A) args s 0 0 A) 2 [(0, .ref (ad 0)), (1, .int x1), (2, .int x2), (3, .int x3)] [] M 0 0 := by
  intro x1 x2 x3 M h
  unfold f_X10_gets_2_b at h
  refine g_iload_n hC 3 rfl rfl dX10_gets_2 ?_
  refine g_iload_n hC 2 rfl rfl dX10_gets_3 ?_
  refine g_icmp_ge (tgt := 138) hC (by decide) dX10_gets_4 (fun c1 => ?_) (fun c1 => ?_)
  · replace h := gq_t c1 h
    refine g_aload_n hC 0 rfl rfl dX10_gets_138 ?_
    refine g_aload_n hC 0 rfl rfl dX10_gets_139 ?_
    refine g_getR hC fF_X10_120 lkR_0_41 dX10_gets_140 ?_
    refine g_iload_n hC 1 rfl rfl dX10_gets_143 ?_
    obtain ⟨g2, h⟩ := gq_g_i h
    refine g_iald hC arR_36 (gq_in_i g2) dX10_gets_144 ?_
    refine g_topi (fun v3 hv3 => ?_)
    replace h := gq_l_i hv3 h
    obtain ⟨v4, M5, c6, h⟩ := gq_b_i h
    refine g_Vi (as := [.int v3]) hC (t_X10_leftOf N _ _ _ _ c6) mV_X10_leftOf  wm_X10_230 obR_0 rfl rfl (Nat.le_of_ble_eq_true rfl) ⟨by decide, by decide⟩ ⟨by decide, by decide⟩ dX10_gets_145 ?_
    refine g_if_ne (tgt := 159) hC (by decide) dX10_gets_148 (fun c7 => ?_) (fun c7 => ?_)
    · replace h := gq_f c7 h
      refine g_aload_n hC 0 rfl rfl dX10_gets_159 ?_
      refine g_getR hC fF_X10_117 lkR_0_40 dX10_gets_160 ?_
      refine g_iload_n hC 1 rfl rfl dX10_gets_163 ?_
      refine g_iconst (v := 1) hC (by decide) dX10_gets_164 ?_
      obtain ⟨g8, h⟩ := gq_g_i h
      refine g_iast hC arR_35 (gq_in_i g8) dX10_gets_165 ?_
      refine g_topM (fun M9 hM9 => ?_)
      replace h := gq_l_i hM9 h
      refine g_aload_n hC 0 rfl rfl dX10_gets_166 ?_
      refine g_getR hC fF_X10_129 lkR_0_44 dX10_gets_167 ?_
      refine g_iload_n hC 1 rfl rfl dX10_gets_170 ?_
      refine g_iconst (v := (-1)) hC (by decide) dX10_gets_171 ?_
      obtain ⟨g10, h⟩ := gq_g_i h
      refine g_iast hC arR_39 (gq_in_i g10) dX10_gets_172 ?_
      refine g_topM (fun M11 hM11 => ?_)
      replace h := gq_l_i hM11 h
      refine g_aload_n hC 0 rfl rfl dX10_gets_173 ?_
      refine g_iload_n hC 1 rfl rfl dX10_gets_174 ?_
      obtain ⟨v12, M13, c14, h⟩ := gq_b_i h
      refine g_Vv (as := [.int x1]) hC (t_X10_begins N _ _ _ _ c14) mV_X10_begins  wm_X10_156 obR_0 rfl rfl (Nat.le_of_ble_eq_true rfl) ⟨by decide, by decide⟩ ⟨by decide, by decide⟩ dX10_gets_175 ?_
      exact g_vrets hC hr h dX10_gets_178
    · replace h := gq_t c7 h
      refine g_aload_n hC 0 rfl rfl dX10_gets_151 ?_
      refine g_iload_n hC 1 rfl rfl dX10_gets_152 ?_
      obtain ⟨v15, M16, c17, h⟩ := gq_b_i h
      refine g_Vv (as := [.int x1]) hC (t_X10_ends N _ _ _ _ c17) mV_X10_ends  wm_X10_233 obR_0 rfl rfl (Nat.le_of_ble_eq_true rfl) ⟨by decide, by decide⟩ ⟨by decide, by decide⟩ dX10_gets_153 ?_
      refine g_goto (tgt := 178) hC (by decide) dX10_gets_156 ?_
      exact g_vrets hC hr h dX10_gets_178
  · replace h := gq_f c1 h
    refine g_aload_n hC 0 rfl rfl dX10_gets_7 ?_
    refine g_aload_n hC 0 rfl rfl dX10_gets_8 ?_
    refine g_getR hC fF_X10_120 lkR_0_41 dX10_gets_9 ?_
    refine g_iload_n hC 1 rfl rfl dX10_gets_12 ?_
    obtain ⟨g18, h⟩ := gq_g_i h
    refine g_iald hC arR_36 (gq_in_i g18) dX10_gets_13 ?_
    refine g_topi (fun v19 hv19 => ?_)
    replace h := gq_l_i hv19 h
    obtain ⟨v20, M21, c22, h⟩ := gq_b_i h
    refine g_Vi (as := [.int v19]) hC (t_X10_firstOf N _ _ _ _ c22) mV_X10_firstOf  wm_X10_227 obR_0 rfl rfl (Nat.le_of_ble_eq_true rfl) ⟨by decide, by decide⟩ ⟨by decide, by decide⟩ dX10_gets_14 ?_
    refine g_istore (L2 := [(4, .int v20), (0, .ref (ad 0)), (1, .int x1), (2, .int x2), (3, .int x3)]) hC (by decide) rfl dX10_gets_17 ?_
    refine g_aload_n hC 1 rfl rfl dX10_gets_19 ?_
    refine g_getR hC fF_X10_69 lkR_0_23 dX10_gets_20 ?_
    refine g_iload hC 0 rfl dX10_gets_23 ?_
    refine g_iconst (v := 3) hC (by decide) dX10_gets_25 ?_
    obtain ⟨g23, h⟩ := gq_g_i h
    refine g_iast hC arR_19 (gq_in_i g23) dX10_gets_26 ?_
    refine g_topM (fun M24 hM24 => ?_)
    replace h := gq_l_i hM24 h
    refine g_aload_n hC 1 rfl rfl dX10_gets_27 ?_
    refine g_getR hC fF_X10_75 lkR_0_25 dX10_gets_28 ?_
    refine g_iload hC 0 rfl dX10_gets_31 ?_
    refine g_aload_n hC 1 rfl rfl dX10_gets_33 ?_
    refine g_getR hC fF_X10_129 lkR_0_44 dX10_gets_34 ?_
    refine g_iload_n hC 2 rfl rfl dX10_gets_37 ?_
    obtain ⟨g25, h⟩ := gq_g_i h
    refine g_iald hC arR_39 (gq_in_i g25) dX10_gets_38 ?_
    refine g_topi (fun v26 hv26 => ?_)
    replace h := gq_l_i hv26 h
    obtain ⟨g27, h⟩ := gq_g_i h
    refine g_iast hC arR_21 (gq_in_i g27) dX10_gets_39 ?_
    refine g_topM (fun M28 hM28 => ?_)
    replace h := gq_l_i hM28 h
    refine g_aload_n hC 1 rfl rfl dX10_gets_40 ?_
    refine g_getR hC fF_X10_78 lkR_0_26 dX10_gets_41 ?_
    refine g_iload hC 0 rfl dX10_gets_44 ?_
    refine g_aload_n hC 1 rfl rfl dX10_gets_46 ?_
    refine g_getR hC fF_X10_123 lkR_0_42 dX10_gets_47 ?_
    refine g_iload_n hC 2 rfl rfl dX10_gets_50 ?_
    obtain ⟨g29, h⟩ := gq_g_i h
    refine g_iald hC arR_37 (gq_in_i g29) dX10_gets_51 ?_
    refine g_topi (fun v30 hv30 => ?_)
    replace h := gq_l_i hv30 h
    obtain ⟨g31, h⟩ := gq_g_i h
    refine g_iast hC arR_22 (gq_in_i g31) dX10_gets_52 ?_
    refine g_topM (fun M32 hM32 => ?_)
    replace h := gq_l_i hM32 h
    refine g_aload_n hC 1 rfl rfl dX10_gets_53 ?_
    refine g_getR hC fF_X10_81 lkR_0_27 dX10_gets_54 ?_
    refine g_iload hC 0 rfl dX10_gets_57 ?_
    refine g_aload_n hC 1 rfl rfl dX10_gets_59 ?_
    refine g_getI hC fF_X10_224 lkR_0_0 dX10_gets_60 ?_
    obtain ⟨g33, h⟩ := gq_g_i h
    refine g_iast hC arR_23 (gq_in_i g33) dX10_gets_63 ?_
    refine g_topM (fun M34 hM34 => ?_)
    replace h := gq_l_i hM34 h
    refine g_aload_n hC 1 rfl rfl dX10_gets_64 ?_
    refine g_getR hC fF_X10_84 lkR_0_28 dX10_gets_65 ?_
    refine g_iload hC 0 rfl dX10_gets_68 ?_
    refine g_aload_n hC 1 rfl rfl dX10_gets_70 ?_
    refine g_getI hC fF_X10_221 lkR_0_1 dX10_gets_71 ?_
    obtain ⟨g35, h⟩ := gq_g_i h
    refine g_iast hC arR_24 (gq_in_i g35) dX10_gets_74 ?_
    refine g_topM (fun M36 hM36 => ?_)
    replace h := gq_l_i hM36 h
    refine g_aload_n hC 1 rfl rfl dX10_gets_75 ?_
    refine g_getR hC fF_X10_45 lkR_0_14 dX10_gets_76 ?_
    refine g_aload_n hC 1 rfl rfl dX10_gets_79 ?_
    refine g_getR hC fF_X10_129 lkR_0_44 dX10_gets_80 ?_
    refine g_iload_n hC 2 rfl rfl dX10_gets_83 ?_
    obtain ⟨g37, h⟩ := gq_g_i h
    refine g_iald hC arR_39 (gq_in_i g37) dX10_gets_84 ?_
    refine g_topi (fun v38 hv38 => ?_)
    replace h := gq_l_i hv38 h
    refine g_dup2 hC rfl rfl dX10_gets_85 ?_
    obtain ⟨g39, h⟩ := gq_g_i h
    refine g_iald hC arR_11 (gq_in_i g39) dX10_gets_86 ?_
    refine g_topi (fun v40 hv40 => ?_)
    replace h := gq_l_i hv40 h
    refine g_aload_n hC 1 rfl rfl dX10_gets_87 ?_
    refine g_getR hC fF_X10_63 lkR_0_21 dX10_gets_88 ?_
    refine g_iload hC 0 rfl dX10_gets_91 ?_
    obtain ⟨g41, h⟩ := gq_g_i h
    refine g_iald hC arR_17 (gq_in_i g41) dX10_gets_93 ?_
    refine g_topi (fun v42 hv42 => ?_)
    replace h := gq_l_i hv42 h
    refine g_aload_n hC 1 rfl rfl dX10_gets_94 ?_
    refine g_getR hC fF_X10_123 lkR_0_42 dX10_gets_95 ?_
    refine g_iload_n hC 2 rfl rfl dX10_gets_98 ?_
    obtain ⟨g43, h⟩ := gq_g_i h
    refine g_iald hC arR_37 (gq_in_i g43) dX10_gets_99 ?_
    refine g_topi (fun v44 hv44 => ?_)
    replace h := gq_l_i hv44 h
    refine g_imul hC dX10_gets_100 ?_
    refine g_iadd hC dX10_gets_101 ?_
    obtain ⟨g45, h⟩ := gq_g_i h
    refine g_iast hC arR_11 (gq_in_i g45) dX10_gets_102 ?_
    refine g_topM (fun M46 hM46 => ?_)
    replace h := gq_l_i hM46 h
    refine g_aload_n hC 1 rfl rfl dX10_gets_103 ?_
    refine g_getR hC fF_X10_27 lkR_0_8 dX10_gets_104 ?_
    refine g_aload_n hC 1 rfl rfl dX10_gets_107 ?_
    refine g_getR hC fF_X10_51 lkR_0_17 dX10_gets_108 ?_
    refine g_iload hC 0 rfl dX10_gets_111 ?_
    obtain ⟨g47, h⟩ := gq_g_i h
    refine g_iald hC arR_13 (gq_in_i g47) dX10_gets_113 ?_
    refine g_topi (fun v48 hv48 => ?_)
    replace h := gq_l_i hv48 h
    refine g_dup2 hC rfl rfl dX10_gets_114 ?_
    obtain ⟨g49, h⟩ := gq_g_i h
    refine g_iald hC arR_5 (gq_in_i g49) dX10_gets_115 ?_
    refine g_topi (fun v50 hv50 => ?_)
    replace h := gq_l_i hv50 h
    refine g_aload_n hC 1 rfl rfl dX10_gets_116 ?_
    refine g_getR hC fF_X10_63 lkR_0_21 dX10_gets_117 ?_
    refine g_iload hC 0 rfl dX10_gets_120 ?_
    obtain ⟨g51, h⟩ := gq_g_i h
    refine g_iald hC arR_17 (gq_in_i g51) dX10_gets_122 ?_
    refine g_topi (fun v52 hv52 => ?_)
    replace h := gq_l_i hv52 h
    refine g_aload_n hC 1 rfl rfl dX10_gets_123 ?_
    refine g_getR hC fF_X10_123 lkR_0_42 dX10_gets_124 ?_
    refine g_iload_n hC 2 rfl rfl dX10_gets_127 ?_
    obtain ⟨g53, h⟩ := gq_g_i h
    refine g_iald hC arR_37 (gq_in_i g53) dX10_gets_128 ?_
    refine g_topi (fun v54 hv54 => ?_)
    replace h := gq_l_i hv54 h
    refine g_imul hC dX10_gets_129 ?_
    refine g_iadd hC dX10_gets_130 ?_
    obtain ⟨g55, h⟩ := gq_g_i h
    refine g_iast hC arR_5 (gq_in_i g55) dX10_gets_131 ?_
    refine g_topM (fun M56 hM56 => ?_)
    replace h := gq_l_i hM56 h
    refine g_iinc (v := (x3 + 1)) (L2 := [(3, .int (x3 + 1)), (4, .int v20), (0, .ref (ad 0)), (1, .int x1), (2, .int x2)]) hC 4 rfl (by first | rfl | decide) (by decide) rfl dX10_gets_132 ?_
    refine g_goto (tgt := 2) hC (by decide) dX10_gets_135 ?_
    exact g_weak [2, 3, 4, 0] rfl (hk2 x1 x2 (x3 + 1) M56 h)
theorem t_X10_gets_2 {N : Nat} {v9 : Int32} {M9 : gq_M} (hC : gq_C p s m args meth c D A cI cZ ad mtR RX10 cX10_gets 5) (hr : meth.sig.returnType = none)  : ∀ (n9 : Nat) (x1 : Int32) (x2 : Int32) (x3 : Int32) (M : gq_M), f_X10_gets_2 N  n9 x1 x2 x3 M = some (v9, M9) → gq_W p l e (gq_rm 3) s m args below meth c D A cI cZ ad mtR 5 (MQ below (gq_Qv D cI cZ ad mtR M9 A) args s 0 0 A) 2 [(0, .ref (ad 0)), (1, .int x1), (2, .int x2), (3, .int x3)] [] M 0 0 := by
  intro n9
  induction n9 with
  | zero => intro x1 x2 x3 M h; cases h
  | succ n9 ih => intro x1 x2 x3 M h; exact t_X10_gets_2_b hC hr  ih x1 x2 x3 M h
def f_X10_gets (N : Nat) (a1 : Int32) (a2 : Int32) (M : gq_M) : Option (Int32 × gq_M) :=
  f_X10_gets_2 N  N a1 a2 0 M
set_option maxHeartbeats 1000000 in
set_option maxRecDepth 20000 in
theorem t_X10_gets {l : Launch} {D : va_G} {cI cZ : ClassId} {ad : Nat → Nat} (N : Nat) (a1 : Int32) (a2 : Int32) (M : gq_M) (v9 : Int32) (M9 : gq_M) (h : f_X10_gets N a1 a2 M = some (v9, M9)) : gq_Cv l D cI cZ ad mtR yX10_gets cX10_gets 5 3 [.ref (ad 0), .int a1, .int a2] M M9 := by
  refine gq_introV (own := RX10) (by decide) rfl (Nat.le_of_ble_eq_true rfl) ?_
  intro p e s m below meth c hC hr
  refine g_cast (L2 := [(0, .ref (ad 0)), (1, .int a1), (2, .int a2)]) ?_ rfl rfl rfl rfl
  unfold f_X10_gets at h
  refine g_iconst (v := 0) hC (by decide) dX10_gets_0 ?_
  refine g_istore_n (L2 := [(3, .int 0), (0, .ref (ad 0)), (1, .int a1), (2, .int a2)]) hC rfl (by decide) rfl dX10_gets_1 ?_
  exact g_weak [1, 2, 3, 0] rfl (t_X10_gets_2 hC hr  N a1 a2 0 M h)
def f_X10_take_137 (N : Nat) (x2 : Int32) (x3 : Int32) (s1 : Int32) (M : gq_M) : Option (Int32 × gq_M) :=
  gq_b (f_X10_fails N s1 M) fun v42 M43 => if v42 = 0 then (gq_g (gq_in x2 3) (gq_l (M43 36 x2.toNatClampNeg) fun v47 => gq_g (gq_in x2 3) (gq_l (M43 37 x2.toNatClampNeg) fun v49 => gq_b (f_X10_costOf N v47 x3 v49 M43) fun v50 M51 => gq_b (f_X10_gets N x2 x3 M51) fun v53 M54 => some (v50, M54)))) else (some (0, M43))
set_option maxHeartbeats 1000000 in
set_option maxRecDepth 20000 in
theorem t_X10_take_137 {N : Nat} {v9 : Int32} {M9 : gq_M} (hC : gq_C p s m args meth c D A cI cZ ad mtR RX10 cX10_take 8) (hr : meth.sig.returnType = (some .int))   : ∀ (x2 : Int32) (x3 : Int32) (s1 : Int32) (M : gq_M), f_X10_take_137 N  x2 x3 s1 M = some (v9, M9) → gq_W p l e (gq_rm 4) s m args below meth c D A cI cZ ad mtR 8 (MQ below (gq_Qi D cI cZ ad mtR v9 M9 A) args s 0 0 A) 137 [(0, .ref (ad 0)), (2, .int x2), (3, .int x3)] [.int s1, .ref (ad 0)] M 0 0 := by
  intro x2 x3 s1 M h
  unfold f_X10_take_137 at h
  obtain ⟨v42, M43, c44, h⟩ := gq_b_i h
  refine g_Vi (as := [.int s1]) hC (t_X10_fails N _ _ _ _ c44) mV_X10_fails  wm_X10_178 obR_0 rfl rfl (Nat.le_of_ble_eq_true rfl) ⟨by decide, by decide⟩ ⟨by decide, by decide⟩ dX10_take_137 ?_
  refine g_if_eq (tgt := 145) hC (by decide) dX10_take_140 (fun c45 => ?_) (fun c45 => ?_)
  · replace h := gq_t c45 h
    refine g_aload_n hC 0 rfl rfl dX10_take_145 ?_
    refine g_aload_n hC 0 rfl rfl dX10_take_146 ?_
    refine g_getR hC fF_X10_120 lkR_0_41 dX10_take_147 ?_
    refine g_iload_n hC 1 rfl rfl dX10_take_150 ?_
    obtain ⟨g46, h⟩ := gq_g_i h
    refine g_iald hC arR_36 (gq_in_i g46) dX10_take_151 ?_
    refine g_topi (fun v47 hv47 => ?_)
    replace h := gq_l_i hv47 h
    refine g_iload_n hC 2 rfl rfl dX10_take_152 ?_
    refine g_aload_n hC 0 rfl rfl dX10_take_153 ?_
    refine g_getR hC fF_X10_123 lkR_0_42 dX10_take_154 ?_
    refine g_iload_n hC 1 rfl rfl dX10_take_157 ?_
    obtain ⟨g48, h⟩ := gq_g_i h
    refine g_iald hC arR_37 (gq_in_i g48) dX10_take_158 ?_
    refine g_topi (fun v49 hv49 => ?_)
    replace h := gq_l_i hv49 h
    obtain ⟨v50, M51, c52, h⟩ := gq_b_i h
    refine g_Vi (as := [.int v47, .int x3, .int v49]) hC (t_X10_costOf N _ _ _ _ _ _ c52) mV_X10_costOf  wm_X10_236 obR_0 rfl rfl (Nat.le_of_ble_eq_true rfl) ⟨by decide, by decide⟩ ⟨by decide, by decide⟩ dX10_take_159 ?_
    refine g_istore (L2 := [(7, .int v50), (0, .ref (ad 0)), (2, .int x2), (3, .int x3)]) hC (by decide) rfl dX10_take_162 ?_
    refine g_aload_n hC 1 rfl rfl dX10_take_164 ?_
    refine g_iload_n hC 2 rfl rfl dX10_take_165 ?_
    refine g_iload_n hC 3 rfl rfl dX10_take_166 ?_
    obtain ⟨v53, M54, c55, h⟩ := gq_b_i h
    refine g_Vv (as := [.int x2, .int x3]) hC (t_X10_gets N _ _ _ _ _ c55) mV_X10_gets  wm_X10_244 obR_0 rfl rfl (Nat.le_of_ble_eq_true rfl) ⟨by decide, by decide⟩ ⟨by decide, by decide⟩ dX10_take_167 ?_
    refine g_iload hC 0 rfl dX10_take_170 ?_
    exact g_irets hC hr h dX10_take_172
  · replace h := gq_f c45 h
    refine g_iconst (v := 0) hC (by decide) dX10_take_143 ?_
    exact g_irets hC hr h dX10_take_144
def f_X10_take_115 (N : Nat) (x2 : Int32) (x3 : Int32) (x4 : Int32) (s0 : Int32) (M : gq_M) : Option (Int32 × gq_M) :=
  if x4 = 0 then (f_X10_take_137 N  x2 x3 1 M) else (if s0 = 0 then (f_X10_take_137 N  x2 x3 2 M) else (f_X10_take_137 N  x2 x3 0 M))
set_option maxHeartbeats 1000000 in
set_option maxRecDepth 20000 in
theorem t_X10_take_115 {N : Nat} {v9 : Int32} {M9 : gq_M} (hC : gq_C p s m args meth c D A cI cZ ad mtR RX10 cX10_take 8) (hr : meth.sig.returnType = (some .int))   : ∀ (x2 : Int32) (x3 : Int32) (x4 : Int32) (s0 : Int32) (M : gq_M), f_X10_take_115 N  x2 x3 x4 s0 M = some (v9, M9) → gq_W p l e (gq_rm 4) s m args below meth c D A cI cZ ad mtR 8 (MQ below (gq_Qi D cI cZ ad mtR v9 M9 A) args s 0 0 A) 115 [(0, .ref (ad 0)), (2, .int x2), (3, .int x3), (4, .int x4)] [.int s0] M 0 0 := by
  intro x2 x3 x4 s0 M h
  unfold f_X10_take_115 at h
  refine g_istore (L2 := [(6, .int s0), (0, .ref (ad 0)), (2, .int x2), (3, .int x3), (4, .int x4)]) hC (by decide) rfl dX10_take_115 ?_
  refine g_aload_n hC 1 rfl rfl dX10_take_117 ?_
  refine g_iload hC 4 rfl dX10_take_118 ?_
  refine g_if_ne (tgt := 127) hC (by decide) dX10_take_120 (fun c40 => ?_) (fun c40 => ?_)
  · replace h := gq_f c40 h
    refine g_iload hC 0 rfl dX10_take_127 ?_
    refine g_if_eq (tgt := 136) hC (by decide) dX10_take_129 (fun c41 => ?_) (fun c41 => ?_)
    · replace h := gq_t c41 h
      refine g_iconst (v := 2) hC (by decide) dX10_take_136 ?_
      exact g_weak [1, 2, 3] rfl (t_X10_take_137 hC hr  x2 x3 2 M h)
    · replace h := gq_f c41 h
      refine g_iconst (v := 0) hC (by decide) dX10_take_132 ?_
      refine g_goto (tgt := 137) hC (by decide) dX10_take_133 ?_
      exact g_weak [1, 2, 3] rfl (t_X10_take_137 hC hr  x2 x3 0 M h)
  · replace h := gq_t c40 h
    refine g_iconst (v := 1) hC (by decide) dX10_take_123 ?_
    refine g_goto (tgt := 137) hC (by decide) dX10_take_124 ?_
    exact g_weak [1, 2, 3] rfl (t_X10_take_137 hC hr  x2 x3 1 M h)
def f_X10_take_114 (N : Nat) (x2 : Int32) (x3 : Int32) (x4 : Int32) (M : gq_M) : Option (Int32 × gq_M) :=
  f_X10_take_115 N  x2 x3 x4 0 M
set_option maxHeartbeats 1000000 in
set_option maxRecDepth 20000 in
theorem t_X10_take_114 {N : Nat} {v9 : Int32} {M9 : gq_M} (hC : gq_C p s m args meth c D A cI cZ ad mtR RX10 cX10_take 8) (hr : meth.sig.returnType = (some .int))   : ∀ (x2 : Int32) (x3 : Int32) (x4 : Int32) (M : gq_M), f_X10_take_114 N  x2 x3 x4 M = some (v9, M9) → gq_W p l e (gq_rm 4) s m args below meth c D A cI cZ ad mtR 8 (MQ below (gq_Qi D cI cZ ad mtR v9 M9 A) args s 0 0 A) 114 [(0, .ref (ad 0)), (2, .int x2), (3, .int x3), (4, .int x4)] [] M 0 0 := by
  intro x2 x3 x4 M h
  unfold f_X10_take_114 at h
  refine g_iconst (v := 0) hC (by decide) dX10_take_114 ?_
  exact g_weak [0, 1, 2, 3] rfl (t_X10_take_115 hC hr  x2 x3 x4 0 M h)
def f_X10_take_60 (N : Nat) (x1 : Int32) (x2 : Int32) (x3 : Int32) (x4 : Int32) (s0 : Int32) (M : gq_M) : Option (Int32 × gq_M) :=
  if s0 = 0 then (f_X10_take_114 N  x2 x3 x4 M) else (gq_g (gq_in x2 3) (gq_l (M 36 x2.toNatClampNeg) fun v21 => gq_b (f_X10_leftOf N v21 M) fun v22 M23 => gq_b (f_X10_isIn N x3 1 v22 M23) fun v25 M26 => if v25 = 0 then (f_X10_take_114 N  x2 x3 x4 M26) else (gq_g (gq_in x2 3) (gq_l (M26 36 x2.toNatClampNeg) fun v30 => gq_g (gq_in x2 3) (gq_l (M26 37 x2.toNatClampNeg) fun v32 => gq_b (f_X10_costOf N v30 x3 v32 M26) fun v33 M34 => gq_b (f_X10_canPay N x1 v33 M34) fun v36 M37 => if v36 = 0 then (f_X10_take_114 N  x2 x3 x4 M37) else (f_X10_take_115 N  x2 x3 x4 1 M37))))))
set_option maxHeartbeats 1000000 in
set_option maxRecDepth 20000 in
theorem t_X10_take_60 {N : Nat} {v9 : Int32} {M9 : gq_M} (hC : gq_C p s m args meth c D A cI cZ ad mtR RX10 cX10_take 8) (hr : meth.sig.returnType = (some .int))   : ∀ (x1 : Int32) (x2 : Int32) (x3 : Int32) (x4 : Int32) (s0 : Int32) (M : gq_M), f_X10_take_60 N  x1 x2 x3 x4 s0 M = some (v9, M9) → gq_W p l e (gq_rm 4) s m args below meth c D A cI cZ ad mtR 8 (MQ below (gq_Qi D cI cZ ad mtR v9 M9 A) args s 0 0 A) 60 [(0, .ref (ad 0)), (1, .int x1), (2, .int x2), (3, .int x3), (4, .int x4)] [.int s0] M 0 0 := by
  intro x1 x2 x3 x4 s0 M h
  unfold f_X10_take_60 at h
  refine g_istore (L2 := [(5, .int s0), (0, .ref (ad 0)), (1, .int x1), (2, .int x2), (3, .int x3), (4, .int x4)]) hC (by decide) rfl dX10_take_60 ?_
  refine g_iload hC 0 rfl dX10_take_62 ?_
  refine g_if_eq (tgt := 114) hC (by decide) dX10_take_64 (fun c19 => ?_) (fun c19 => ?_)
  · replace h := gq_t c19 h
    exact g_weak [1, 3, 4, 5] rfl (t_X10_take_114 hC hr  x2 x3 x4 M h)
  · replace h := gq_f c19 h
    refine g_iload_n hC 4 rfl rfl dX10_take_67 ?_
    refine g_iconst (v := 1) hC (by decide) dX10_take_68 ?_
    refine g_aload_n hC 1 rfl rfl dX10_take_69 ?_
    refine g_aload_n hC 1 rfl rfl dX10_take_70 ?_
    refine g_getR hC fF_X10_120 lkR_0_41 dX10_take_71 ?_
    refine g_iload_n hC 3 rfl rfl dX10_take_74 ?_
    obtain ⟨g20, h⟩ := gq_g_i h
    refine g_iald hC arR_36 (gq_in_i g20) dX10_take_75 ?_
    refine g_topi (fun v21 hv21 => ?_)
    replace h := gq_l_i hv21 h
    obtain ⟨v22, M23, c24, h⟩ := gq_b_i h
    refine g_Vi (as := [.int v21]) hC (t_X10_leftOf N _ _ _ _ c24) mV_X10_leftOf  wm_X10_230 obR_0 rfl rfl (Nat.le_of_ble_eq_true rfl) ⟨by decide, by decide⟩ ⟨by decide, by decide⟩ dX10_take_76 ?_
    obtain ⟨v25, M26, c27, h⟩ := gq_b_i h
    refine g_Si (as := [.int x3, .int 1, .int v22]) hC (t_X10_isIn N _ _ _ _ _ _ c27) mS_X10_isIn wm_X10_163 rfl rfl (Nat.le_of_ble_eq_true rfl) ⟨by decide, by decide⟩ ⟨by decide, by decide⟩ dX10_take_79 ?_
    refine g_if_eq (tgt := 114) hC (by decide) dX10_take_82 (fun c28 => ?_) (fun c28 => ?_)
    · replace h := gq_t c28 h
      exact g_weak [1, 3, 4, 5] rfl (t_X10_take_114 hC hr  x2 x3 x4 M26 h)
    · replace h := gq_f c28 h
      refine g_aload_n hC 1 rfl rfl dX10_take_85 ?_
      refine g_iload_n hC 2 rfl rfl dX10_take_86 ?_
      refine g_aload_n hC 1 rfl rfl dX10_take_87 ?_
      refine g_aload_n hC 1 rfl rfl dX10_take_88 ?_
      refine g_getR hC fF_X10_120 lkR_0_41 dX10_take_89 ?_
      refine g_iload_n hC 3 rfl rfl dX10_take_92 ?_
      obtain ⟨g29, h⟩ := gq_g_i h
      refine g_iald hC arR_36 (gq_in_i g29) dX10_take_93 ?_
      refine g_topi (fun v30 hv30 => ?_)
      replace h := gq_l_i hv30 h
      refine g_iload_n hC 4 rfl rfl dX10_take_94 ?_
      refine g_aload_n hC 1 rfl rfl dX10_take_95 ?_
      refine g_getR hC fF_X10_123 lkR_0_42 dX10_take_96 ?_
      refine g_iload_n hC 3 rfl rfl dX10_take_99 ?_
      obtain ⟨g31, h⟩ := gq_g_i h
      refine g_iald hC arR_37 (gq_in_i g31) dX10_take_100 ?_
      refine g_topi (fun v32 hv32 => ?_)
      replace h := gq_l_i hv32 h
      obtain ⟨v33, M34, c35, h⟩ := gq_b_i h
      refine g_Vi (as := [.int v30, .int x3, .int v32]) hC (t_X10_costOf N _ _ _ _ _ _ c35) mV_X10_costOf  wm_X10_236 obR_0 rfl rfl (Nat.le_of_ble_eq_true rfl) ⟨by decide, by decide⟩ ⟨by decide, by decide⟩ dX10_take_101 ?_
      obtain ⟨v36, M37, c38, h⟩ := gq_b_i h
      refine g_Vi (as := [.int x1, .int v33]) hC (t_X10_canPay N _ _ _ _ _ c38) mV_X10_canPay  wm_X10_240 obR_0 rfl rfl (Nat.le_of_ble_eq_true rfl) ⟨by decide, by decide⟩ ⟨by decide, by decide⟩ dX10_take_104 ?_
      refine g_if_eq (tgt := 114) hC (by decide) dX10_take_107 (fun c39 => ?_) (fun c39 => ?_)
      · replace h := gq_t c39 h
        exact g_weak [1, 3, 4, 5] rfl (t_X10_take_114 hC hr  x2 x3 x4 M37 h)
      · replace h := gq_f c39 h
        refine g_iconst (v := 1) hC (by decide) dX10_take_110 ?_
        refine g_goto (tgt := 115) hC (by decide) dX10_take_111 ?_
        exact g_weak [1, 3, 4, 5] rfl (t_X10_take_115 hC hr  x2 x3 x4 1 M37 h)
def f_X10_take_59 (N : Nat) (x1 : Int32) (x2 : Int32) (x3 : Int32) (x4 : Int32) (M : gq_M) : Option (Int32 × gq_M) :=
  f_X10_take_60 N  x1 x2 x3 x4 0 M
set_option maxHeartbeats 1000000 in
set_option maxRecDepth 20000 in
theorem t_X10_take_59 {N : Nat} {v9 : Int32} {M9 : gq_M} (hC : gq_C p s m args meth c D A cI cZ ad mtR RX10 cX10_take 8) (hr : meth.sig.returnType = (some .int))   : ∀ (x1 : Int32) (x2 : Int32) (x3 : Int32) (x4 : Int32) (M : gq_M), f_X10_take_59 N  x1 x2 x3 x4 M = some (v9, M9) → gq_W p l e (gq_rm 4) s m args below meth c D A cI cZ ad mtR 8 (MQ below (gq_Qi D cI cZ ad mtR v9 M9 A) args s 0 0 A) 59 [(0, .ref (ad 0)), (1, .int x1), (2, .int x2), (3, .int x3), (4, .int x4)] [] M 0 0 := by
  intro x1 x2 x3 x4 M h
  unfold f_X10_take_59 at h
  refine g_iconst (v := 0) hC (by decide) dX10_take_59 ?_
  exact g_weak [0, 1, 2, 3, 4] rfl (t_X10_take_60 hC hr  x1 x2 x3 x4 0 M h)
def f_X10_take_19 (N : Nat) (x1 : Int32) (x2 : Int32) (x3 : Int32) (s0 : Int32) (M : gq_M) : Option (Int32 × gq_M) :=
  if s0 = 0 then (f_X10_take_59 N  x1 x2 x3 s0 M) else (gq_g (gq_in x2 3) (gq_l (M 35 x2.toNatClampNeg) fun v11 => if v11 = 3 then (gq_g (gq_in x2 3) (gq_l (M 34 x2.toNatClampNeg) fun v14 => if v14 = 0 then (f_X10_take_59 N  x1 x2 x3 s0 M) else (gq_g (gq_in x2 3) (gq_l (M 39 x2.toNatClampNeg) fun v17 => if v17 = x1 then (f_X10_take_60 N  x1 x2 x3 s0 1 M) else (f_X10_take_59 N  x1 x2 x3 s0 M))))) else (f_X10_take_59 N  x1 x2 x3 s0 M)))
set_option maxHeartbeats 1000000 in
set_option maxRecDepth 20000 in
theorem t_X10_take_19 {N : Nat} {v9 : Int32} {M9 : gq_M} (hC : gq_C p s m args meth c D A cI cZ ad mtR RX10 cX10_take 8) (hr : meth.sig.returnType = (some .int))   : ∀ (x1 : Int32) (x2 : Int32) (x3 : Int32) (s0 : Int32) (M : gq_M), f_X10_take_19 N  x1 x2 x3 s0 M = some (v9, M9) → gq_W p l e (gq_rm 4) s m args below meth c D A cI cZ ad mtR 8 (MQ below (gq_Qi D cI cZ ad mtR v9 M9 A) args s 0 0 A) 19 [(0, .ref (ad 0)), (1, .int x1), (2, .int x2), (3, .int x3)] [.int s0] M 0 0 := by
  intro x1 x2 x3 s0 M h
  unfold f_X10_take_19 at h
  refine g_istore (L2 := [(4, .int s0), (0, .ref (ad 0)), (1, .int x1), (2, .int x2), (3, .int x3)]) hC (by decide) rfl dX10_take_19 ?_
  refine g_iload hC 0 rfl dX10_take_21 ?_
  refine g_if_eq (tgt := 59) hC (by decide) dX10_take_23 (fun c9 => ?_) (fun c9 => ?_)
  · replace h := gq_t c9 h
    exact g_weak [1, 2, 3, 4, 0] rfl (t_X10_take_59 hC hr  x1 x2 x3 s0 M h)
  · replace h := gq_f c9 h
    refine g_aload_n hC 1 rfl rfl dX10_take_26 ?_
    refine g_getR hC fF_X10_117 lkR_0_40 dX10_take_27 ?_
    refine g_iload_n hC 3 rfl rfl dX10_take_30 ?_
    obtain ⟨g10, h⟩ := gq_g_i h
    refine g_iald hC arR_35 (gq_in_i g10) dX10_take_31 ?_
    refine g_topi (fun v11 hv11 => ?_)
    replace h := gq_l_i hv11 h
    refine g_iconst (v := 3) hC (by decide) dX10_take_32 ?_
    refine g_icmp_ne (tgt := 59) hC (by decide) dX10_take_33 (fun c12 => ?_) (fun c12 => ?_)
    · replace h := gq_f c12 h
      exact g_weak [1, 2, 3, 4, 0] rfl (t_X10_take_59 hC hr  x1 x2 x3 s0 M h)
    · replace h := gq_t c12 h
      refine g_aload_n hC 1 rfl rfl dX10_take_36 ?_
      refine g_getR hC fF_X10_114 lkR_0_39 dX10_take_37 ?_
      refine g_iload_n hC 3 rfl rfl dX10_take_40 ?_
      obtain ⟨g13, h⟩ := gq_g_i h
      refine g_zald hC arR_34 (gq_in_i g13) dX10_take_41 ?_
      refine g_topi (fun v14 hv14 => ?_)
      replace h := gq_l_i hv14 h
      refine g_if_eq (tgt := 59) hC (by decide) dX10_take_42 (fun c15 => ?_) (fun c15 => ?_)
      · replace h := gq_t c15 h
        exact g_weak [1, 2, 3, 4, 0] rfl (t_X10_take_59 hC hr  x1 x2 x3 s0 M h)
      · replace h := gq_f c15 h
        refine g_aload_n hC 1 rfl rfl dX10_take_45 ?_
        refine g_getR hC fF_X10_129 lkR_0_44 dX10_take_46 ?_
        refine g_iload_n hC 3 rfl rfl dX10_take_49 ?_
        obtain ⟨g16, h⟩ := gq_g_i h
        refine g_iald hC arR_39 (gq_in_i g16) dX10_take_50 ?_
        refine g_topi (fun v17 hv17 => ?_)
        replace h := gq_l_i hv17 h
        refine g_iload_n hC 2 rfl rfl dX10_take_51 ?_
        refine g_icmp_ne (tgt := 59) hC (by decide) dX10_take_52 (fun c18 => ?_) (fun c18 => ?_)
        · replace h := gq_f c18 h
          exact g_weak [1, 2, 3, 4, 0] rfl (t_X10_take_59 hC hr  x1 x2 x3 s0 M h)
        · replace h := gq_t c18 h
          refine g_iconst (v := 1) hC (by decide) dX10_take_55 ?_
          refine g_goto (tgt := 60) hC (by decide) dX10_take_56 ?_
          exact g_weak [1, 2, 3, 4, 0] rfl (t_X10_take_60 hC hr  x1 x2 x3 s0 1 M h)
def f_X10_take_18 (N : Nat) (x1 : Int32) (x2 : Int32) (x3 : Int32) (M : gq_M) : Option (Int32 × gq_M) :=
  f_X10_take_19 N  x1 x2 x3 0 M
set_option maxHeartbeats 1000000 in
set_option maxRecDepth 20000 in
theorem t_X10_take_18 {N : Nat} {v9 : Int32} {M9 : gq_M} (hC : gq_C p s m args meth c D A cI cZ ad mtR RX10 cX10_take 8) (hr : meth.sig.returnType = (some .int))   : ∀ (x1 : Int32) (x2 : Int32) (x3 : Int32) (M : gq_M), f_X10_take_18 N  x1 x2 x3 M = some (v9, M9) → gq_W p l e (gq_rm 4) s m args below meth c D A cI cZ ad mtR 8 (MQ below (gq_Qi D cI cZ ad mtR v9 M9 A) args s 0 0 A) 18 [(0, .ref (ad 0)), (1, .int x1), (2, .int x2), (3, .int x3)] [] M 0 0 := by
  intro x1 x2 x3 M h
  unfold f_X10_take_18 at h
  refine g_iconst (v := 0) hC (by decide) dX10_take_18 ?_
  exact g_weak [0, 1, 2, 3] rfl (t_X10_take_19 hC hr  x1 x2 x3 0 M h)
def f_X10_take (N : Nat) (a1 : Int32) (a2 : Int32) (a3 : Int32) (M : gq_M) : Option (Int32 × gq_M) :=
  gq_b (f_X10_isEight N a1 M) fun v1 M2 => if v1 = 0 then (f_X10_take_18 N  a1 a2 a3 M2) else (gq_b (f_X10_isHall N a2 M2) fun v5 M6 => if v5 = 0 then (f_X10_take_18 N  a1 a2 a3 M6) else (f_X10_take_19 N  a1 a2 a3 1 M6))
set_option maxHeartbeats 1000000 in
set_option maxRecDepth 20000 in
theorem t_X10_take {l : Launch} {D : va_G} {cI cZ : ClassId} {ad : Nat → Nat} (N : Nat) (a1 : Int32) (a2 : Int32) (a3 : Int32) (M : gq_M) (v9 : Int32) (M9 : gq_M) (h : f_X10_take N a1 a2 a3 M = some (v9, M9)) : gq_Ci l D cI cZ ad mtR yX10_take cX10_take 8 (some .int) 4 [.ref (ad 0), .int a1, .int a2, .int a3] M v9 M9 := by
  refine gq_introI (own := RX10) (by decide) rfl (Nat.le_of_ble_eq_true rfl) ?_
  intro p e s m below meth c hC hr
  refine g_cast (L2 := [(0, .ref (ad 0)), (1, .int a1), (2, .int a2), (3, .int a3)]) ?_ rfl rfl rfl rfl
  unfold f_X10_take at h
  refine g_iload_n hC 1 rfl rfl dX10_take_0 ?_
  obtain ⟨v1, M2, c3, h⟩ := gq_b_i h
  refine g_Si (as := [.int a1]) hC (t_X10_isEight N _ _ _ _ c3) mS_X10_isEight wm_X10_170 rfl rfl (Nat.le_of_ble_eq_true rfl) ⟨by decide, by decide⟩ ⟨by decide, by decide⟩ dX10_take_1 ?_
  refine g_if_eq (tgt := 18) hC (by decide) dX10_take_4 (fun c4 => ?_) (fun c4 => ?_)
  · replace h := gq_t c4 h
    exact g_weak [0, 1, 2, 3] rfl (t_X10_take_18 hC hr  a1 a2 a3 M2 h)
  · replace h := gq_f c4 h
    refine g_iload_n hC 2 rfl rfl dX10_take_7 ?_
    obtain ⟨v5, M6, c7, h⟩ := gq_b_i h
    refine g_Si (as := [.int a2]) hC (t_X10_isHall N _ _ _ _ c7) mS_X10_isHall wm_X10_181 rfl rfl (Nat.le_of_ble_eq_true rfl) ⟨by decide, by decide⟩ ⟨by decide, by decide⟩ dX10_take_8 ?_
    refine g_if_eq (tgt := 18) hC (by decide) dX10_take_11 (fun c8 => ?_) (fun c8 => ?_)
    · replace h := gq_t c8 h
      exact g_weak [0, 1, 2, 3] rfl (t_X10_take_18 hC hr  a1 a2 a3 M6 h)
    · replace h := gq_f c8 h
      refine g_iconst (v := 1) hC (by decide) dX10_take_14 ?_
      refine g_goto (tgt := 19) hC (by decide) dX10_take_15 ?_
      exact g_weak [0, 1, 2, 3] rfl (t_X10_take_19 hC hr  a1 a2 a3 1 M6 h)
def f_X10_hears_59 (N : Nat) (kh7 : Int32 → Int32 → Int32 → gq_M → Option (Int32 × gq_M)) (x1 : Int32) (x2 : Int32) (x3 : Int32) (M : gq_M) : Option (Int32 × gq_M) :=
  kh7 x1 x2 (x3 + 1) M
set_option maxHeartbeats 1000000 in
set_option maxRecDepth 20000 in
theorem t_X10_hears_59 {N : Nat} {kh7 : Int32 → Int32 → Int32 → gq_M → Option (Int32 × gq_M)} {v9 : Int32} {M9 : gq_M} (hC : gq_C p s m args meth c D A cI cZ ad mtR RX10 cX10_hears 4) (hr : meth.sig.returnType = (some .boolean)) (hk7 : ∀ (x1 : Int32) (x2 : Int32) (x3 : Int32) (M : gq_M), kh7 x1 x2 x3 M = some (v9, M9) → gq_W p l e (gq_rm 0) s m args below meth c D A cI cZ ad mtR 4 (MQ below (gq_Qi D cI cZ ad mtR v9 M9 A) args s 0 0 A) 7 [(0, .ref (ad 0)), (1, .int x1), (2, .int x2), (3, .int x3)] [] M 0 0)  : ∀ (x1 : Int32) (x2 : Int32) (x3 : Int32) (M : gq_M), f_X10_hears_59 N kh7 x1 x2 x3 M = some (v9, M9) → gq_W p l e (gq_rm 0) s m args below meth c D A cI cZ ad mtR 4 (MQ below (gq_Qi D cI cZ ad mtR v9 M9 A) args s 0 0 A) 59 [(0, .ref (ad 0)), (1, .int x1), (2, .int x2), (3, .int x3)] [] M 0 0 := by
  intro x1 x2 x3 M h
  unfold f_X10_hears_59 at h
  refine g_iinc (v := (x3 + 1)) (L2 := [(3, .int (x3 + 1)), (0, .ref (ad 0)), (1, .int x1), (2, .int x2)]) hC 3 rfl (by first | rfl | decide) (by decide) rfl dX10_hears_59 ?_
  refine g_goto (tgt := 7) hC (by decide) dX10_hears_62 ?_
  exact g_weak [1, 2, 3, 0] rfl (hk7 x1 x2 (x3 + 1) M h)
def f_X10_hears_7_b (N : Nat) (kh7 : Int32 → Int32 → Int32 → gq_M → Option (Int32 × gq_M)) (x1 : Int32) (x2 : Int32) (x3 : Int32) (M : gq_M) : Option (Int32 × gq_M) :=
  if ((8 * x1) + 8) ≤ x3 then (gq_g (gq_bb x2) (some (x2, M))) else (gq_g (gq_in x3 24) (gq_l (M 40 x3.toNatClampNeg) fun v4 => if v4 = (-1) then (f_X10_hears_59 N kh7 x1 x2 x3 M) else (gq_g (gq_in x3 24) (gq_l (M 43 x3.toNatClampNeg) fun v7 => if v7 = 0 then (gq_g (gq_in x3 24) (gq_l (M 41 x3.toNatClampNeg) fun v10 => if (M 0 0) < v10 then (f_X10_hears_59 N kh7 x1 x2 x3 M) else (gq_g (gq_in x3 24) (gq_l (gq_up M 43 x3.toNatClampNeg 1) fun M13 => f_X10_hears_59 N kh7 x1 1 x3 M13)))) else (f_X10_hears_59 N kh7 x1 x2 x3 M)))))
def f_X10_hears_7 (N : Nat) : Nat → Int32 → Int32 → Int32 → gq_M → Option (Int32 × gq_M)
  | 0 => fun _ _ _ _ => none
  | n9 + 1 => f_X10_hears_7_b N  (f_X10_hears_7 N  n9)
set_option maxHeartbeats 1000000 in
set_option maxRecDepth 20000 in
theorem t_X10_hears_7_b {N : Nat} {kh7 : Int32 → Int32 → Int32 → gq_M → Option (Int32 × gq_M)} {v9 : Int32} {M9 : gq_M} (hC : gq_C p s m args meth c D A cI cZ ad mtR RX10 cX10_hears 4) (hr : meth.sig.returnType = (some .boolean))  (hk7 : ∀ (x1 : Int32) (x2 : Int32) (x3 : Int32) (M : gq_M), kh7 x1 x2 x3 M = some (v9, M9) → gq_W p l e (gq_rm 0) s m args below meth c D A cI cZ ad mtR 4 (MQ below (gq_Qi D cI cZ ad mtR v9 M9 A) args s 0 0 A) 7 [(0, .ref (ad 0)), (1, .int x1), (2, .int x2), (3, .int x3)] [] M 0 0) : ∀ (x1 : Int32) (x2 : Int32) (x3 : Int32) (M : gq_M), f_X10_hears_7_b N  kh7 x1 x2 x3 M = some (v9, M9) → gq_W p l e (gq_rm 0) s m args below meth c D A cI cZ ad mtR 4 (MQ below (gq_Qi D cI cZ ad mtR v9 M9 A) args s 0 0 A) 7 [(0, .ref (ad 0)), (1, .int x1), (2, .int x2), (3, .int x3)] [] M 0 0 := by
  intro x1 x2 x3 M h
  unfold f_X10_hears_7_b at h
  refine g_iload_n hC 3 rfl rfl dX10_hears_7 ?_
  refine g_bipush (v := 8) hC (by decide) dX10_hears_8 ?_
  refine g_iload_n hC 1 rfl rfl dX10_hears_10 ?_
  refine g_imul hC dX10_hears_11 ?_
  refine g_bipush (v := 8) hC (by decide) dX10_hears_12 ?_
  refine g_iadd hC dX10_hears_14 ?_
  refine g_icmp_ge (tgt := 65) hC (by decide) dX10_hears_15 (fun c1 => ?_) (fun c1 => ?_)
  · replace h := gq_t c1 h
    refine g_iload_n hC 2 rfl rfl dX10_hears_65 ?_
    obtain ⟨g2, h⟩ := gq_g_i h
    exact g_zrets hC hr (gq_bb_i g2) h dX10_hears_66
  · replace h := gq_f c1 h
    refine g_aload_n hC 0 rfl rfl dX10_hears_18 ?_
    refine g_getR hC fF_X10_132 lkR_0_45 dX10_hears_19 ?_
    refine g_iload_n hC 3 rfl rfl dX10_hears_22 ?_
    obtain ⟨g3, h⟩ := gq_g_i h
    refine g_iald hC arR_40 (gq_in_i g3) dX10_hears_23 ?_
    refine g_topi (fun v4 hv4 => ?_)
    replace h := gq_l_i hv4 h
    refine g_iconst (v := (-1)) hC (by decide) dX10_hears_24 ?_
    refine g_icmp_eq (tgt := 59) hC (by decide) dX10_hears_25 (fun c5 => ?_) (fun c5 => ?_)
    · replace h := gq_t c5 h
      exact g_weak [0, 1, 2, 3] rfl (t_X10_hears_59 hC hr hk7 x1 x2 x3 M h)
    · replace h := gq_f c5 h
      refine g_aload_n hC 0 rfl rfl dX10_hears_28 ?_
      refine g_getR hC fF_X10_141 lkR_0_48 dX10_hears_29 ?_
      refine g_iload_n hC 3 rfl rfl dX10_hears_32 ?_
      obtain ⟨g6, h⟩ := gq_g_i h
      refine g_zald hC arR_43 (gq_in_i g6) dX10_hears_33 ?_
      refine g_topi (fun v7 hv7 => ?_)
      replace h := gq_l_i hv7 h
      refine g_if_ne (tgt := 59) hC (by decide) dX10_hears_34 (fun c8 => ?_) (fun c8 => ?_)
      · replace h := gq_f c8 h
        exact g_weak [0, 1, 2, 3] rfl (t_X10_hears_59 hC hr hk7 x1 x2 x3 M h)
      · replace h := gq_t c8 h
        refine g_aload_n hC 0 rfl rfl dX10_hears_37 ?_
        refine g_getR hC fF_X10_135 lkR_0_46 dX10_hears_38 ?_
        refine g_iload_n hC 3 rfl rfl dX10_hears_41 ?_
        obtain ⟨g9, h⟩ := gq_g_i h
        refine g_iald hC arR_41 (gq_in_i g9) dX10_hears_42 ?_
        refine g_topi (fun v10 hv10 => ?_)
        replace h := gq_l_i hv10 h
        refine g_aload_n hC 0 rfl rfl dX10_hears_43 ?_
        refine g_getI hC fF_X10_224 lkR_0_0 dX10_hears_44 ?_
        refine g_icmp_gt (tgt := 59) hC (by decide) dX10_hears_47 (fun c11 => ?_) (fun c11 => ?_)
        · replace h := gq_t c11 h
          exact g_weak [0, 1, 2, 3] rfl (t_X10_hears_59 hC hr hk7 x1 x2 x3 M h)
        · replace h := gq_f c11 h
          refine g_aload_n hC 0 rfl rfl dX10_hears_50 ?_
          refine g_getR hC fF_X10_141 lkR_0_48 dX10_hears_51 ?_
          refine g_iload_n hC 3 rfl rfl dX10_hears_54 ?_
          refine g_iconst (v := 1) hC (by decide) dX10_hears_55 ?_
          obtain ⟨g12, h⟩ := gq_g_i h
          refine g_zast hC arR_43 (gq_in_i g12) gq_bit1 dX10_hears_56 ?_
          refine g_topM (fun M13 hM13 => ?_)
          replace h := gq_l_i hM13 h
          refine g_iconst (v := 1) hC (by decide) dX10_hears_57 ?_
          refine g_istore_n (L2 := [(2, .int 1), (0, .ref (ad 0)), (1, .int x1), (3, .int x3)]) hC rfl (by decide) rfl dX10_hears_58 ?_
          exact g_weak [1, 2, 0, 3] rfl (t_X10_hears_59 hC hr hk7 x1 1 x3 M13 h)
theorem t_X10_hears_7 {N : Nat} {v9 : Int32} {M9 : gq_M} (hC : gq_C p s m args meth c D A cI cZ ad mtR RX10 cX10_hears 4) (hr : meth.sig.returnType = (some .boolean))  : ∀ (n9 : Nat) (x1 : Int32) (x2 : Int32) (x3 : Int32) (M : gq_M), f_X10_hears_7 N  n9 x1 x2 x3 M = some (v9, M9) → gq_W p l e (gq_rm 0) s m args below meth c D A cI cZ ad mtR 4 (MQ below (gq_Qi D cI cZ ad mtR v9 M9 A) args s 0 0 A) 7 [(0, .ref (ad 0)), (1, .int x1), (2, .int x2), (3, .int x3)] [] M 0 0 := by
  intro n9
  induction n9 with
  | zero => intro x1 x2 x3 M h; cases h
  | succ n9 ih => intro x1 x2 x3 M h; exact t_X10_hears_7_b hC hr  ih x1 x2 x3 M h
def f_X10_hears (N : Nat) (a1 : Int32) (M : gq_M) : Option (Int32 × gq_M) :=
  f_X10_hears_7 N  N a1 0 (8 * a1) M
set_option maxHeartbeats 1000000 in
set_option maxRecDepth 20000 in
theorem t_X10_hears {l : Launch} {D : va_G} {cI cZ : ClassId} {ad : Nat → Nat} (N : Nat) (a1 : Int32) (M : gq_M) (v9 : Int32) (M9 : gq_M) (h : f_X10_hears N a1 M = some (v9, M9)) : gq_Ci l D cI cZ ad mtR yX10_hears cX10_hears 4 (some .boolean) 0 [.ref (ad 0), .int a1] M v9 M9 := by
  refine gq_introI (own := RX10) (by decide) rfl (Nat.le_of_ble_eq_true rfl) ?_
  intro p e s m below meth c hC hr
  refine g_cast (L2 := [(0, .ref (ad 0)), (1, .int a1)]) ?_ rfl rfl rfl rfl
  unfold f_X10_hears at h
  refine g_iconst (v := 0) hC (by decide) dX10_hears_0 ?_
  refine g_istore_n (L2 := [(2, .int 0), (0, .ref (ad 0)), (1, .int a1)]) hC rfl (by decide) rfl dX10_hears_1 ?_
  refine g_bipush (v := 8) hC (by decide) dX10_hears_2 ?_
  refine g_iload_n hC 2 rfl rfl dX10_hears_4 ?_
  refine g_imul hC dX10_hears_5 ?_
  refine g_istore_n (L2 := [(3, .int (8 * a1)), (2, .int 0), (0, .ref (ad 0)), (1, .int a1)]) hC rfl (by decide) rfl dX10_hears_6 ?_
  exact g_weak [2, 3, 1, 0] rfl (t_X10_hears_7 hC hr  N a1 0 (8 * a1) M h)
def f_X10_slowest_30 (N : Nat) (kh4 : Int32 → Int32 → gq_M → Option (Int32 × gq_M)) (x2 : Int32) (s0 : Int32) (M : gq_M) : Option (Int32 × gq_M) :=
  kh4 s0 (x2 + 1) M
set_option maxHeartbeats 1000000 in
set_option maxRecDepth 20000 in
theorem t_X10_slowest_30 {N : Nat} {kh4 : Int32 → Int32 → gq_M → Option (Int32 × gq_M)} {v9 : Int32} {M9 : gq_M} (hC : gq_C p s m args meth c D A cI cZ ad mtR RX10 cX10_slowest 3) (hr : meth.sig.returnType = (some .int)) (hk4 : ∀ (x1 : Int32) (x2 : Int32) (M : gq_M), kh4 x1 x2 M = some (v9, M9) → gq_W p l e (gq_rm 0) s m args below meth c D A cI cZ ad mtR 3 (MQ below (gq_Qi D cI cZ ad mtR v9 M9 A) args s 0 0 A) 4 [(0, .ref (ad 0)), (1, .int x1), (2, .int x2)] [] M 0 0)  : ∀ (x2 : Int32) (s0 : Int32) (M : gq_M), f_X10_slowest_30 N kh4 x2 s0 M = some (v9, M9) → gq_W p l e (gq_rm 0) s m args below meth c D A cI cZ ad mtR 3 (MQ below (gq_Qi D cI cZ ad mtR v9 M9 A) args s 0 0 A) 30 [(0, .ref (ad 0)), (2, .int x2)] [.int s0] M 0 0 := by
  intro x2 s0 M h
  unfold f_X10_slowest_30 at h
  refine g_istore_n (L2 := [(1, .int s0), (0, .ref (ad 0)), (2, .int x2)]) hC rfl (by decide) rfl dX10_slowest_30 ?_
  refine g_iinc (v := (x2 + 1)) (L2 := [(2, .int (x2 + 1)), (1, .int s0), (0, .ref (ad 0))]) hC 2 rfl (by first | rfl | decide) (by decide) rfl dX10_slowest_31 ?_
  refine g_goto (tgt := 4) hC (by decide) dX10_slowest_34 ?_
  exact g_weak [2, 1, 0] rfl (hk4 s0 (x2 + 1) M h)
def f_X10_slowest_4_b (N : Nat) (kh4 : Int32 → Int32 → gq_M → Option (Int32 × gq_M)) (x1 : Int32) (x2 : Int32) (M : gq_M) : Option (Int32 × gq_M) :=
  if 8 ≤ x2 then (some (x1, M)) else (gq_g (gq_in x2 8) (gq_l (M 10 x2.toNatClampNeg) fun v3 => if v3 ≤ x1 then (f_X10_slowest_30 N kh4 x2 x1 M) else (gq_g (gq_in x2 8) (gq_l (M 10 x2.toNatClampNeg) fun v6 => f_X10_slowest_30 N kh4 x2 v6 M))))
def f_X10_slowest_4 (N : Nat) : Nat → Int32 → Int32 → gq_M → Option (Int32 × gq_M)
  | 0 => fun _ _ _ => none
  | n9 + 1 => f_X10_slowest_4_b N  (f_X10_slowest_4 N  n9)
set_option maxHeartbeats 1000000 in
set_option maxRecDepth 20000 in
theorem t_X10_slowest_4_b {N : Nat} {kh4 : Int32 → Int32 → gq_M → Option (Int32 × gq_M)} {v9 : Int32} {M9 : gq_M} (hC : gq_C p s m args meth c D A cI cZ ad mtR RX10 cX10_slowest 3) (hr : meth.sig.returnType = (some .int))  (hk4 : ∀ (x1 : Int32) (x2 : Int32) (M : gq_M), kh4 x1 x2 M = some (v9, M9) → gq_W p l e (gq_rm 0) s m args below meth c D A cI cZ ad mtR 3 (MQ below (gq_Qi D cI cZ ad mtR v9 M9 A) args s 0 0 A) 4 [(0, .ref (ad 0)), (1, .int x1), (2, .int x2)] [] M 0 0) : ∀ (x1 : Int32) (x2 : Int32) (M : gq_M), f_X10_slowest_4_b N  kh4 x1 x2 M = some (v9, M9) → gq_W p l e (gq_rm 0) s m args below meth c D A cI cZ ad mtR 3 (MQ below (gq_Qi D cI cZ ad mtR v9 M9 A) args s 0 0 A) 4 [(0, .ref (ad 0)), (1, .int x1), (2, .int x2)] [] M 0 0 := by
  intro x1 x2 M h
  unfold f_X10_slowest_4_b at h
  refine g_iload_n hC 2 rfl rfl dX10_slowest_4 ?_
  refine g_bipush (v := 8) hC (by decide) dX10_slowest_5 ?_
  refine g_icmp_ge (tgt := 37) hC (by decide) dX10_slowest_7 (fun c1 => ?_) (fun c1 => ?_)
  · replace h := gq_t c1 h
    refine g_iload_n hC 1 rfl rfl dX10_slowest_37 ?_
    exact g_irets hC hr h dX10_slowest_38
  · replace h := gq_f c1 h
    refine g_aload_n hC 0 rfl rfl dX10_slowest_10 ?_
    refine g_getR hC fF_X10_42 lkR_0_13 dX10_slowest_11 ?_
    refine g_iload_n hC 2 rfl rfl dX10_slowest_14 ?_
    obtain ⟨g2, h⟩ := gq_g_i h
    refine g_iald hC arR_10 (gq_in_i g2) dX10_slowest_15 ?_
    refine g_topi (fun v3 hv3 => ?_)
    replace h := gq_l_i hv3 h
    refine g_iload_n hC 1 rfl rfl dX10_slowest_16 ?_
    refine g_icmp_le (tgt := 29) hC (by decide) dX10_slowest_17 (fun c4 => ?_) (fun c4 => ?_)
    · replace h := gq_t c4 h
      refine g_iload_n hC 1 rfl rfl dX10_slowest_29 ?_
      exact g_weak [0, 2] rfl (t_X10_slowest_30 hC hr hk4 x2 x1 M h)
    · replace h := gq_f c4 h
      refine g_aload_n hC 0 rfl rfl dX10_slowest_20 ?_
      refine g_getR hC fF_X10_42 lkR_0_13 dX10_slowest_21 ?_
      refine g_iload_n hC 2 rfl rfl dX10_slowest_24 ?_
      obtain ⟨g5, h⟩ := gq_g_i h
      refine g_iald hC arR_10 (gq_in_i g5) dX10_slowest_25 ?_
      refine g_topi (fun v6 hv6 => ?_)
      replace h := gq_l_i hv6 h
      refine g_goto (tgt := 30) hC (by decide) dX10_slowest_26 ?_
      exact g_weak [0, 2] rfl (t_X10_slowest_30 hC hr hk4 x2 v6 M h)
theorem t_X10_slowest_4 {N : Nat} {v9 : Int32} {M9 : gq_M} (hC : gq_C p s m args meth c D A cI cZ ad mtR RX10 cX10_slowest 3) (hr : meth.sig.returnType = (some .int))  : ∀ (n9 : Nat) (x1 : Int32) (x2 : Int32) (M : gq_M), f_X10_slowest_4 N  n9 x1 x2 M = some (v9, M9) → gq_W p l e (gq_rm 0) s m args below meth c D A cI cZ ad mtR 3 (MQ below (gq_Qi D cI cZ ad mtR v9 M9 A) args s 0 0 A) 4 [(0, .ref (ad 0)), (1, .int x1), (2, .int x2)] [] M 0 0 := by
  intro n9
  induction n9 with
  | zero => intro x1 x2 M h; cases h
  | succ n9 ih => intro x1 x2 M h; exact t_X10_slowest_4_b hC hr  ih x1 x2 M h
def f_X10_slowest (N : Nat) (M : gq_M) : Option (Int32 × gq_M) :=
  f_X10_slowest_4 N  N 0 0 M
set_option maxHeartbeats 1000000 in
set_option maxRecDepth 20000 in
theorem t_X10_slowest {l : Launch} {D : va_G} {cI cZ : ClassId} {ad : Nat → Nat} (N : Nat) (M : gq_M) (v9 : Int32) (M9 : gq_M) (h : f_X10_slowest N  M = some (v9, M9)) : gq_Ci l D cI cZ ad mtR yX10_slowest cX10_slowest 3 (some .int) 0 [.ref (ad 0)] M v9 M9 := by
  refine gq_introI (own := RX10) (by decide) rfl (Nat.le_of_ble_eq_true rfl) ?_
  intro p e s m below meth c hC hr
  refine g_cast (L2 := [(0, .ref (ad 0))]) ?_ rfl rfl rfl rfl
  unfold f_X10_slowest at h
  refine g_iconst (v := 0) hC (by decide) dX10_slowest_0 ?_
  refine g_istore_n (L2 := [(1, .int 0), (0, .ref (ad 0))]) hC rfl (by decide) rfl dX10_slowest_1 ?_
  refine g_iconst (v := 0) hC (by decide) dX10_slowest_2 ?_
  refine g_istore_n (L2 := [(2, .int 0), (1, .int 0), (0, .ref (ad 0))]) hC rfl (by decide) rfl dX10_slowest_3 ?_
  exact g_weak [2, 1, 0] rfl (t_X10_slowest_4 hC hr  N 0 0 M h)
def f_X10_falls (N : Nat) (a1 : Int32) (M : gq_M) : Option (Int32 × gq_M) :=
  gq_b (f_X10_hears N a1 M) fun v1 M2 => if v1 = 0 then (gq_g (gq_in a1 3) (gq_l (M2 36 a1.toNatClampNeg) fun v6 => gq_g (gq_in a1 3) (gq_l (M2 37 a1.toNatClampNeg) fun v8 => gq_g (gq_in a1 3) (gq_l (M2 33 a1.toNatClampNeg) fun v10 => gq_g (gq_in a1 3) (gq_l (gq_up M2 37 a1.toNatClampNeg (v8 - v10)) fun M12 => gq_g (gq_in a1 3) (gq_l (M12 37 a1.toNatClampNeg) fun v14 => gq_g (gq_in v6 150) (gq_l (M12 28 v6.toNatClampNeg) fun v16 => gq_g (gq_in v16 4) (gq_l (M12 7 v16.toNatClampNeg) fun v18 => gq_g (gq_in v6 150) (gq_l (M12 29 v6.toNatClampNeg) fun v20 => if ((v18 * (10 + v20)) / 10) ≤ v14 then (some (0, M12)) else (gq_b (f_X10_withdrawsAll N v6 M12) fun v22 M23 => gq_b (f_X10_ends N a1 M23) fun v25 M26 => some (0, M26))))))))))) else (gq_g (gq_in a1 3) (gq_l (gq_up M2 35 a1.toNatClampNeg 2) fun M29 => gq_b (f_X10_slowest N  M29) fun v30 M31 => gq_g (gq_in a1 3) (gq_l (gq_up M31 38 a1.toNatClampNeg ((M29 0 0) + v30)) fun M34 => some (0, M34))))
set_option maxHeartbeats 1000000 in
set_option maxRecDepth 20000 in
theorem t_X10_falls {l : Launch} {D : va_G} {cI cZ : ClassId} {ad : Nat → Nat} (N : Nat) (a1 : Int32) (M : gq_M) (v9 : Int32) (M9 : gq_M) (h : f_X10_falls N a1 M = some (v9, M9)) : gq_Cv l D cI cZ ad mtR yX10_falls cX10_falls 3 3 [.ref (ad 0), .int a1] M M9 := by
  refine gq_introV (own := RX10) (by decide) rfl (Nat.le_of_ble_eq_true rfl) ?_
  intro p e s m below meth c hC hr
  refine g_cast (L2 := [(0, .ref (ad 0)), (1, .int a1)]) ?_ rfl rfl rfl rfl
  unfold f_X10_falls at h
  refine g_aload_n hC 0 rfl rfl dX10_falls_0 ?_
  refine g_iload_n hC 1 rfl rfl dX10_falls_1 ?_
  obtain ⟨v1, M2, c3, h⟩ := gq_b_i h
  refine g_Vi (as := [.int a1]) hC (t_X10_hears N _ _ _ _ c3) mV_X10_hears  wm_X10_248 obR_0 rfl rfl (Nat.le_of_ble_eq_true rfl) ⟨by decide, by decide⟩ ⟨by decide, by decide⟩ dX10_falls_2 ?_
  refine g_if_eq (tgt := 31) hC (by decide) dX10_falls_5 (fun c4 => ?_) (fun c4 => ?_)
  · replace h := gq_t c4 h
    refine g_aload_n hC 0 rfl rfl dX10_falls_31 ?_
    refine g_getR hC fF_X10_120 lkR_0_41 dX10_falls_32 ?_
    refine g_iload_n hC 1 rfl rfl dX10_falls_35 ?_
    obtain ⟨g5, h⟩ := gq_g_i h
    refine g_iald hC arR_36 (gq_in_i g5) dX10_falls_36 ?_
    refine g_topi (fun v6 hv6 => ?_)
    replace h := gq_l_i hv6 h
    refine g_istore_n (L2 := [(2, .int v6), (0, .ref (ad 0)), (1, .int a1)]) hC rfl (by decide) rfl dX10_falls_37 ?_
    refine g_aload_n hC 1 rfl rfl dX10_falls_38 ?_
    refine g_getR hC fF_X10_123 lkR_0_42 dX10_falls_39 ?_
    refine g_iload_n hC 2 rfl rfl dX10_falls_42 ?_
    refine g_dup2 hC rfl rfl dX10_falls_43 ?_
    obtain ⟨g7, h⟩ := gq_g_i h
    refine g_iald hC arR_37 (gq_in_i g7) dX10_falls_44 ?_
    refine g_topi (fun v8 hv8 => ?_)
    replace h := gq_l_i hv8 h
    refine g_aload_n hC 1 rfl rfl dX10_falls_45 ?_
    refine g_getR hC fF_X10_111 lkR_0_38 dX10_falls_46 ?_
    refine g_iload_n hC 2 rfl rfl dX10_falls_49 ?_
    obtain ⟨g9, h⟩ := gq_g_i h
    refine g_iald hC arR_33 (gq_in_i g9) dX10_falls_50 ?_
    refine g_topi (fun v10 hv10 => ?_)
    replace h := gq_l_i hv10 h
    refine g_isub hC dX10_falls_51 ?_
    obtain ⟨g11, h⟩ := gq_g_i h
    refine g_iast hC arR_37 (gq_in_i g11) dX10_falls_52 ?_
    refine g_topM (fun M12 hM12 => ?_)
    replace h := gq_l_i hM12 h
    refine g_aload_n hC 1 rfl rfl dX10_falls_53 ?_
    refine g_getR hC fF_X10_123 lkR_0_42 dX10_falls_54 ?_
    refine g_iload_n hC 2 rfl rfl dX10_falls_57 ?_
    obtain ⟨g13, h⟩ := gq_g_i h
    refine g_iald hC arR_37 (gq_in_i g13) dX10_falls_58 ?_
    refine g_topi (fun v14 hv14 => ?_)
    replace h := gq_l_i hv14 h
    refine g_aload_n hC 1 rfl rfl dX10_falls_59 ?_
    refine g_getR hC fF_X10_33 lkR_0_10 dX10_falls_60 ?_
    refine g_aload_n hC 1 rfl rfl dX10_falls_63 ?_
    refine g_getR hC fF_X10_96 lkR_0_33 dX10_falls_64 ?_
    refine g_iload_n hC 0 rfl rfl dX10_falls_67 ?_
    obtain ⟨g15, h⟩ := gq_g_i h
    refine g_iald hC arR_28 (gq_in_i g15) dX10_falls_68 ?_
    refine g_topi (fun v16 hv16 => ?_)
    replace h := gq_l_i hv16 h
    obtain ⟨g17, h⟩ := gq_g_i h
    refine g_iald hC arR_7 (gq_in_i g17) dX10_falls_69 ?_
    refine g_topi (fun v18 hv18 => ?_)
    replace h := gq_l_i hv18 h
    refine g_bipush (v := 10) hC (by decide) dX10_falls_70 ?_
    refine g_aload_n hC 1 rfl rfl dX10_falls_72 ?_
    refine g_getR hC fF_X10_99 lkR_0_34 dX10_falls_73 ?_
    refine g_iload_n hC 0 rfl rfl dX10_falls_76 ?_
    obtain ⟨g19, h⟩ := gq_g_i h
    refine g_iald hC arR_29 (gq_in_i g19) dX10_falls_77 ?_
    refine g_topi (fun v20 hv20 => ?_)
    replace h := gq_l_i hv20 h
    refine g_iadd hC dX10_falls_78 ?_
    refine g_imul hC dX10_falls_79 ?_
    refine g_bipush (v := 10) hC (by decide) dX10_falls_80 ?_
    refine g_idiv hC (by decide) dX10_falls_82 ?_
    refine g_icmp_ge (tgt := 97) hC (by decide) dX10_falls_83 (fun c21 => ?_) (fun c21 => ?_)
    · replace h := gq_t c21 h
      exact g_vrets hC hr h dX10_falls_97
    · replace h := gq_f c21 h
      refine g_aload_n hC 1 rfl rfl dX10_falls_86 ?_
      refine g_iload_n hC 0 rfl rfl dX10_falls_87 ?_
      obtain ⟨v22, M23, c24, h⟩ := gq_b_i h
      refine g_Vi (as := [.int v6]) hC (t_X10_withdrawsAll N _ _ _ _ c24) mV_X10_withdrawsAll  wm_X10_218 obR_0 rfl rfl (Nat.le_of_ble_eq_true rfl) ⟨by decide, by decide⟩ ⟨by decide, by decide⟩ dX10_falls_88 ?_
      refine g_pop hC rfl dX10_falls_91 ?_
      refine g_aload_n hC 1 rfl rfl dX10_falls_92 ?_
      refine g_iload_n hC 2 rfl rfl dX10_falls_93 ?_
      obtain ⟨v25, M26, c27, h⟩ := gq_b_i h
      refine g_Vv (as := [.int a1]) hC (t_X10_ends N _ _ _ _ c27) mV_X10_ends  wm_X10_233 obR_0 rfl rfl (Nat.le_of_ble_eq_true rfl) ⟨by decide, by decide⟩ ⟨by decide, by decide⟩ dX10_falls_94 ?_
      exact g_vrets hC hr h dX10_falls_97
  · replace h := gq_f c4 h
    refine g_aload_n hC 0 rfl rfl dX10_falls_8 ?_
    refine g_getR hC fF_X10_117 lkR_0_40 dX10_falls_9 ?_
    refine g_iload_n hC 1 rfl rfl dX10_falls_12 ?_
    refine g_iconst (v := 2) hC (by decide) dX10_falls_13 ?_
    obtain ⟨g28, h⟩ := gq_g_i h
    refine g_iast hC arR_35 (gq_in_i g28) dX10_falls_14 ?_
    refine g_topM (fun M29 hM29 => ?_)
    replace h := gq_l_i hM29 h
    refine g_aload_n hC 0 rfl rfl dX10_falls_15 ?_
    refine g_getR hC fF_X10_126 lkR_0_43 dX10_falls_16 ?_
    refine g_iload_n hC 1 rfl rfl dX10_falls_19 ?_
    refine g_aload_n hC 0 rfl rfl dX10_falls_20 ?_
    refine g_getI hC fF_X10_224 lkR_0_0 dX10_falls_21 ?_
    refine g_aload_n hC 0 rfl rfl dX10_falls_24 ?_
    obtain ⟨v30, M31, c32, h⟩ := gq_b_i h
    refine g_Vi (as := []) hC (t_X10_slowest N  _ _ _ c32) mV_X10_slowest  wm_X10_251 obR_0 rfl rfl (Nat.le_of_ble_eq_true rfl) ⟨by decide, by decide⟩ ⟨by decide, by decide⟩ dX10_falls_25 ?_
    refine g_iadd hC dX10_falls_28 ?_
    obtain ⟨g33, h⟩ := gq_g_i h
    refine g_iast hC arR_38 (gq_in_i g33) dX10_falls_29 ?_
    refine g_topM (fun M34 hM34 => ?_)
    replace h := gq_l_i hM34 h
    exact g_vrets hC hr h dX10_falls_30
def f_X10_isBefore_56 (N : Nat) (s0 : Int32) (M : gq_M) : Option (Int32 × gq_M) :=
  gq_g (gq_bb s0) (some (s0, M))
set_option maxHeartbeats 1000000 in
set_option maxRecDepth 20000 in
theorem t_X10_isBefore_56 {N : Nat} {v9 : Int32} {M9 : gq_M} (hC : gq_C p s m args meth c D A cI cZ ad mtR RX10 cX10_isBefore 3) (hr : meth.sig.returnType = (some .boolean))   : ∀ (s0 : Int32) (M : gq_M), f_X10_isBefore_56 N  s0 M = some (v9, M9) → gq_W p l e (gq_rm 0) s m args below meth c D A cI cZ ad mtR 3 (MQ below (gq_Qi D cI cZ ad mtR v9 M9 A) args s 0 0 A) 56 [] [.int s0] M 0 0 := by
  intro s0 M h
  unfold f_X10_isBefore_56 at h
  obtain ⟨g17, h⟩ := gq_g_i h
  exact g_zrets hC hr (gq_bb_i g17) h dX10_isBefore_56
def f_X10_isBefore_35 (N : Nat) (s0 : Int32) (M : gq_M) : Option (Int32 × gq_M) :=
  gq_g (gq_bb s0) (some (s0, M))
set_option maxHeartbeats 1000000 in
set_option maxRecDepth 20000 in
theorem t_X10_isBefore_35 {N : Nat} {v9 : Int32} {M9 : gq_M} (hC : gq_C p s m args meth c D A cI cZ ad mtR RX10 cX10_isBefore 3) (hr : meth.sig.returnType = (some .boolean))   : ∀ (s0 : Int32) (M : gq_M), f_X10_isBefore_35 N  s0 M = some (v9, M9) → gq_W p l e (gq_rm 0) s m args below meth c D A cI cZ ad mtR 3 (MQ below (gq_Qi D cI cZ ad mtR v9 M9 A) args s 0 0 A) 35 [] [.int s0] M 0 0 := by
  intro s0 M h
  unfold f_X10_isBefore_35 at h
  obtain ⟨g16, h⟩ := gq_g_i h
  exact g_zrets hC hr (gq_bb_i g16) h dX10_isBefore_35
def f_X10_isBefore (N : Nat) (a1 : Int32) (a2 : Int32) (M : gq_M) : Option (Int32 × gq_M) :=
  gq_g (gq_in a1 24) (gq_l (M 42 a1.toNatClampNeg) fun v2 => gq_g (gq_in a2 24) (gq_l (M 42 a2.toNatClampNeg) fun v4 => if v2 = v4 then (gq_g (gq_in a1 24) (gq_l (M 40 a1.toNatClampNeg) fun v7 => gq_g (gq_in a2 24) (gq_l (M 40 a2.toNatClampNeg) fun v9 => if v9 ≤ v7 then (f_X10_isBefore_56 N  0 M) else (f_X10_isBefore_56 N  1 M)))) else (gq_g (gq_in a1 24) (gq_l (M 42 a1.toNatClampNeg) fun v12 => gq_g (gq_in a2 24) (gq_l (M 42 a2.toNatClampNeg) fun v14 => if v12 ≤ v14 then (f_X10_isBefore_35 N  0 M) else (f_X10_isBefore_35 N  1 M))))))
set_option maxHeartbeats 1000000 in
set_option maxRecDepth 20000 in
theorem t_X10_isBefore {l : Launch} {D : va_G} {cI cZ : ClassId} {ad : Nat → Nat} (N : Nat) (a1 : Int32) (a2 : Int32) (M : gq_M) (v9 : Int32) (M9 : gq_M) (h : f_X10_isBefore N a1 a2 M = some (v9, M9)) : gq_Ci l D cI cZ ad mtR yX10_isBefore cX10_isBefore 3 (some .boolean) 0 [.ref (ad 0), .int a1, .int a2] M v9 M9 := by
  refine gq_introI (own := RX10) (by decide) rfl (Nat.le_of_ble_eq_true rfl) ?_
  intro p e s m below meth c hC hr
  refine g_cast (L2 := [(0, .ref (ad 0)), (1, .int a1), (2, .int a2)]) ?_ rfl rfl rfl rfl
  unfold f_X10_isBefore at h
  refine g_aload_n hC 0 rfl rfl dX10_isBefore_0 ?_
  refine g_getR hC fF_X10_138 lkR_0_47 dX10_isBefore_1 ?_
  refine g_iload_n hC 1 rfl rfl dX10_isBefore_4 ?_
  obtain ⟨g1, h⟩ := gq_g_i h
  refine g_iald hC arR_42 (gq_in_i g1) dX10_isBefore_5 ?_
  refine g_topi (fun v2 hv2 => ?_)
  replace h := gq_l_i hv2 h
  refine g_aload_n hC 0 rfl rfl dX10_isBefore_6 ?_
  refine g_getR hC fF_X10_138 lkR_0_47 dX10_isBefore_7 ?_
  refine g_iload_n hC 2 rfl rfl dX10_isBefore_10 ?_
  obtain ⟨g3, h⟩ := gq_g_i h
  refine g_iald hC arR_42 (gq_in_i g3) dX10_isBefore_11 ?_
  refine g_topi (fun v4 hv4 => ?_)
  replace h := gq_l_i hv4 h
  refine g_icmp_eq (tgt := 36) hC (by decide) dX10_isBefore_12 (fun c5 => ?_) (fun c5 => ?_)
  · replace h := gq_t c5 h
    refine g_aload_n hC 0 rfl rfl dX10_isBefore_36 ?_
    refine g_getR hC fF_X10_132 lkR_0_45 dX10_isBefore_37 ?_
    refine g_iload_n hC 1 rfl rfl dX10_isBefore_40 ?_
    obtain ⟨g6, h⟩ := gq_g_i h
    refine g_iald hC arR_40 (gq_in_i g6) dX10_isBefore_41 ?_
    refine g_topi (fun v7 hv7 => ?_)
    replace h := gq_l_i hv7 h
    refine g_aload_n hC 0 rfl rfl dX10_isBefore_42 ?_
    refine g_getR hC fF_X10_132 lkR_0_45 dX10_isBefore_43 ?_
    refine g_iload_n hC 2 rfl rfl dX10_isBefore_46 ?_
    obtain ⟨g8, h⟩ := gq_g_i h
    refine g_iald hC arR_40 (gq_in_i g8) dX10_isBefore_47 ?_
    refine g_topi (fun v9 hv9 => ?_)
    replace h := gq_l_i hv9 h
    refine g_icmp_ge (tgt := 55) hC (by decide) dX10_isBefore_48 (fun c10 => ?_) (fun c10 => ?_)
    · replace h := gq_t c10 h
      refine g_iconst (v := 0) hC (by decide) dX10_isBefore_55 ?_
      exact g_weak [] rfl (t_X10_isBefore_56 hC hr  0 M h)
    · replace h := gq_f c10 h
      refine g_iconst (v := 1) hC (by decide) dX10_isBefore_51 ?_
      refine g_goto (tgt := 56) hC (by decide) dX10_isBefore_52 ?_
      exact g_weak [] rfl (t_X10_isBefore_56 hC hr  1 M h)
  · replace h := gq_f c5 h
    refine g_aload_n hC 0 rfl rfl dX10_isBefore_15 ?_
    refine g_getR hC fF_X10_138 lkR_0_47 dX10_isBefore_16 ?_
    refine g_iload_n hC 1 rfl rfl dX10_isBefore_19 ?_
    obtain ⟨g11, h⟩ := gq_g_i h
    refine g_iald hC arR_42 (gq_in_i g11) dX10_isBefore_20 ?_
    refine g_topi (fun v12 hv12 => ?_)
    replace h := gq_l_i hv12 h
    refine g_aload_n hC 0 rfl rfl dX10_isBefore_21 ?_
    refine g_getR hC fF_X10_138 lkR_0_47 dX10_isBefore_22 ?_
    refine g_iload_n hC 2 rfl rfl dX10_isBefore_25 ?_
    obtain ⟨g13, h⟩ := gq_g_i h
    refine g_iald hC arR_42 (gq_in_i g13) dX10_isBefore_26 ?_
    refine g_topi (fun v14 hv14 => ?_)
    replace h := gq_l_i hv14 h
    refine g_icmp_le (tgt := 34) hC (by decide) dX10_isBefore_27 (fun c15 => ?_) (fun c15 => ?_)
    · replace h := gq_t c15 h
      refine g_iconst (v := 0) hC (by decide) dX10_isBefore_34 ?_
      exact g_weak [] rfl (t_X10_isBefore_35 hC hr  0 M h)
    · replace h := gq_f c15 h
      refine g_iconst (v := 1) hC (by decide) dX10_isBefore_30 ?_
      refine g_goto (tgt := 35) hC (by decide) dX10_isBefore_31 ?_
      exact g_weak [] rfl (t_X10_isBefore_35 hC hr  1 M h)
def f_X10_stands_187 (N : Nat) (x1 : Int32) (s1 : Int32) (s2 : Int32) (M : gq_M) : Option (Int32 × gq_M) :=
  gq_g (gq_in s1 3) (gq_l (gq_up M 37 s1.toNatClampNeg s2) fun M42 => gq_g (gq_in x1 3) (gq_l (gq_up M42 38 x1.toNatClampNeg ((M42 0 0) + 3)) fun M44 => gq_b (f_X10_begins N x1 M44) fun v45 M46 => some (0, M46)))
set_option maxHeartbeats 1000000 in
set_option maxRecDepth 20000 in
theorem t_X10_stands_187 {N : Nat} {v9 : Int32} {M9 : gq_M} (hC : gq_C p s m args meth c D A cI cZ ad mtR RX10 cX10_stands 6) (hr : meth.sig.returnType = none)   : ∀ (x1 : Int32) (s1 : Int32) (s2 : Int32) (M : gq_M), f_X10_stands_187 N  x1 s1 s2 M = some (v9, M9) → gq_W p l e (gq_rm 1) s m args below meth c D A cI cZ ad mtR 6 (MQ below (gq_Qv D cI cZ ad mtR M9 A) args s 0 0 A) 187 [(0, .ref (ad 0)), (1, .int x1)] [.int s2, .int s1, .ref (ad 37)] M 0 0 := by
  intro x1 s1 s2 M h
  unfold f_X10_stands_187 at h
  obtain ⟨g41, h⟩ := gq_g_i h
  refine g_iast hC arR_37 (gq_in_i g41) dX10_stands_187 ?_
  refine g_topM (fun M42 hM42 => ?_)
  replace h := gq_l_i hM42 h
  refine g_aload_n hC 0 rfl rfl dX10_stands_188 ?_
  refine g_getR hC fF_X10_126 lkR_0_43 dX10_stands_189 ?_
  refine g_iload_n hC 1 rfl rfl dX10_stands_192 ?_
  refine g_aload_n hC 0 rfl rfl dX10_stands_193 ?_
  refine g_getI hC fF_X10_224 lkR_0_0 dX10_stands_194 ?_
  refine g_iconst (v := 3) hC (by decide) dX10_stands_197 ?_
  refine g_iadd hC dX10_stands_198 ?_
  obtain ⟨g43, h⟩ := gq_g_i h
  refine g_iast hC arR_38 (gq_in_i g43) dX10_stands_199 ?_
  refine g_topM (fun M44 hM44 => ?_)
  replace h := gq_l_i hM44 h
  refine g_aload_n hC 0 rfl rfl dX10_stands_200 ?_
  refine g_iload_n hC 1 rfl rfl dX10_stands_201 ?_
  obtain ⟨v45, M46, c47, h⟩ := gq_b_i h
  refine g_Vv (as := [.int x1]) hC (t_X10_begins N _ _ _ _ c47) mV_X10_begins  wm_X10_156 obR_0 rfl rfl (Nat.le_of_ble_eq_true rfl) ⟨by decide, by decide⟩ ⟨by decide, by decide⟩ dX10_stands_202 ?_
  exact g_vrets hC hr h dX10_stands_205
def f_X10_stands_161 (N : Nat) (x1 : Int32) (x3 : Int32) (s1 : Int32) (s2 : Int32) (M : gq_M) : Option (Int32 × gq_M) :=
  gq_g (gq_in s1 3) (gq_l (gq_up M 39 s1.toNatClampNeg s2) fun M35 => if x3 = (-1) then (gq_g (gq_in x1 3) (gq_l (M35 37 x1.toNatClampNeg) fun v40 => f_X10_stands_187 N  x1 x1 v40 M35)) else (gq_g (gq_in x3 24) (gq_l (M35 42 x3.toNatClampNeg) fun v38 => f_X10_stands_187 N  x1 x1 v38 M35)))
set_option maxHeartbeats 1000000 in
set_option maxRecDepth 20000 in
theorem t_X10_stands_161 {N : Nat} {v9 : Int32} {M9 : gq_M} (hC : gq_C p s m args meth c D A cI cZ ad mtR RX10 cX10_stands 6) (hr : meth.sig.returnType = none)   : ∀ (x1 : Int32) (x3 : Int32) (s1 : Int32) (s2 : Int32) (M : gq_M), f_X10_stands_161 N  x1 x3 s1 s2 M = some (v9, M9) → gq_W p l e (gq_rm 1) s m args below meth c D A cI cZ ad mtR 6 (MQ below (gq_Qv D cI cZ ad mtR M9 A) args s 0 0 A) 161 [(0, .ref (ad 0)), (1, .int x1), (3, .int x3)] [.int s2, .int s1, .ref (ad 39)] M 0 0 := by
  intro x1 x3 s1 s2 M h
  unfold f_X10_stands_161 at h
  obtain ⟨g34, h⟩ := gq_g_i h
  refine g_iast hC arR_39 (gq_in_i g34) dX10_stands_161 ?_
  refine g_topM (fun M35 hM35 => ?_)
  replace h := gq_l_i hM35 h
  refine g_aload_n hC 0 rfl rfl dX10_stands_162 ?_
  refine g_getR hC fF_X10_123 lkR_0_42 dX10_stands_163 ?_
  refine g_iload_n hC 1 rfl rfl dX10_stands_166 ?_
  refine g_iload_n hC 2 rfl rfl dX10_stands_167 ?_
  refine g_iconst (v := (-1)) hC (by decide) dX10_stands_168 ?_
  refine g_icmp_ne (tgt := 181) hC (by decide) dX10_stands_169 (fun c36 => ?_) (fun c36 => ?_)
  · replace h := gq_f c36 h
    refine g_aload_n hC 0 rfl rfl dX10_stands_181 ?_
    refine g_getR hC fF_X10_138 lkR_0_47 dX10_stands_182 ?_
    refine g_iload_n hC 2 rfl rfl dX10_stands_185 ?_
    obtain ⟨g37, h⟩ := gq_g_i h
    refine g_iald hC arR_42 (gq_in_i g37) dX10_stands_186 ?_
    refine g_topi (fun v38 hv38 => ?_)
    replace h := gq_l_i hv38 h
    exact g_weak [0, 1] rfl (t_X10_stands_187 hC hr  x1 x1 v38 M35 h)
  · replace h := gq_t c36 h
    refine g_aload_n hC 0 rfl rfl dX10_stands_172 ?_
    refine g_getR hC fF_X10_123 lkR_0_42 dX10_stands_173 ?_
    refine g_iload_n hC 1 rfl rfl dX10_stands_176 ?_
    obtain ⟨g39, h⟩ := gq_g_i h
    refine g_iald hC arR_37 (gq_in_i g39) dX10_stands_177 ?_
    refine g_topi (fun v40 hv40 => ?_)
    replace h := gq_l_i hv40 h
    refine g_goto (tgt := 187) hC (by decide) dX10_stands_178 ?_
    exact g_weak [0, 1] rfl (t_X10_stands_187 hC hr  x1 x1 v40 M35 h)
def f_X10_stands_142 (N : Nat) (x1 : Int32) (x3 : Int32) (s1 : Int32) (s2 : Int32) (M : gq_M) : Option (Int32 × gq_M) :=
  gq_g (gq_in s1 3) (gq_l (gq_up M 35 s1.toNatClampNeg s2) fun M32 => if x3 = (-1) then (f_X10_stands_161 N  x1 x3 x1 (-1) M32) else (f_X10_stands_161 N  x1 x3 x1 (x3 - x3 / 8 * 8) M32))
set_option maxHeartbeats 1000000 in
set_option maxRecDepth 20000 in
theorem t_X10_stands_142 {N : Nat} {v9 : Int32} {M9 : gq_M} (hC : gq_C p s m args meth c D A cI cZ ad mtR RX10 cX10_stands 6) (hr : meth.sig.returnType = none)   : ∀ (x1 : Int32) (x3 : Int32) (s1 : Int32) (s2 : Int32) (M : gq_M), f_X10_stands_142 N  x1 x3 s1 s2 M = some (v9, M9) → gq_W p l e (gq_rm 1) s m args below meth c D A cI cZ ad mtR 6 (MQ below (gq_Qv D cI cZ ad mtR M9 A) args s 0 0 A) 142 [(0, .ref (ad 0)), (1, .int x1), (3, .int x3)] [.int s2, .int s1, .ref (ad 35)] M 0 0 := by
  intro x1 x3 s1 s2 M h
  unfold f_X10_stands_142 at h
  obtain ⟨g31, h⟩ := gq_g_i h
  refine g_iast hC arR_35 (gq_in_i g31) dX10_stands_142 ?_
  refine g_topM (fun M32 hM32 => ?_)
  replace h := gq_l_i hM32 h
  refine g_aload_n hC 0 rfl rfl dX10_stands_143 ?_
  refine g_getR hC fF_X10_129 lkR_0_44 dX10_stands_144 ?_
  refine g_iload_n hC 1 rfl rfl dX10_stands_147 ?_
  refine g_iload_n hC 2 rfl rfl dX10_stands_148 ?_
  refine g_iconst (v := (-1)) hC (by decide) dX10_stands_149 ?_
  refine g_icmp_ne (tgt := 157) hC (by decide) dX10_stands_150 (fun c33 => ?_) (fun c33 => ?_)
  · replace h := gq_f c33 h
    refine g_iload_n hC 2 rfl rfl dX10_stands_157 ?_
    refine g_bipush (v := 8) hC (by decide) dX10_stands_158 ?_
    refine g_irem hC (by decide) dX10_stands_160 ?_
    exact g_weak [0, 1, 2] rfl (t_X10_stands_161 hC hr  x1 x3 x1 (x3 - x3 / 8 * 8) M32 h)
  · replace h := gq_t c33 h
    refine g_iconst (v := (-1)) hC (by decide) dX10_stands_153 ?_
    refine g_goto (tgt := 161) hC (by decide) dX10_stands_154 ?_
    exact g_weak [0, 1, 2] rfl (t_X10_stands_161 hC hr  x1 x3 x1 (-1) M32 h)
def f_X10_stands_120 (N : Nat) (kh44 : Int32 → Int32 → Int32 → Int32 → gq_M → Option (Int32 × gq_M)) (x1 : Int32) (x2 : Int32) (x4 : Int32) (s0 : Int32) (M : gq_M) : Option (Int32 × gq_M) :=
  kh44 x1 x2 s0 (x4 + 1) M
set_option maxHeartbeats 1000000 in
set_option maxRecDepth 20000 in
theorem t_X10_stands_120 {N : Nat} {kh44 : Int32 → Int32 → Int32 → Int32 → gq_M → Option (Int32 × gq_M)} {v9 : Int32} {M9 : gq_M} (hC : gq_C p s m args meth c D A cI cZ ad mtR RX10 cX10_stands 6) (hr : meth.sig.returnType = none) (hk44 : ∀ (x1 : Int32) (x2 : Int32) (x3 : Int32) (x4 : Int32) (M : gq_M), kh44 x1 x2 x3 x4 M = some (v9, M9) → gq_W p l e (gq_rm 1) s m args below meth c D A cI cZ ad mtR 6 (MQ below (gq_Qv D cI cZ ad mtR M9 A) args s 0 0 A) 44 [(0, .ref (ad 0)), (1, .int x1), (2, .int x2), (3, .int x3), (4, .int x4)] [] M 0 0)  : ∀ (x1 : Int32) (x2 : Int32) (x4 : Int32) (s0 : Int32) (M : gq_M), f_X10_stands_120 N kh44 x1 x2 x4 s0 M = some (v9, M9) → gq_W p l e (gq_rm 1) s m args below meth c D A cI cZ ad mtR 6 (MQ below (gq_Qv D cI cZ ad mtR M9 A) args s 0 0 A) 120 [(0, .ref (ad 0)), (1, .int x1), (2, .int x2), (4, .int x4)] [.int s0] M 0 0 := by
  intro x1 x2 x4 s0 M h
  unfold f_X10_stands_120 at h
  refine g_istore_n (L2 := [(3, .int s0), (0, .ref (ad 0)), (1, .int x1), (2, .int x2), (4, .int x4)]) hC rfl (by decide) rfl dX10_stands_120 ?_
  refine g_iinc (v := (x4 + 1)) (L2 := [(4, .int (x4 + 1)), (3, .int s0), (0, .ref (ad 0)), (1, .int x1), (2, .int x2)]) hC 4 rfl (by first | rfl | decide) (by decide) rfl dX10_stands_121 ?_
  refine g_goto (tgt := 44) hC (by decide) dX10_stands_124 ?_
  exact g_weak [2, 3, 4, 1, 0] rfl (hk44 x1 x2 s0 (x4 + 1) M h)
def f_X10_stands_119 (N : Nat) (kh44 : Int32 → Int32 → Int32 → Int32 → gq_M → Option (Int32 × gq_M)) (x1 : Int32) (x2 : Int32) (x3 : Int32) (x4 : Int32) (M : gq_M) : Option (Int32 × gq_M) :=
  f_X10_stands_120 N kh44 x1 x2 x4 x3 M
set_option maxHeartbeats 1000000 in
set_option maxRecDepth 20000 in
theorem t_X10_stands_119 {N : Nat} {kh44 : Int32 → Int32 → Int32 → Int32 → gq_M → Option (Int32 × gq_M)} {v9 : Int32} {M9 : gq_M} (hC : gq_C p s m args meth c D A cI cZ ad mtR RX10 cX10_stands 6) (hr : meth.sig.returnType = none) (hk44 : ∀ (x1 : Int32) (x2 : Int32) (x3 : Int32) (x4 : Int32) (M : gq_M), kh44 x1 x2 x3 x4 M = some (v9, M9) → gq_W p l e (gq_rm 1) s m args below meth c D A cI cZ ad mtR 6 (MQ below (gq_Qv D cI cZ ad mtR M9 A) args s 0 0 A) 44 [(0, .ref (ad 0)), (1, .int x1), (2, .int x2), (3, .int x3), (4, .int x4)] [] M 0 0)  : ∀ (x1 : Int32) (x2 : Int32) (x3 : Int32) (x4 : Int32) (M : gq_M), f_X10_stands_119 N kh44 x1 x2 x3 x4 M = some (v9, M9) → gq_W p l e (gq_rm 1) s m args below meth c D A cI cZ ad mtR 6 (MQ below (gq_Qv D cI cZ ad mtR M9 A) args s 0 0 A) 119 [(0, .ref (ad 0)), (1, .int x1), (2, .int x2), (3, .int x3), (4, .int x4)] [] M 0 0 := by
  intro x1 x2 x3 x4 M h
  unfold f_X10_stands_119 at h
  refine g_iload_n hC 3 rfl rfl dX10_stands_119 ?_
  exact g_weak [0, 1, 2, 4] rfl (t_X10_stands_120 hC hr hk44 x1 x2 x4 x3 M h)
def f_X10_stands_114 (N : Nat) (kh44 : Int32 → Int32 → Int32 → Int32 → gq_M → Option (Int32 × gq_M)) (x1 : Int32) (x2 : Int32) (x4 : Int32) (M : gq_M) : Option (Int32 × gq_M) :=
  f_X10_stands_120 N kh44 x1 x2 x4 x4 M
set_option maxHeartbeats 1000000 in
set_option maxRecDepth 20000 in
theorem t_X10_stands_114 {N : Nat} {kh44 : Int32 → Int32 → Int32 → Int32 → gq_M → Option (Int32 × gq_M)} {v9 : Int32} {M9 : gq_M} (hC : gq_C p s m args meth c D A cI cZ ad mtR RX10 cX10_stands 6) (hr : meth.sig.returnType = none) (hk44 : ∀ (x1 : Int32) (x2 : Int32) (x3 : Int32) (x4 : Int32) (M : gq_M), kh44 x1 x2 x3 x4 M = some (v9, M9) → gq_W p l e (gq_rm 1) s m args below meth c D A cI cZ ad mtR 6 (MQ below (gq_Qv D cI cZ ad mtR M9 A) args s 0 0 A) 44 [(0, .ref (ad 0)), (1, .int x1), (2, .int x2), (3, .int x3), (4, .int x4)] [] M 0 0)  : ∀ (x1 : Int32) (x2 : Int32) (x4 : Int32) (M : gq_M), f_X10_stands_114 N kh44 x1 x2 x4 M = some (v9, M9) → gq_W p l e (gq_rm 1) s m args below meth c D A cI cZ ad mtR 6 (MQ below (gq_Qv D cI cZ ad mtR M9 A) args s 0 0 A) 114 [(0, .ref (ad 0)), (1, .int x1), (2, .int x2), (4, .int x4)] [] M 0 0 := by
  intro x1 x2 x4 M h
  unfold f_X10_stands_114 at h
  refine g_iload hC 3 rfl dX10_stands_114 ?_
  refine g_goto (tgt := 120) hC (by decide) dX10_stands_116 ?_
  exact g_weak [0, 1, 2, 3] rfl (t_X10_stands_120 hC hr hk44 x1 x2 x4 x4 M h)
def f_X10_stands_92 (N : Nat) (kh44 : Int32 → Int32 → Int32 → Int32 → gq_M → Option (Int32 × gq_M)) (x1 : Int32) (x2 : Int32) (x3 : Int32) (x4 : Int32) (s0 : Int32) (M : gq_M) : Option (Int32 × gq_M) :=
  if s0 = 0 then (f_X10_stands_119 N kh44 x1 x2 x3 x4 M) else (if x3 = (-1) then (f_X10_stands_114 N kh44 x1 x2 x4 M) else (gq_b (f_X10_isBefore N x4 x3 M) fun v27 M28 => if v27 = 0 then (f_X10_stands_119 N kh44 x1 x2 x3 x4 M28) else (f_X10_stands_114 N kh44 x1 x2 x4 M28)))
set_option maxHeartbeats 1000000 in
set_option maxRecDepth 20000 in
theorem t_X10_stands_92 {N : Nat} {kh44 : Int32 → Int32 → Int32 → Int32 → gq_M → Option (Int32 × gq_M)} {v9 : Int32} {M9 : gq_M} (hC : gq_C p s m args meth c D A cI cZ ad mtR RX10 cX10_stands 6) (hr : meth.sig.returnType = none) (hk44 : ∀ (x1 : Int32) (x2 : Int32) (x3 : Int32) (x4 : Int32) (M : gq_M), kh44 x1 x2 x3 x4 M = some (v9, M9) → gq_W p l e (gq_rm 1) s m args below meth c D A cI cZ ad mtR 6 (MQ below (gq_Qv D cI cZ ad mtR M9 A) args s 0 0 A) 44 [(0, .ref (ad 0)), (1, .int x1), (2, .int x2), (3, .int x3), (4, .int x4)] [] M 0 0)  : ∀ (x1 : Int32) (x2 : Int32) (x3 : Int32) (x4 : Int32) (s0 : Int32) (M : gq_M), f_X10_stands_92 N kh44 x1 x2 x3 x4 s0 M = some (v9, M9) → gq_W p l e (gq_rm 1) s m args below meth c D A cI cZ ad mtR 6 (MQ below (gq_Qv D cI cZ ad mtR M9 A) args s 0 0 A) 92 [(0, .ref (ad 0)), (1, .int x1), (2, .int x2), (3, .int x3), (4, .int x4)] [.int s0] M 0 0 := by
  intro x1 x2 x3 x4 s0 M h
  unfold f_X10_stands_92 at h
  refine g_istore (L2 := [(5, .int s0), (0, .ref (ad 0)), (1, .int x1), (2, .int x2), (3, .int x3), (4, .int x4)]) hC (by decide) rfl dX10_stands_92 ?_
  refine g_iload hC 0 rfl dX10_stands_94 ?_
  refine g_if_eq (tgt := 119) hC (by decide) dX10_stands_96 (fun c25 => ?_) (fun c25 => ?_)
  · replace h := gq_t c25 h
    exact g_weak [1, 2, 3, 4, 5] rfl (t_X10_stands_119 hC hr hk44 x1 x2 x3 x4 M h)
  · replace h := gq_f c25 h
    refine g_iload_n hC 4 rfl rfl dX10_stands_99 ?_
    refine g_iconst (v := (-1)) hC (by decide) dX10_stands_100 ?_
    refine g_icmp_eq (tgt := 114) hC (by decide) dX10_stands_101 (fun c26 => ?_) (fun c26 => ?_)
    · replace h := gq_t c26 h
      exact g_weak [1, 2, 3, 5] rfl (t_X10_stands_114 hC hr hk44 x1 x2 x4 M h)
    · replace h := gq_f c26 h
      refine g_aload_n hC 1 rfl rfl dX10_stands_104 ?_
      refine g_iload hC 5 rfl dX10_stands_105 ?_
      refine g_iload_n hC 4 rfl rfl dX10_stands_107 ?_
      obtain ⟨v27, M28, c29, h⟩ := gq_b_i h
      refine g_Vi (as := [.int x4, .int x3]) hC (t_X10_isBefore N _ _ _ _ _ c29) mV_X10_isBefore  wm_X10_255 obR_0 rfl rfl (Nat.le_of_ble_eq_true rfl) ⟨by decide, by decide⟩ ⟨by decide, by decide⟩ dX10_stands_108 ?_
      refine g_if_eq (tgt := 119) hC (by decide) dX10_stands_111 (fun c30 => ?_) (fun c30 => ?_)
      · replace h := gq_t c30 h
        exact g_weak [1, 2, 3, 4, 5] rfl (t_X10_stands_119 hC hr hk44 x1 x2 x3 x4 M28 h)
      · replace h := gq_f c30 h
        exact g_weak [1, 2, 3, 5] rfl (t_X10_stands_114 hC hr hk44 x1 x2 x4 M28 h)
def f_X10_stands_91 (N : Nat) (kh44 : Int32 → Int32 → Int32 → Int32 → gq_M → Option (Int32 × gq_M)) (x1 : Int32) (x2 : Int32) (x3 : Int32) (x4 : Int32) (M : gq_M) : Option (Int32 × gq_M) :=
  f_X10_stands_92 N kh44 x1 x2 x3 x4 0 M
set_option maxHeartbeats 1000000 in
set_option maxRecDepth 20000 in
theorem t_X10_stands_91 {N : Nat} {kh44 : Int32 → Int32 → Int32 → Int32 → gq_M → Option (Int32 × gq_M)} {v9 : Int32} {M9 : gq_M} (hC : gq_C p s m args meth c D A cI cZ ad mtR RX10 cX10_stands 6) (hr : meth.sig.returnType = none) (hk44 : ∀ (x1 : Int32) (x2 : Int32) (x3 : Int32) (x4 : Int32) (M : gq_M), kh44 x1 x2 x3 x4 M = some (v9, M9) → gq_W p l e (gq_rm 1) s m args below meth c D A cI cZ ad mtR 6 (MQ below (gq_Qv D cI cZ ad mtR M9 A) args s 0 0 A) 44 [(0, .ref (ad 0)), (1, .int x1), (2, .int x2), (3, .int x3), (4, .int x4)] [] M 0 0)  : ∀ (x1 : Int32) (x2 : Int32) (x3 : Int32) (x4 : Int32) (M : gq_M), f_X10_stands_91 N kh44 x1 x2 x3 x4 M = some (v9, M9) → gq_W p l e (gq_rm 1) s m args below meth c D A cI cZ ad mtR 6 (MQ below (gq_Qv D cI cZ ad mtR M9 A) args s 0 0 A) 91 [(0, .ref (ad 0)), (1, .int x1), (2, .int x2), (3, .int x3), (4, .int x4)] [] M 0 0 := by
  intro x1 x2 x3 x4 M h
  unfold f_X10_stands_91 at h
  refine g_iconst (v := 0) hC (by decide) dX10_stands_91 ?_
  exact g_weak [0, 1, 2, 3, 4] rfl (t_X10_stands_92 hC hr hk44 x1 x2 x3 x4 0 M h)
def f_X10_stands_44_b (N : Nat) (kh44 : Int32 → Int32 → Int32 → Int32 → gq_M → Option (Int32 × gq_M)) (x1 : Int32) (x2 : Int32) (x3 : Int32) (x4 : Int32) (M : gq_M) : Option (Int32 × gq_M) :=
  if ((8 * x1) + 8) ≤ x4 then (if x3 = (-1) then (f_X10_stands_142 N  x1 x3 x1 1 M) else (f_X10_stands_142 N  x1 x3 x1 3 M)) else (gq_g (gq_in x4 24) (gq_l (M 43 x4.toNatClampNeg) fun v17 => if v17 = 0 then (f_X10_stands_91 N kh44 x1 x2 x3 x4 M) else (gq_g (gq_in x4 24) (gq_l (M 42 x4.toNatClampNeg) fun v20 => gq_b (f_X10_canPay N (x4 - x4 / 8 * 8) (x2 * v20) M) fun v21 M22 => if v21 = 0 then (f_X10_stands_91 N kh44 x1 x2 x3 x4 M22) else (f_X10_stands_92 N kh44 x1 x2 x3 x4 1 M22)))))
def f_X10_stands_44 (N : Nat) : Nat → Int32 → Int32 → Int32 → Int32 → gq_M → Option (Int32 × gq_M)
  | 0 => fun _ _ _ _ _ => none
  | n9 + 1 => f_X10_stands_44_b N  (f_X10_stands_44 N  n9)
set_option maxHeartbeats 1000000 in
set_option maxRecDepth 20000 in
theorem t_X10_stands_44_b {N : Nat} {kh44 : Int32 → Int32 → Int32 → Int32 → gq_M → Option (Int32 × gq_M)} {v9 : Int32} {M9 : gq_M} (hC : gq_C p s m args meth c D A cI cZ ad mtR RX10 cX10_stands 6) (hr : meth.sig.returnType = none)  (hk44 : ∀ (x1 : Int32) (x2 : Int32) (x3 : Int32) (x4 : Int32) (M : gq_M), kh44 x1 x2 x3 x4 M = some (v9, M9) → gq_W p l e (gq_rm 1) s m args below meth c D A cI cZ ad mtR 6 (MQ below (gq_Qv D cI cZ ad mtR M9 A) args s 0 0 A) 44 [(0, .ref (ad 0)), (1, .int x1), (2, .int x2), (3, .int x3), (4, .int x4)] [] M 0 0) : ∀ (x1 : Int32) (x2 : Int32) (x3 : Int32) (x4 : Int32) (M : gq_M), f_X10_stands_44_b N  kh44 x1 x2 x3 x4 M = some (v9, M9) → gq_W p l e (gq_rm 1) s m args below meth c D A cI cZ ad mtR 6 (MQ below (gq_Qv D cI cZ ad mtR M9 A) args s 0 0 A) 44 [(0, .ref (ad 0)), (1, .int x1), (2, .int x2), (3, .int x3), (4, .int x4)] [] M 0 0 := by
  intro x1 x2 x3 x4 M h
  unfold f_X10_stands_44_b at h
  refine g_iload hC 4 rfl dX10_stands_44 ?_
  refine g_bipush (v := 8) hC (by decide) dX10_stands_46 ?_
  refine g_iload_n hC 1 rfl rfl dX10_stands_48 ?_
  refine g_imul hC dX10_stands_49 ?_
  refine g_bipush (v := 8) hC (by decide) dX10_stands_50 ?_
  refine g_iadd hC dX10_stands_52 ?_
  refine g_icmp_ge (tgt := 127) hC (by decide) dX10_stands_53 (fun c14 => ?_) (fun c14 => ?_)
  · replace h := gq_t c14 h
    refine g_aload_n hC 0 rfl rfl dX10_stands_127 ?_
    refine g_getR hC fF_X10_117 lkR_0_40 dX10_stands_128 ?_
    refine g_iload_n hC 1 rfl rfl dX10_stands_131 ?_
    refine g_iload_n hC 3 rfl rfl dX10_stands_132 ?_
    refine g_iconst (v := (-1)) hC (by decide) dX10_stands_133 ?_
    refine g_icmp_ne (tgt := 141) hC (by decide) dX10_stands_134 (fun c15 => ?_) (fun c15 => ?_)
    · replace h := gq_f c15 h
      refine g_iconst (v := 3) hC (by decide) dX10_stands_141 ?_
      exact g_weak [0, 1, 3] rfl (t_X10_stands_142 hC hr  x1 x3 x1 3 M h)
    · replace h := gq_t c15 h
      refine g_iconst (v := 1) hC (by decide) dX10_stands_137 ?_
      refine g_goto (tgt := 142) hC (by decide) dX10_stands_138 ?_
      exact g_weak [0, 1, 3] rfl (t_X10_stands_142 hC hr  x1 x3 x1 1 M h)
  · replace h := gq_f c14 h
    refine g_aload_n hC 0 rfl rfl dX10_stands_56 ?_
    refine g_getR hC fF_X10_141 lkR_0_48 dX10_stands_57 ?_
    refine g_iload hC 4 rfl dX10_stands_60 ?_
    obtain ⟨g16, h⟩ := gq_g_i h
    refine g_zald hC arR_43 (gq_in_i g16) dX10_stands_62 ?_
    refine g_topi (fun v17 hv17 => ?_)
    replace h := gq_l_i hv17 h
    refine g_if_eq (tgt := 91) hC (by decide) dX10_stands_63 (fun c18 => ?_) (fun c18 => ?_)
    · replace h := gq_t c18 h
      exact g_weak [0, 1, 2, 3, 4] rfl (t_X10_stands_91 hC hr hk44 x1 x2 x3 x4 M h)
    · replace h := gq_f c18 h
      refine g_aload_n hC 0 rfl rfl dX10_stands_66 ?_
      refine g_iload hC 4 rfl dX10_stands_67 ?_
      refine g_bipush (v := 8) hC (by decide) dX10_stands_69 ?_
      refine g_irem hC (by decide) dX10_stands_71 ?_
      refine g_iload_n hC 2 rfl rfl dX10_stands_72 ?_
      refine g_aload_n hC 0 rfl rfl dX10_stands_73 ?_
      refine g_getR hC fF_X10_138 lkR_0_47 dX10_stands_74 ?_
      refine g_iload hC 4 rfl dX10_stands_77 ?_
      obtain ⟨g19, h⟩ := gq_g_i h
      refine g_iald hC arR_42 (gq_in_i g19) dX10_stands_79 ?_
      refine g_topi (fun v20 hv20 => ?_)
      replace h := gq_l_i hv20 h
      refine g_imul hC dX10_stands_80 ?_
      obtain ⟨v21, M22, c23, h⟩ := gq_b_i h
      refine g_Vi (as := [.int (x4 - x4 / 8 * 8), .int (x2 * v20)]) hC (t_X10_canPay N _ _ _ _ _ c23) mV_X10_canPay  wm_X10_240 obR_0 rfl rfl (Nat.le_of_ble_eq_true rfl) ⟨by decide, by decide⟩ ⟨by decide, by decide⟩ dX10_stands_81 ?_
      refine g_if_eq (tgt := 91) hC (by decide) dX10_stands_84 (fun c24 => ?_) (fun c24 => ?_)
      · replace h := gq_t c24 h
        exact g_weak [0, 1, 2, 3, 4] rfl (t_X10_stands_91 hC hr hk44 x1 x2 x3 x4 M22 h)
      · replace h := gq_f c24 h
        refine g_iconst (v := 1) hC (by decide) dX10_stands_87 ?_
        refine g_goto (tgt := 92) hC (by decide) dX10_stands_88 ?_
        exact g_weak [0, 1, 2, 3, 4] rfl (t_X10_stands_92 hC hr hk44 x1 x2 x3 x4 1 M22 h)
theorem t_X10_stands_44 {N : Nat} {v9 : Int32} {M9 : gq_M} (hC : gq_C p s m args meth c D A cI cZ ad mtR RX10 cX10_stands 6) (hr : meth.sig.returnType = none)  : ∀ (n9 : Nat) (x1 : Int32) (x2 : Int32) (x3 : Int32) (x4 : Int32) (M : gq_M), f_X10_stands_44 N  n9 x1 x2 x3 x4 M = some (v9, M9) → gq_W p l e (gq_rm 1) s m args below meth c D A cI cZ ad mtR 6 (MQ below (gq_Qv D cI cZ ad mtR M9 A) args s 0 0 A) 44 [(0, .ref (ad 0)), (1, .int x1), (2, .int x2), (3, .int x3), (4, .int x4)] [] M 0 0 := by
  intro n9
  induction n9 with
  | zero => intro x1 x2 x3 x4 M h; cases h
  | succ n9 ih => intro x1 x2 x3 x4 M h; exact t_X10_stands_44_b hC hr  ih x1 x2 x3 x4 M h
def f_X10_stands (N : Nat) (a1 : Int32) (M : gq_M) : Option (Int32 × gq_M) :=
  gq_b (f_X10_hears N a1 M) fun v1 M2 => gq_g (gq_in a1 3) (gq_l (M2 38 a1.toNatClampNeg) fun v5 => if v5 ≤ (M2 0 0) then (gq_g (gq_in a1 3) (gq_l (M2 36 a1.toNatClampNeg) fun v8 => gq_b (f_X10_firstOf N v8 M2) fun v9 M10 => gq_g (gq_in v9 150) (gq_l (M10 17 v9.toNatClampNeg) fun v13 => f_X10_stands_44 N  N a1 v13 (-1) (8 * a1) M10))) else (some (0, M2)))
set_option maxHeartbeats 1000000 in
set_option maxRecDepth 20000 in
theorem t_X10_stands {l : Launch} {D : va_G} {cI cZ : ClassId} {ad : Nat → Nat} (N : Nat) (a1 : Int32) (M : gq_M) (v9 : Int32) (M9 : gq_M) (h : f_X10_stands N a1 M = some (v9, M9)) : gq_Cv l D cI cZ ad mtR yX10_stands cX10_stands 6 1 [.ref (ad 0), .int a1] M M9 := by
  refine gq_introV (own := RX10) (by decide) rfl (Nat.le_of_ble_eq_true rfl) ?_
  intro p e s m below meth c hC hr
  refine g_cast (L2 := [(0, .ref (ad 0)), (1, .int a1)]) ?_ rfl rfl rfl rfl
  unfold f_X10_stands at h
  refine g_aload_n hC 0 rfl rfl dX10_stands_0 ?_
  refine g_iload_n hC 1 rfl rfl dX10_stands_1 ?_
  obtain ⟨v1, M2, c3, h⟩ := gq_b_i h
  refine g_Vi (as := [.int a1]) hC (t_X10_hears N _ _ _ _ c3) mV_X10_hears  wm_X10_248 obR_0 rfl rfl (Nat.le_of_ble_eq_true rfl) ⟨by decide, by decide⟩ ⟨by decide, by decide⟩ dX10_stands_2 ?_
  refine g_pop hC rfl dX10_stands_5 ?_
  refine g_aload_n hC 0 rfl rfl dX10_stands_6 ?_
  refine g_getI hC fF_X10_224 lkR_0_0 dX10_stands_7 ?_
  refine g_aload_n hC 0 rfl rfl dX10_stands_10 ?_
  refine g_getR hC fF_X10_126 lkR_0_43 dX10_stands_11 ?_
  refine g_iload_n hC 1 rfl rfl dX10_stands_14 ?_
  obtain ⟨g4, h⟩ := gq_g_i h
  refine g_iald hC arR_38 (gq_in_i g4) dX10_stands_15 ?_
  refine g_topi (fun v5 hv5 => ?_)
  replace h := gq_l_i hv5 h
  refine g_icmp_ge (tgt := 20) hC (by decide) dX10_stands_16 (fun c6 => ?_) (fun c6 => ?_)
  · replace h := gq_t c6 h
    refine g_aload_n hC 0 rfl rfl dX10_stands_20 ?_
    refine g_getR hC fF_X10_63 lkR_0_21 dX10_stands_21 ?_
    refine g_aload_n hC 0 rfl rfl dX10_stands_24 ?_
    refine g_aload_n hC 0 rfl rfl dX10_stands_25 ?_
    refine g_getR hC fF_X10_120 lkR_0_41 dX10_stands_26 ?_
    refine g_iload_n hC 1 rfl rfl dX10_stands_29 ?_
    obtain ⟨g7, h⟩ := gq_g_i h
    refine g_iald hC arR_36 (gq_in_i g7) dX10_stands_30 ?_
    refine g_topi (fun v8 hv8 => ?_)
    replace h := gq_l_i hv8 h
    obtain ⟨v9, M10, c11, h⟩ := gq_b_i h
    refine g_Vi (as := [.int v8]) hC (t_X10_firstOf N _ _ _ _ c11) mV_X10_firstOf  wm_X10_227 obR_0 rfl rfl (Nat.le_of_ble_eq_true rfl) ⟨by decide, by decide⟩ ⟨by decide, by decide⟩ dX10_stands_31 ?_
    obtain ⟨g12, h⟩ := gq_g_i h
    refine g_iald hC arR_17 (gq_in_i g12) dX10_stands_34 ?_
    refine g_topi (fun v13 hv13 => ?_)
    replace h := gq_l_i hv13 h
    refine g_istore_n (L2 := [(2, .int v13), (0, .ref (ad 0)), (1, .int a1)]) hC rfl (by decide) rfl dX10_stands_35 ?_
    refine g_iconst (v := (-1)) hC (by decide) dX10_stands_36 ?_
    refine g_istore_n (L2 := [(3, .int (-1)), (2, .int v13), (0, .ref (ad 0)), (1, .int a1)]) hC rfl (by decide) rfl dX10_stands_37 ?_
    refine g_bipush (v := 8) hC (by decide) dX10_stands_38 ?_
    refine g_iload_n hC 3 rfl rfl dX10_stands_40 ?_
    refine g_imul hC dX10_stands_41 ?_
    refine g_istore (L2 := [(4, .int (8 * a1)), (3, .int (-1)), (2, .int v13), (0, .ref (ad 0)), (1, .int a1)]) hC (by decide) rfl dX10_stands_42 ?_
    exact g_weak [3, 4, 2, 1, 0] rfl (t_X10_stands_44 hC hr  N a1 v13 (-1) (8 * a1) M10 h)
  · replace h := gq_f c6 h
    exact g_vrets hC hr h dX10_stands_19
def f_X10_waits_50 (N : Nat) (s1 : Int32) (s2 : Int32) (M : gq_M) : Option (Int32 × gq_M) :=
  gq_b (f_X10_gets N s1 s2 M) fun v17 M18 => some (0, M18)
set_option maxHeartbeats 1000000 in
set_option maxRecDepth 20000 in
theorem t_X10_waits_50 {N : Nat} {v9 : Int32} {M9 : gq_M} (hC : gq_C p s m args meth c D A cI cZ ad mtR RX10 cX10_waits 2) (hr : meth.sig.returnType = none)   : ∀ (s1 : Int32) (s2 : Int32) (M : gq_M), f_X10_waits_50 N  s1 s2 M = some (v9, M9) → gq_W p l e (gq_rm 4) s m args below meth c D A cI cZ ad mtR 2 (MQ below (gq_Qv D cI cZ ad mtR M9 A) args s 0 0 A) 50 [] [.int s2, .int s1, .ref (ad 0)] M 0 0 := by
  intro s1 s2 M h
  unfold f_X10_waits_50 at h
  obtain ⟨v17, M18, c19, h⟩ := gq_b_i h
  refine g_Vv (as := [.int s1, .int s2]) hC (t_X10_gets N _ _ _ _ _ c19) mV_X10_gets  wm_X10_244 obR_0 rfl rfl (Nat.le_of_ble_eq_true rfl) ⟨by decide, by decide⟩ ⟨by decide, by decide⟩ dX10_waits_50 ?_
  exact g_vrets hC hr h dX10_waits_53
def f_X10_waits (N : Nat) (a1 : Int32) (M : gq_M) : Option (Int32 × gq_M) :=
  gq_g (gq_in a1 3) (gq_l (M 38 a1.toNatClampNeg) fun v2 => if (M 0 0) < v2 then (some (0, M)) else (gq_g (gq_in a1 3) (gq_l (M 39 a1.toNatClampNeg) fun v5 => gq_g (gq_in a1 3) (gq_l (M 36 a1.toNatClampNeg) fun v7 => gq_g (gq_in a1 3) (gq_l (M 37 a1.toNatClampNeg) fun v9 => gq_b (f_X10_costOf N v7 1 v9 M) fun v10 M11 => gq_b (f_X10_canPay N v5 v10 M11) fun v13 M14 => if v13 = 0 then (f_X10_waits_50 N  a1 0 M14) else (f_X10_waits_50 N  a1 1 M14))))))
set_option maxHeartbeats 1000000 in
set_option maxRecDepth 20000 in
theorem t_X10_waits {l : Launch} {D : va_G} {cI cZ : ClassId} {ad : Nat → Nat} (N : Nat) (a1 : Int32) (M : gq_M) (v9 : Int32) (M9 : gq_M) (h : f_X10_waits N a1 M = some (v9, M9)) : gq_Cv l D cI cZ ad mtR yX10_waits cX10_waits 2 4 [.ref (ad 0), .int a1] M M9 := by
  refine gq_introV (own := RX10) (by decide) rfl (Nat.le_of_ble_eq_true rfl) ?_
  intro p e s m below meth c hC hr
  refine g_cast (L2 := [(0, .ref (ad 0)), (1, .int a1)]) ?_ rfl rfl rfl rfl
  unfold f_X10_waits at h
  refine g_aload_n hC 0 rfl rfl dX10_waits_0 ?_
  refine g_getI hC fF_X10_224 lkR_0_0 dX10_waits_1 ?_
  refine g_aload_n hC 0 rfl rfl dX10_waits_4 ?_
  refine g_getR hC fF_X10_126 lkR_0_43 dX10_waits_5 ?_
  refine g_iload_n hC 1 rfl rfl dX10_waits_8 ?_
  obtain ⟨g1, h⟩ := gq_g_i h
  refine g_iald hC arR_38 (gq_in_i g1) dX10_waits_9 ?_
  refine g_topi (fun v2 hv2 => ?_)
  replace h := gq_l_i hv2 h
  refine g_icmp_lt (tgt := 53) hC (by decide) dX10_waits_10 (fun c3 => ?_) (fun c3 => ?_)
  · replace h := gq_t c3 h
    exact g_vrets hC hr h dX10_waits_53
  · replace h := gq_f c3 h
    refine g_aload_n hC 0 rfl rfl dX10_waits_13 ?_
    refine g_iload_n hC 1 rfl rfl dX10_waits_14 ?_
    refine g_aload_n hC 0 rfl rfl dX10_waits_15 ?_
    refine g_aload_n hC 0 rfl rfl dX10_waits_16 ?_
    refine g_getR hC fF_X10_129 lkR_0_44 dX10_waits_17 ?_
    refine g_iload_n hC 1 rfl rfl dX10_waits_20 ?_
    obtain ⟨g4, h⟩ := gq_g_i h
    refine g_iald hC arR_39 (gq_in_i g4) dX10_waits_21 ?_
    refine g_topi (fun v5 hv5 => ?_)
    replace h := gq_l_i hv5 h
    refine g_aload_n hC 0 rfl rfl dX10_waits_22 ?_
    refine g_aload_n hC 0 rfl rfl dX10_waits_23 ?_
    refine g_getR hC fF_X10_120 lkR_0_41 dX10_waits_24 ?_
    refine g_iload_n hC 1 rfl rfl dX10_waits_27 ?_
    obtain ⟨g6, h⟩ := gq_g_i h
    refine g_iald hC arR_36 (gq_in_i g6) dX10_waits_28 ?_
    refine g_topi (fun v7 hv7 => ?_)
    replace h := gq_l_i hv7 h
    refine g_iconst (v := 1) hC (by decide) dX10_waits_29 ?_
    refine g_aload_n hC 0 rfl rfl dX10_waits_30 ?_
    refine g_getR hC fF_X10_123 lkR_0_42 dX10_waits_31 ?_
    refine g_iload_n hC 1 rfl rfl dX10_waits_34 ?_
    obtain ⟨g8, h⟩ := gq_g_i h
    refine g_iald hC arR_37 (gq_in_i g8) dX10_waits_35 ?_
    refine g_topi (fun v9 hv9 => ?_)
    replace h := gq_l_i hv9 h
    obtain ⟨v10, M11, c12, h⟩ := gq_b_i h
    refine g_Vi (as := [.int v7, .int 1, .int v9]) hC (t_X10_costOf N _ _ _ _ _ _ c12) mV_X10_costOf  wm_X10_236 obR_0 rfl rfl (Nat.le_of_ble_eq_true rfl) ⟨by decide, by decide⟩ ⟨by decide, by decide⟩ dX10_waits_36 ?_
    obtain ⟨v13, M14, c15, h⟩ := gq_b_i h
    refine g_Vi (as := [.int v5, .int v10]) hC (t_X10_canPay N _ _ _ _ _ c15) mV_X10_canPay  wm_X10_240 obR_0 rfl rfl (Nat.le_of_ble_eq_true rfl) ⟨by decide, by decide⟩ ⟨by decide, by decide⟩ dX10_waits_39 ?_
    refine g_if_eq (tgt := 49) hC (by decide) dX10_waits_42 (fun c16 => ?_) (fun c16 => ?_)
    · replace h := gq_t c16 h
      refine g_iconst (v := 0) hC (by decide) dX10_waits_49 ?_
      exact g_weak [] rfl (t_X10_waits_50 hC hr  a1 0 M14 h)
    · replace h := gq_f c16 h
      refine g_iconst (v := 1) hC (by decide) dX10_waits_45 ?_
      refine g_goto (tgt := 50) hC (by decide) dX10_waits_46 ?_
      exact g_weak [] rfl (t_X10_waits_50 hC hr  a1 1 M14 h)
def f_X10_leaves_57 (N : Nat) (kh4 : Int32 → Int32 → Int32 → gq_M → Option (Int32 × gq_M)) (x1 : Int32) (x2 : Int32) (x3 : Int32) (M : gq_M) : Option (Int32 × gq_M) :=
  kh4 x1 x2 (x3 + 1) M
set_option maxHeartbeats 1000000 in
set_option maxRecDepth 20000 in
theorem t_X10_leaves_57 {N : Nat} {kh4 : Int32 → Int32 → Int32 → gq_M → Option (Int32 × gq_M)} {v9 : Int32} {M9 : gq_M} (hC : gq_C p s m args meth c D A cI cZ ad mtR RX10 cX10_leaves 4) (hr : meth.sig.returnType = none) (hk4 : ∀ (x1 : Int32) (x2 : Int32) (x3 : Int32) (M : gq_M), kh4 x1 x2 x3 M = some (v9, M9) → gq_W p l e (gq_rm 0) s m args below meth c D A cI cZ ad mtR 4 (MQ below (gq_Qv D cI cZ ad mtR M9 A) args s 0 0 A) 4 [(0, .ref (ad 0)), (1, .int x1), (2, .int x2), (3, .int x3)] [] M 0 0)  : ∀ (x1 : Int32) (x2 : Int32) (x3 : Int32) (M : gq_M), f_X10_leaves_57 N kh4 x1 x2 x3 M = some (v9, M9) → gq_W p l e (gq_rm 0) s m args below meth c D A cI cZ ad mtR 4 (MQ below (gq_Qv D cI cZ ad mtR M9 A) args s 0 0 A) 57 [(0, .ref (ad 0)), (1, .int x1), (2, .int x2), (3, .int x3)] [] M 0 0 := by
  intro x1 x2 x3 M h
  unfold f_X10_leaves_57 at h
  refine g_iinc (v := (x3 + 1)) (L2 := [(3, .int (x3 + 1)), (0, .ref (ad 0)), (1, .int x1), (2, .int x2)]) hC 3 rfl (by first | rfl | decide) (by decide) rfl dX10_leaves_57 ?_
  refine g_goto (tgt := 4) hC (by decide) dX10_leaves_60 ?_
  exact g_weak [1, 2, 3, 0] rfl (hk4 x1 x2 (x3 + 1) M h)
def f_X10_leaves_4_b (N : Nat) (kh4 : Int32 → Int32 → Int32 → gq_M → Option (Int32 × gq_M)) (x1 : Int32) (x2 : Int32) (x3 : Int32) (M : gq_M) : Option (Int32 × gq_M) :=
  if (M 0 16) ≤ x3 then (gq_g (gq_in x1 20) (gq_l (gq_up M 47 x1.toNatClampNeg x2) fun M3 => some (0, M3))) else (gq_g (gq_in x3 150) (gq_l (M 19 x3.toNatClampNeg) fun v5 => if v5 = 3 then (gq_g (gq_in x3 150) (gq_l (M 21 x3.toNatClampNeg) fun v8 => gq_g (gq_in x1 20) (gq_l (M 44 x1.toNatClampNeg) fun v10 => if v8 = v10 then (gq_g (gq_in x1 20) (gq_l (M 46 x1.toNatClampNeg) fun v13 => if v13 ≤ x2 then (f_X10_leaves_57 N kh4 x1 x2 x3 M) else (gq_g (gq_in x3 150) (gq_l (gq_up M 19 x3.toNatClampNeg 4) fun M16 => f_X10_leaves_57 N kh4 x1 (x2 + 1) x3 M16)))) else (f_X10_leaves_57 N kh4 x1 x2 x3 M)))) else (f_X10_leaves_57 N kh4 x1 x2 x3 M)))
def f_X10_leaves_4 (N : Nat) : Nat → Int32 → Int32 → Int32 → gq_M → Option (Int32 × gq_M)
  | 0 => fun _ _ _ _ => none
  | n9 + 1 => f_X10_leaves_4_b N  (f_X10_leaves_4 N  n9)
set_option maxHeartbeats 1000000 in
set_option maxRecDepth 20000 in
theorem t_X10_leaves_4_b {N : Nat} {kh4 : Int32 → Int32 → Int32 → gq_M → Option (Int32 × gq_M)} {v9 : Int32} {M9 : gq_M} (hC : gq_C p s m args meth c D A cI cZ ad mtR RX10 cX10_leaves 4) (hr : meth.sig.returnType = none)  (hk4 : ∀ (x1 : Int32) (x2 : Int32) (x3 : Int32) (M : gq_M), kh4 x1 x2 x3 M = some (v9, M9) → gq_W p l e (gq_rm 0) s m args below meth c D A cI cZ ad mtR 4 (MQ below (gq_Qv D cI cZ ad mtR M9 A) args s 0 0 A) 4 [(0, .ref (ad 0)), (1, .int x1), (2, .int x2), (3, .int x3)] [] M 0 0) : ∀ (x1 : Int32) (x2 : Int32) (x3 : Int32) (M : gq_M), f_X10_leaves_4_b N  kh4 x1 x2 x3 M = some (v9, M9) → gq_W p l e (gq_rm 0) s m args below meth c D A cI cZ ad mtR 4 (MQ below (gq_Qv D cI cZ ad mtR M9 A) args s 0 0 A) 4 [(0, .ref (ad 0)), (1, .int x1), (2, .int x2), (3, .int x3)] [] M 0 0 := by
  intro x1 x2 x3 M h
  unfold f_X10_leaves_4_b at h
  refine g_iload_n hC 3 rfl rfl dX10_leaves_4 ?_
  refine g_aload_n hC 0 rfl rfl dX10_leaves_5 ?_
  refine g_getI hC fF_X10_167 lkR_0_16 dX10_leaves_6 ?_
  refine g_icmp_ge (tgt := 63) hC (by decide) dX10_leaves_9 (fun c1 => ?_) (fun c1 => ?_)
  · replace h := gq_t c1 h
    refine g_aload_n hC 0 rfl rfl dX10_leaves_63 ?_
    refine g_getR hC fF_X10_153 lkR_0_53 dX10_leaves_64 ?_
    refine g_iload_n hC 1 rfl rfl dX10_leaves_67 ?_
    refine g_iload_n hC 2 rfl rfl dX10_leaves_68 ?_
    obtain ⟨g2, h⟩ := gq_g_i h
    refine g_iast hC arR_47 (gq_in_i g2) dX10_leaves_69 ?_
    refine g_topM (fun M3 hM3 => ?_)
    replace h := gq_l_i hM3 h
    exact g_vrets hC hr h dX10_leaves_70
  · replace h := gq_f c1 h
    refine g_aload_n hC 0 rfl rfl dX10_leaves_12 ?_
    refine g_getR hC fF_X10_69 lkR_0_23 dX10_leaves_13 ?_
    refine g_iload_n hC 3 rfl rfl dX10_leaves_16 ?_
    obtain ⟨g4, h⟩ := gq_g_i h
    refine g_iald hC arR_19 (gq_in_i g4) dX10_leaves_17 ?_
    refine g_topi (fun v5 hv5 => ?_)
    replace h := gq_l_i hv5 h
    refine g_iconst (v := 3) hC (by decide) dX10_leaves_18 ?_
    refine g_icmp_ne (tgt := 57) hC (by decide) dX10_leaves_19 (fun c6 => ?_) (fun c6 => ?_)
    · replace h := gq_f c6 h
      exact g_weak [0, 1, 2, 3] rfl (t_X10_leaves_57 hC hr hk4 x1 x2 x3 M h)
    · replace h := gq_t c6 h
      refine g_aload_n hC 0 rfl rfl dX10_leaves_22 ?_
      refine g_getR hC fF_X10_75 lkR_0_25 dX10_leaves_23 ?_
      refine g_iload_n hC 3 rfl rfl dX10_leaves_26 ?_
      obtain ⟨g7, h⟩ := gq_g_i h
      refine g_iald hC arR_21 (gq_in_i g7) dX10_leaves_27 ?_
      refine g_topi (fun v8 hv8 => ?_)
      replace h := gq_l_i hv8 h
      refine g_aload_n hC 0 rfl rfl dX10_leaves_28 ?_
      refine g_getR hC fF_X10_144 lkR_0_50 dX10_leaves_29 ?_
      refine g_iload_n hC 1 rfl rfl dX10_leaves_32 ?_
      obtain ⟨g9, h⟩ := gq_g_i h
      refine g_iald hC arR_44 (gq_in_i g9) dX10_leaves_33 ?_
      refine g_topi (fun v10 hv10 => ?_)
      replace h := gq_l_i hv10 h
      refine g_icmp_ne (tgt := 57) hC (by decide) dX10_leaves_34 (fun c11 => ?_) (fun c11 => ?_)
      · replace h := gq_f c11 h
        exact g_weak [0, 1, 2, 3] rfl (t_X10_leaves_57 hC hr hk4 x1 x2 x3 M h)
      · replace h := gq_t c11 h
        refine g_iload_n hC 2 rfl rfl dX10_leaves_37 ?_
        refine g_aload_n hC 0 rfl rfl dX10_leaves_38 ?_
        refine g_getR hC fF_X10_150 lkR_0_52 dX10_leaves_39 ?_
        refine g_iload_n hC 1 rfl rfl dX10_leaves_42 ?_
        obtain ⟨g12, h⟩ := gq_g_i h
        refine g_iald hC arR_46 (gq_in_i g12) dX10_leaves_43 ?_
        refine g_topi (fun v13 hv13 => ?_)
        replace h := gq_l_i hv13 h
        refine g_icmp_ge (tgt := 57) hC (by decide) dX10_leaves_44 (fun c14 => ?_) (fun c14 => ?_)
        · replace h := gq_t c14 h
          exact g_weak [0, 1, 2, 3] rfl (t_X10_leaves_57 hC hr hk4 x1 x2 x3 M h)
        · replace h := gq_f c14 h
          refine g_aload_n hC 0 rfl rfl dX10_leaves_47 ?_
          refine g_getR hC fF_X10_69 lkR_0_23 dX10_leaves_48 ?_
          refine g_iload_n hC 3 rfl rfl dX10_leaves_51 ?_
          refine g_iconst (v := 4) hC (by decide) dX10_leaves_52 ?_
          obtain ⟨g15, h⟩ := gq_g_i h
          refine g_iast hC arR_19 (gq_in_i g15) dX10_leaves_53 ?_
          refine g_topM (fun M16 hM16 => ?_)
          replace h := gq_l_i hM16 h
          refine g_iinc (v := (x2 + 1)) (L2 := [(2, .int (x2 + 1)), (0, .ref (ad 0)), (1, .int x1), (3, .int x3)]) hC 2 rfl (by first | rfl | decide) (by decide) rfl dX10_leaves_54 ?_
          exact g_weak [1, 2, 0, 3] rfl (t_X10_leaves_57 hC hr hk4 x1 (x2 + 1) x3 M16 h)
theorem t_X10_leaves_4 {N : Nat} {v9 : Int32} {M9 : gq_M} (hC : gq_C p s m args meth c D A cI cZ ad mtR RX10 cX10_leaves 4) (hr : meth.sig.returnType = none)  : ∀ (n9 : Nat) (x1 : Int32) (x2 : Int32) (x3 : Int32) (M : gq_M), f_X10_leaves_4 N  n9 x1 x2 x3 M = some (v9, M9) → gq_W p l e (gq_rm 0) s m args below meth c D A cI cZ ad mtR 4 (MQ below (gq_Qv D cI cZ ad mtR M9 A) args s 0 0 A) 4 [(0, .ref (ad 0)), (1, .int x1), (2, .int x2), (3, .int x3)] [] M 0 0 := by
  intro n9
  induction n9 with
  | zero => intro x1 x2 x3 M h; cases h
  | succ n9 ih => intro x1 x2 x3 M h; exact t_X10_leaves_4_b hC hr  ih x1 x2 x3 M h
def f_X10_leaves (N : Nat) (a1 : Int32) (M : gq_M) : Option (Int32 × gq_M) :=
  f_X10_leaves_4 N  N a1 0 0 M
set_option maxHeartbeats 1000000 in
set_option maxRecDepth 20000 in
theorem t_X10_leaves {l : Launch} {D : va_G} {cI cZ : ClassId} {ad : Nat → Nat} (N : Nat) (a1 : Int32) (M : gq_M) (v9 : Int32) (M9 : gq_M) (h : f_X10_leaves N a1 M = some (v9, M9)) : gq_Cv l D cI cZ ad mtR yX10_leaves cX10_leaves 4 0 [.ref (ad 0), .int a1] M M9 := by
  refine gq_introV (own := RX10) (by decide) rfl (Nat.le_of_ble_eq_true rfl) ?_
  intro p e s m below meth c hC hr
  refine g_cast (L2 := [(0, .ref (ad 0)), (1, .int a1)]) ?_ rfl rfl rfl rfl
  unfold f_X10_leaves at h
  refine g_iconst (v := 0) hC (by decide) dX10_leaves_0 ?_
  refine g_istore_n (L2 := [(2, .int 0), (0, .ref (ad 0)), (1, .int a1)]) hC rfl (by decide) rfl dX10_leaves_1 ?_
  refine g_iconst (v := 0) hC (by decide) dX10_leaves_2 ?_
  refine g_istore_n (L2 := [(3, .int 0), (2, .int 0), (0, .ref (ad 0)), (1, .int a1)]) hC rfl (by decide) rfl dX10_leaves_3 ?_
  exact g_weak [2, 3, 1, 0] rfl (t_X10_leaves_4 hC hr  N a1 0 0 M h)
def f_X10_passes_107 (N : Nat) (kh81 : Int32 → gq_M → Option (Int32 × gq_M)) (x1 : Int32) (M : gq_M) : Option (Int32 × gq_M) :=
  kh81 (x1 + 1) M
set_option maxHeartbeats 1000000 in
set_option maxRecDepth 20000 in
theorem t_X10_passes_107 {N : Nat} {kh81 : Int32 → gq_M → Option (Int32 × gq_M)} {v9 : Int32} {M9 : gq_M} (hC : gq_C p s m args meth c D A cI cZ ad mtR RX10 cX10_passes 3) (hr : meth.sig.returnType = none) (hk81 : ∀ (x1 : Int32) (M : gq_M), kh81 x1 M = some (v9, M9) → gq_W p l e (gq_rm 5) s m args below meth c D A cI cZ ad mtR 3 (MQ below (gq_Qv D cI cZ ad mtR M9 A) args s 0 0 A) 81 [(0, .ref (ad 0)), (1, .int x1)] [] M 0 0)  : ∀ (x1 : Int32) (M : gq_M), f_X10_passes_107 N kh81 x1 M = some (v9, M9) → gq_W p l e (gq_rm 5) s m args below meth c D A cI cZ ad mtR 3 (MQ below (gq_Qv D cI cZ ad mtR M9 A) args s 0 0 A) 107 [(0, .ref (ad 0)), (1, .int x1)] [] M 0 0 := by
  intro x1 M h
  unfold f_X10_passes_107 at h
  refine g_iinc (v := (x1 + 1)) (L2 := [(1, .int (x1 + 1)), (0, .ref (ad 0))]) hC 1 rfl (by first | rfl | decide) (by decide) rfl dX10_passes_107 ?_
  refine g_goto (tgt := 81) hC (by decide) dX10_passes_110 ?_
  exact g_weak [1, 0] rfl (hk81 (x1 + 1) M h)
def f_X10_passes_81_b (N : Nat) (kh81 : Int32 → gq_M → Option (Int32 × gq_M)) (x1 : Int32) (M : gq_M) : Option (Int32 × gq_M) :=
  if (M 0 49) ≤ x1 then (some (0, M)) else (gq_g (gq_in x1 20) (gq_l (M 45 x1.toNatClampNeg) fun v22 => if v22 = (M 0 0) then (gq_b (f_X10_leaves N x1 M) fun v24 M25 => f_X10_passes_107 N kh81 x1 M25) else (f_X10_passes_107 N kh81 x1 M)))
def f_X10_passes_81 (N : Nat) : Nat → Int32 → gq_M → Option (Int32 × gq_M)
  | 0 => fun _ _ => none
  | n9 + 1 => f_X10_passes_81_b N  (f_X10_passes_81 N  n9)
set_option maxHeartbeats 1000000 in
set_option maxRecDepth 20000 in
theorem t_X10_passes_81_b {N : Nat} {kh81 : Int32 → gq_M → Option (Int32 × gq_M)} {v9 : Int32} {M9 : gq_M} (hC : gq_C p s m args meth c D A cI cZ ad mtR RX10 cX10_passes 3) (hr : meth.sig.returnType = none)  (hk81 : ∀ (x1 : Int32) (M : gq_M), kh81 x1 M = some (v9, M9) → gq_W p l e (gq_rm 5) s m args below meth c D A cI cZ ad mtR 3 (MQ below (gq_Qv D cI cZ ad mtR M9 A) args s 0 0 A) 81 [(0, .ref (ad 0)), (1, .int x1)] [] M 0 0) : ∀ (x1 : Int32) (M : gq_M), f_X10_passes_81_b N  kh81 x1 M = some (v9, M9) → gq_W p l e (gq_rm 5) s m args below meth c D A cI cZ ad mtR 3 (MQ below (gq_Qv D cI cZ ad mtR M9 A) args s 0 0 A) 81 [(0, .ref (ad 0)), (1, .int x1)] [] M 0 0 := by
  intro x1 M h
  unfold f_X10_passes_81_b at h
  refine g_iload_n hC 1 rfl rfl dX10_passes_81 ?_
  refine g_aload_n hC 0 rfl rfl dX10_passes_82 ?_
  refine g_getI hC fF_X10_267 lkR_0_49 dX10_passes_83 ?_
  refine g_icmp_ge (tgt := 113) hC (by decide) dX10_passes_86 (fun c20 => ?_) (fun c20 => ?_)
  · replace h := gq_t c20 h
    exact g_vrets hC hr h dX10_passes_113
  · replace h := gq_f c20 h
    refine g_aload_n hC 0 rfl rfl dX10_passes_89 ?_
    refine g_getR hC fF_X10_147 lkR_0_51 dX10_passes_90 ?_
    refine g_iload_n hC 1 rfl rfl dX10_passes_93 ?_
    obtain ⟨g21, h⟩ := gq_g_i h
    refine g_iald hC arR_45 (gq_in_i g21) dX10_passes_94 ?_
    refine g_topi (fun v22 hv22 => ?_)
    replace h := gq_l_i hv22 h
    refine g_aload_n hC 0 rfl rfl dX10_passes_95 ?_
    refine g_getI hC fF_X10_224 lkR_0_0 dX10_passes_96 ?_
    refine g_icmp_ne (tgt := 107) hC (by decide) dX10_passes_99 (fun c23 => ?_) (fun c23 => ?_)
    · replace h := gq_f c23 h
      exact g_weak [0, 1] rfl (t_X10_passes_107 hC hr hk81 x1 M h)
    · replace h := gq_t c23 h
      refine g_aload_n hC 0 rfl rfl dX10_passes_102 ?_
      refine g_iload_n hC 1 rfl rfl dX10_passes_103 ?_
      obtain ⟨v24, M25, c26, h⟩ := gq_b_i h
      refine g_Vv (as := [.int x1]) hC (t_X10_leaves N _ _ _ _ c26) mV_X10_leaves  wm_X10_270 obR_0 rfl rfl (Nat.le_of_ble_eq_true rfl) ⟨by decide, by decide⟩ ⟨by decide, by decide⟩ dX10_passes_104 ?_
      exact g_weak [0, 1] rfl (t_X10_passes_107 hC hr hk81 x1 M25 h)
theorem t_X10_passes_81 {N : Nat} {v9 : Int32} {M9 : gq_M} (hC : gq_C p s m args meth c D A cI cZ ad mtR RX10 cX10_passes 3) (hr : meth.sig.returnType = none)  : ∀ (n9 : Nat) (x1 : Int32) (M : gq_M), f_X10_passes_81 N  n9 x1 M = some (v9, M9) → gq_W p l e (gq_rm 5) s m args below meth c D A cI cZ ad mtR 3 (MQ below (gq_Qv D cI cZ ad mtR M9 A) args s 0 0 A) 81 [(0, .ref (ad 0)), (1, .int x1)] [] M 0 0 := by
  intro n9
  induction n9 with
  | zero => intro x1 M h; cases h
  | succ n9 ih => intro x1 M h; exact t_X10_passes_81_b hC hr  ih x1 M h
def f_X10_passes_73 (N : Nat) (kh12 : Int32 → gq_M → Option (Int32 × gq_M)) (x1 : Int32) (M : gq_M) : Option (Int32 × gq_M) :=
  kh12 (x1 + 1) M
set_option maxHeartbeats 1000000 in
set_option maxRecDepth 20000 in
theorem t_X10_passes_73 {N : Nat} {kh12 : Int32 → gq_M → Option (Int32 × gq_M)} {v9 : Int32} {M9 : gq_M} (hC : gq_C p s m args meth c D A cI cZ ad mtR RX10 cX10_passes 3) (hr : meth.sig.returnType = none) (hk12 : ∀ (x1 : Int32) (M : gq_M), kh12 x1 M = some (v9, M9) → gq_W p l e (gq_rm 5) s m args below meth c D A cI cZ ad mtR 3 (MQ below (gq_Qv D cI cZ ad mtR M9 A) args s 0 0 A) 12 [(0, .ref (ad 0)), (1, .int x1)] [] M 0 0)  : ∀ (x1 : Int32) (M : gq_M), f_X10_passes_73 N kh12 x1 M = some (v9, M9) → gq_W p l e (gq_rm 5) s m args below meth c D A cI cZ ad mtR 3 (MQ below (gq_Qv D cI cZ ad mtR M9 A) args s 0 0 A) 73 [(0, .ref (ad 0)), (1, .int x1)] [] M 0 0 := by
  intro x1 M h
  unfold f_X10_passes_73 at h
  refine g_iinc (v := (x1 + 1)) (L2 := [(1, .int (x1 + 1)), (0, .ref (ad 0))]) hC 1 rfl (by first | rfl | decide) (by decide) rfl dX10_passes_73 ?_
  refine g_goto (tgt := 12) hC (by decide) dX10_passes_76 ?_
  exact g_weak [1, 0] rfl (hk12 (x1 + 1) M h)
def f_X10_passes_36 (N : Nat) (kh12 : Int32 → gq_M → Option (Int32 × gq_M)) (x1 : Int32) (s0 : Int32) (M : gq_M) : Option (Int32 × gq_M) :=
  if s0 = 1 then (gq_b (f_X10_falls N x1 M) fun v17 M18 => f_X10_passes_73 N kh12 x1 M18) else (if s0 = 2 then (gq_b (f_X10_stands N x1 M) fun v14 M15 => f_X10_passes_73 N kh12 x1 M15) else (if s0 = 3 then (gq_b (f_X10_waits N x1 M) fun v11 M12 => f_X10_passes_73 N kh12 x1 M12) else (f_X10_passes_73 N kh12 x1 M)))
set_option maxHeartbeats 1000000 in
set_option maxRecDepth 20000 in
theorem t_X10_passes_36 {N : Nat} {kh12 : Int32 → gq_M → Option (Int32 × gq_M)} {v9 : Int32} {M9 : gq_M} (hC : gq_C p s m args meth c D A cI cZ ad mtR RX10 cX10_passes 3) (hr : meth.sig.returnType = none) (hk12 : ∀ (x1 : Int32) (M : gq_M), kh12 x1 M = some (v9, M9) → gq_W p l e (gq_rm 5) s m args below meth c D A cI cZ ad mtR 3 (MQ below (gq_Qv D cI cZ ad mtR M9 A) args s 0 0 A) 12 [(0, .ref (ad 0)), (1, .int x1)] [] M 0 0)  : ∀ (x1 : Int32) (s0 : Int32) (M : gq_M), f_X10_passes_36 N kh12 x1 s0 M = some (v9, M9) → gq_W p l e (gq_rm 5) s m args below meth c D A cI cZ ad mtR 3 (MQ below (gq_Qv D cI cZ ad mtR M9 A) args s 0 0 A) 36 [(0, .ref (ad 0)), (1, .int x1)] [.int s0] M 0 0 := by
  intro x1 s0 M h
  unfold f_X10_passes_36 at h
  refine g_istore_n (L2 := [(2, .int s0), (0, .ref (ad 0)), (1, .int x1)]) hC rfl (by decide) rfl dX10_passes_36 ?_
  refine g_iload_n hC 0 rfl rfl dX10_passes_37 ?_
  refine g_iconst (v := 1) hC (by decide) dX10_passes_38 ?_
  refine g_icmp_ne (tgt := 50) hC (by decide) dX10_passes_39 (fun c8 => ?_) (fun c8 => ?_)
  · replace h := gq_f c8 h
    refine g_iload_n hC 0 rfl rfl dX10_passes_50 ?_
    refine g_iconst (v := 2) hC (by decide) dX10_passes_51 ?_
    refine g_icmp_ne (tgt := 63) hC (by decide) dX10_passes_52 (fun c9 => ?_) (fun c9 => ?_)
    · replace h := gq_f c9 h
      refine g_iload_n hC 0 rfl rfl dX10_passes_63 ?_
      refine g_iconst (v := 3) hC (by decide) dX10_passes_64 ?_
      refine g_icmp_ne (tgt := 73) hC (by decide) dX10_passes_65 (fun c10 => ?_) (fun c10 => ?_)
      · replace h := gq_f c10 h
        exact g_weak [1, 2] rfl (t_X10_passes_73 hC hr hk12 x1 M h)
      · replace h := gq_t c10 h
        refine g_aload_n hC 1 rfl rfl dX10_passes_68 ?_
        refine g_iload_n hC 2 rfl rfl dX10_passes_69 ?_
        obtain ⟨v11, M12, c13, h⟩ := gq_b_i h
        refine g_Vv (as := [.int x1]) hC (t_X10_waits N _ _ _ _ c13) mV_X10_waits  wm_X10_264 obR_0 rfl rfl (Nat.le_of_ble_eq_true rfl) ⟨by decide, by decide⟩ ⟨by decide, by decide⟩ dX10_passes_70 ?_
        exact g_weak [1, 2] rfl (t_X10_passes_73 hC hr hk12 x1 M12 h)
    · replace h := gq_t c9 h
      refine g_aload_n hC 1 rfl rfl dX10_passes_55 ?_
      refine g_iload_n hC 2 rfl rfl dX10_passes_56 ?_
      obtain ⟨v14, M15, c16, h⟩ := gq_b_i h
      refine g_Vv (as := [.int x1]) hC (t_X10_stands N _ _ _ _ c16) mV_X10_stands  wm_X10_261 obR_0 rfl rfl (Nat.le_of_ble_eq_true rfl) ⟨by decide, by decide⟩ ⟨by decide, by decide⟩ dX10_passes_57 ?_
      refine g_goto (tgt := 73) hC (by decide) dX10_passes_60 ?_
      exact g_weak [1, 2] rfl (t_X10_passes_73 hC hr hk12 x1 M15 h)
  · replace h := gq_t c8 h
    refine g_aload_n hC 1 rfl rfl dX10_passes_42 ?_
    refine g_iload_n hC 2 rfl rfl dX10_passes_43 ?_
    obtain ⟨v17, M18, c19, h⟩ := gq_b_i h
    refine g_Vv (as := [.int x1]) hC (t_X10_falls N _ _ _ _ c19) mV_X10_falls  wm_X10_258 obR_0 rfl rfl (Nat.le_of_ble_eq_true rfl) ⟨by decide, by decide⟩ ⟨by decide, by decide⟩ dX10_passes_44 ?_
    refine g_goto (tgt := 73) hC (by decide) dX10_passes_47 ?_
    exact g_weak [1, 2] rfl (t_X10_passes_73 hC hr hk12 x1 M18 h)
def f_X10_passes_12_b (N : Nat) (kh12 : Int32 → gq_M → Option (Int32 × gq_M)) (x1 : Int32) (M : gq_M) : Option (Int32 × gq_M) :=
  if 3 ≤ x1 then (f_X10_passes_81 N  N 0 M) else (gq_g (gq_in x1 3) (gq_l (M 34 x1.toNatClampNeg) fun v4 => if v4 = 0 then (f_X10_passes_36 N kh12 x1 0 M) else (gq_g (gq_in x1 3) (gq_l (M 35 x1.toNatClampNeg) fun v7 => f_X10_passes_36 N kh12 x1 v7 M))))
def f_X10_passes_12 (N : Nat) : Nat → Int32 → gq_M → Option (Int32 × gq_M)
  | 0 => fun _ _ => none
  | n9 + 1 => f_X10_passes_12_b N  (f_X10_passes_12 N  n9)
set_option maxHeartbeats 1000000 in
set_option maxRecDepth 20000 in
theorem t_X10_passes_12_b {N : Nat} {kh12 : Int32 → gq_M → Option (Int32 × gq_M)} {v9 : Int32} {M9 : gq_M} (hC : gq_C p s m args meth c D A cI cZ ad mtR RX10 cX10_passes 3) (hr : meth.sig.returnType = none)  (hk12 : ∀ (x1 : Int32) (M : gq_M), kh12 x1 M = some (v9, M9) → gq_W p l e (gq_rm 5) s m args below meth c D A cI cZ ad mtR 3 (MQ below (gq_Qv D cI cZ ad mtR M9 A) args s 0 0 A) 12 [(0, .ref (ad 0)), (1, .int x1)] [] M 0 0) : ∀ (x1 : Int32) (M : gq_M), f_X10_passes_12_b N  kh12 x1 M = some (v9, M9) → gq_W p l e (gq_rm 5) s m args below meth c D A cI cZ ad mtR 3 (MQ below (gq_Qv D cI cZ ad mtR M9 A) args s 0 0 A) 12 [(0, .ref (ad 0)), (1, .int x1)] [] M 0 0 := by
  intro x1 M h
  unfold f_X10_passes_12_b at h
  refine g_iload_n hC 1 rfl rfl dX10_passes_12 ?_
  refine g_iconst (v := 3) hC (by decide) dX10_passes_13 ?_
  refine g_icmp_ge (tgt := 79) hC (by decide) dX10_passes_14 (fun c2 => ?_) (fun c2 => ?_)
  · replace h := gq_t c2 h
    refine g_iconst (v := 0) hC (by decide) dX10_passes_79 ?_
    refine g_istore_n (L2 := [(1, .int 0), (0, .ref (ad 0))]) hC rfl (by decide) rfl dX10_passes_80 ?_
    exact g_weak [1, 0] rfl (t_X10_passes_81 hC hr  N 0 M h)
  · replace h := gq_f c2 h
    refine g_aload_n hC 0 rfl rfl dX10_passes_17 ?_
    refine g_getR hC fF_X10_114 lkR_0_39 dX10_passes_18 ?_
    refine g_iload_n hC 1 rfl rfl dX10_passes_21 ?_
    obtain ⟨g3, h⟩ := gq_g_i h
    refine g_zald hC arR_34 (gq_in_i g3) dX10_passes_22 ?_
    refine g_topi (fun v4 hv4 => ?_)
    replace h := gq_l_i hv4 h
    refine g_if_eq (tgt := 35) hC (by decide) dX10_passes_23 (fun c5 => ?_) (fun c5 => ?_)
    · replace h := gq_t c5 h
      refine g_iconst (v := 0) hC (by decide) dX10_passes_35 ?_
      exact g_weak [0, 1] rfl (t_X10_passes_36 hC hr hk12 x1 0 M h)
    · replace h := gq_f c5 h
      refine g_aload_n hC 0 rfl rfl dX10_passes_26 ?_
      refine g_getR hC fF_X10_117 lkR_0_40 dX10_passes_27 ?_
      refine g_iload_n hC 1 rfl rfl dX10_passes_30 ?_
      obtain ⟨g6, h⟩ := gq_g_i h
      refine g_iald hC arR_35 (gq_in_i g6) dX10_passes_31 ?_
      refine g_topi (fun v7 hv7 => ?_)
      replace h := gq_l_i hv7 h
      refine g_goto (tgt := 36) hC (by decide) dX10_passes_32 ?_
      exact g_weak [0, 1] rfl (t_X10_passes_36 hC hr hk12 x1 v7 M h)
theorem t_X10_passes_12 {N : Nat} {v9 : Int32} {M9 : gq_M} (hC : gq_C p s m args meth c D A cI cZ ad mtR RX10 cX10_passes 3) (hr : meth.sig.returnType = none)  : ∀ (n9 : Nat) (x1 : Int32) (M : gq_M), f_X10_passes_12 N  n9 x1 M = some (v9, M9) → gq_W p l e (gq_rm 5) s m args below meth c D A cI cZ ad mtR 3 (MQ below (gq_Qv D cI cZ ad mtR M9 A) args s 0 0 A) 12 [(0, .ref (ad 0)), (1, .int x1)] [] M 0 0 := by
  intro n9
  induction n9 with
  | zero => intro x1 M h; cases h
  | succ n9 ih => intro x1 M h; exact t_X10_passes_12_b hC hr  ih x1 M h
def f_X10_passes (N : Nat) (M : gq_M) : Option (Int32 × gq_M) :=
  gq_l (gq_up M 0 0 ((M 0 0) + 1)) fun M1 => f_X10_passes_12 N  N 0 M1
set_option maxHeartbeats 1000000 in
set_option maxRecDepth 20000 in
theorem t_X10_passes {l : Launch} {D : va_G} {cI cZ : ClassId} {ad : Nat → Nat} (N : Nat) (M : gq_M) (v9 : Int32) (M9 : gq_M) (h : f_X10_passes N  M = some (v9, M9)) : gq_Cv l D cI cZ ad mtR yX10_passes cX10_passes 3 5 [.ref (ad 0)] M M9 := by
  refine gq_introV (own := RX10) (by decide) rfl (Nat.le_of_ble_eq_true rfl) ?_
  intro p e s m below meth c hC hr
  refine g_cast (L2 := [(0, .ref (ad 0))]) ?_ rfl rfl rfl rfl
  unfold f_X10_passes at h
  refine g_aload_n hC 0 rfl rfl dX10_passes_0 ?_
  refine g_dup hC rfl dX10_passes_1 ?_
  refine g_getI hC fF_X10_224 lkR_0_0 dX10_passes_2 ?_
  refine g_iconst (v := 1) hC (by decide) dX10_passes_5 ?_
  refine g_iadd hC dX10_passes_6 ?_
  refine g_putI hC fG_X10_224 lkR_0_0 dX10_passes_7 ?_
  refine g_topM (fun M1 hM1 => ?_)
  replace h := gq_l_i hM1 h
  refine g_iconst (v := 0) hC (by decide) dX10_passes_10 ?_
  refine g_istore_n (L2 := [(1, .int 0), (0, .ref (ad 0))]) hC rfl (by decide) rfl dX10_passes_11 ?_
  exact g_weak [1, 0] rfl (t_X10_passes_12 hC hr  N 0 M1 h)
def f_X10_pass_42_b (N : Nat) (kh42 : Int32 → Int32 → gq_M → Option (Int32 × gq_M)) (x1 : Int32) (x2 : Int32) (M : gq_M) : Option (Int32 × gq_M) :=
  if x1 ≤ x2 then (some ((M 0 0), M)) else (gq_b (f_X10_passes N  M) fun v11 M12 => kh42 x1 (x2 + 1) M12)
def f_X10_pass_42 (N : Nat) : Nat → Int32 → Int32 → gq_M → Option (Int32 × gq_M)
  | 0 => fun _ _ _ => none
  | n9 + 1 => f_X10_pass_42_b N  (f_X10_pass_42 N  n9)
set_option maxHeartbeats 1000000 in
set_option maxRecDepth 20000 in
theorem t_X10_pass_42_b {N : Nat} {kh42 : Int32 → Int32 → gq_M → Option (Int32 × gq_M)} {v9 : Int32} {M9 : gq_M} (hC : gq_C p s m args meth c D A cI cZ ad mtR RX10 cX10_pass 3) (hr : meth.sig.returnType = (some .int))  (hk42 : ∀ (x1 : Int32) (x2 : Int32) (M : gq_M), kh42 x1 x2 M = some (v9, M9) → gq_W p l e (gq_rm 6) s m args below meth c D A cI cZ ad mtR 3 (MQ below (gq_Qi D cI cZ ad mtR v9 M9 A) args s 0 0 A) 42 [(0, .ref (ad 0)), (1, .int x1), (2, .int x2)] [] M 0 0) : ∀ (x1 : Int32) (x2 : Int32) (M : gq_M), f_X10_pass_42_b N  kh42 x1 x2 M = some (v9, M9) → gq_W p l e (gq_rm 6) s m args below meth c D A cI cZ ad mtR 3 (MQ below (gq_Qi D cI cZ ad mtR v9 M9 A) args s 0 0 A) 42 [(0, .ref (ad 0)), (1, .int x1), (2, .int x2)] [] M 0 0 := by
  intro x1 x2 M h
  unfold f_X10_pass_42_b at h
  refine g_iload_n hC 2 rfl rfl dX10_pass_42 ?_
  refine g_iload_n hC 1 rfl rfl dX10_pass_43 ?_
  refine g_icmp_ge (tgt := 57) hC (by decide) dX10_pass_44 (fun c10 => ?_) (fun c10 => ?_)
  · replace h := gq_t c10 h
    refine g_aload_n hC 0 rfl rfl dX10_pass_57 ?_
    refine g_getI hC fF_X10_224 lkR_0_0 dX10_pass_58 ?_
    exact g_irets hC hr h dX10_pass_61
  · replace h := gq_f c10 h
    refine g_aload_n hC 0 rfl rfl dX10_pass_47 ?_
    obtain ⟨v11, M12, c13, h⟩ := gq_b_i h
    refine g_Vv (as := []) hC (t_X10_passes N  _ _ _ c13) mV_X10_passes  wm_X10_273 obR_0 rfl rfl (Nat.le_of_ble_eq_true rfl) ⟨by decide, by decide⟩ ⟨by decide, by decide⟩ dX10_pass_48 ?_
    refine g_iinc (v := (x2 + 1)) (L2 := [(2, .int (x2 + 1)), (0, .ref (ad 0)), (1, .int x1)]) hC 2 rfl (by first | rfl | decide) (by decide) rfl dX10_pass_51 ?_
    refine g_goto (tgt := 42) hC (by decide) dX10_pass_54 ?_
    exact g_weak [1, 2, 0] rfl (hk42 x1 (x2 + 1) M12 h)
theorem t_X10_pass_42 {N : Nat} {v9 : Int32} {M9 : gq_M} (hC : gq_C p s m args meth c D A cI cZ ad mtR RX10 cX10_pass 3) (hr : meth.sig.returnType = (some .int))  : ∀ (n9 : Nat) (x1 : Int32) (x2 : Int32) (M : gq_M), f_X10_pass_42 N  n9 x1 x2 M = some (v9, M9) → gq_W p l e (gq_rm 6) s m args below meth c D A cI cZ ad mtR 3 (MQ below (gq_Qi D cI cZ ad mtR v9 M9 A) args s 0 0 A) 42 [(0, .ref (ad 0)), (1, .int x1), (2, .int x2)] [] M 0 0 := by
  intro n9
  induction n9 with
  | zero => intro x1 x2 M h; cases h
  | succ n9 ih => intro x1 x2 M h; exact t_X10_pass_42_b hC hr  ih x1 x2 M h
def f_X10_pass_32 (N : Nat) (x1 : Int32) (s1 : Int32) (M : gq_M) : Option (Int32 × gq_M) :=
  gq_b (f_X10_fails N s1 M) fun v6 M7 => if v6 = 0 then (f_X10_pass_42 N  N x1 0 M7) else (some (0, M7))
set_option maxHeartbeats 1000000 in
set_option maxRecDepth 20000 in
theorem t_X10_pass_32 {N : Nat} {v9 : Int32} {M9 : gq_M} (hC : gq_C p s m args meth c D A cI cZ ad mtR RX10 cX10_pass 3) (hr : meth.sig.returnType = (some .int))   : ∀ (x1 : Int32) (s1 : Int32) (M : gq_M), f_X10_pass_32 N  x1 s1 M = some (v9, M9) → gq_W p l e (gq_rm 6) s m args below meth c D A cI cZ ad mtR 3 (MQ below (gq_Qi D cI cZ ad mtR v9 M9 A) args s 0 0 A) 32 [(0, .ref (ad 0)), (1, .int x1)] [.int s1, .ref (ad 0)] M 0 0 := by
  intro x1 s1 M h
  unfold f_X10_pass_32 at h
  obtain ⟨v6, M7, c8, h⟩ := gq_b_i h
  refine g_Vi (as := [.int s1]) hC (t_X10_fails N _ _ _ _ c8) mV_X10_fails  wm_X10_178 obR_0 rfl rfl (Nat.le_of_ble_eq_true rfl) ⟨by decide, by decide⟩ ⟨by decide, by decide⟩ dX10_pass_32 ?_
  refine g_if_eq (tgt := 40) hC (by decide) dX10_pass_35 (fun c9 => ?_) (fun c9 => ?_)
  · replace h := gq_t c9 h
    refine g_iconst (v := 0) hC (by decide) dX10_pass_40 ?_
    refine g_istore_n (L2 := [(2, .int 0), (0, .ref (ad 0)), (1, .int x1)]) hC rfl (by decide) rfl dX10_pass_41 ?_
    exact g_weak [1, 2, 0] rfl (t_X10_pass_42 hC hr  N x1 0 M7 h)
  · replace h := gq_f c9 h
    refine g_iconst (v := 0) hC (by decide) dX10_pass_38 ?_
    exact g_irets hC hr h dX10_pass_39
def f_X10_pass (N : Nat) (a1 : Int32) (M : gq_M) : Option (Int32 × gq_M) :=
  gq_b (f_X10_isIn N a1 1 500 M) fun v1 M2 => if v1 = 0 then (f_X10_pass_32 N  a1 1 M2) else (if ((M2 0 0) + a1) ≤ 100000 then (f_X10_pass_32 N  a1 0 M2) else (f_X10_pass_32 N  a1 2 M2))
set_option maxHeartbeats 1000000 in
set_option maxRecDepth 20000 in
theorem t_X10_pass {l : Launch} {D : va_G} {cI cZ : ClassId} {ad : Nat → Nat} (N : Nat) (a1 : Int32) (M : gq_M) (v9 : Int32) (M9 : gq_M) (h : f_X10_pass N a1 M = some (v9, M9)) : gq_Ci l D cI cZ ad mtR yX10_pass cX10_pass 3 (some .int) 6 [.ref (ad 0), .int a1] M v9 M9 := by
  refine gq_introI (own := RX10) (by decide) rfl (Nat.le_of_ble_eq_true rfl) ?_
  intro p e s m below meth c hC hr
  refine g_cast (L2 := [(0, .ref (ad 0)), (1, .int a1)]) ?_ rfl rfl rfl rfl
  unfold f_X10_pass at h
  refine g_aload_n hC 0 rfl rfl dX10_pass_0 ?_
  refine g_iload_n hC 1 rfl rfl dX10_pass_1 ?_
  refine g_iconst (v := 1) hC (by decide) dX10_pass_2 ?_
  refine g_sipush (v := 500) hC (by decide) dX10_pass_3 ?_
  obtain ⟨v1, M2, c3, h⟩ := gq_b_i h
  refine g_Si (as := [.int a1, .int 1, .int 500]) hC (t_X10_isIn N _ _ _ _ _ _ c3) mS_X10_isIn wm_X10_163 rfl rfl (Nat.le_of_ble_eq_true rfl) ⟨by decide, by decide⟩ ⟨by decide, by decide⟩ dX10_pass_6 ?_
  refine g_if_ne (tgt := 16) hC (by decide) dX10_pass_9 (fun c4 => ?_) (fun c4 => ?_)
  · replace h := gq_f c4 h
    refine g_aload_n hC 0 rfl rfl dX10_pass_16 ?_
    refine g_getI hC fF_X10_224 lkR_0_0 dX10_pass_17 ?_
    refine g_iload_n hC 1 rfl rfl dX10_pass_20 ?_
    refine g_iadd hC dX10_pass_21 ?_
    refine g_ldc (v := 100000) hC wk_X10_177 dX10_pass_22 ?_
    refine g_icmp_le (tgt := 31) hC (by decide) dX10_pass_24 (fun c5 => ?_) (fun c5 => ?_)
    · replace h := gq_t c5 h
      refine g_iconst (v := 0) hC (by decide) dX10_pass_31 ?_
      exact g_weak [0, 1] rfl (t_X10_pass_32 hC hr  a1 0 M2 h)
    · replace h := gq_f c5 h
      refine g_iconst (v := 2) hC (by decide) dX10_pass_27 ?_
      refine g_goto (tgt := 32) hC (by decide) dX10_pass_28 ?_
      exact g_weak [0, 1] rfl (t_X10_pass_32 hC hr  a1 2 M2 h)
  · replace h := gq_t c4 h
    refine g_iconst (v := 1) hC (by decide) dX10_pass_12 ?_
    refine g_goto (tgt := 32) hC (by decide) dX10_pass_13 ?_
    exact g_weak [0, 1] rfl (t_X10_pass_32 hC hr  a1 1 M2 h)
def f_X10_lorry_67 (N : Nat) (x1 : Int32) (x2 : Int32) (x3 : Int32) (s1 : Int32) (M : gq_M) : Option (Int32 × gq_M) :=
  gq_b (f_X10_fails N s1 M) fun v15 M16 => if v15 = 0 then (gq_g (gq_in (M16 0 49) 20) (gq_l (gq_up M16 44 ((M16 0 49) : Int32).toNatClampNeg x1) fun M20 => gq_g (gq_in (M20 0 49) 20) (gq_l (gq_up M20 45 ((M20 0 49) : Int32).toNatClampNeg x2) fun M22 => gq_g (gq_in (M22 0 49) 20) (gq_l (gq_up M22 46 ((M22 0 49) : Int32).toNatClampNeg x3) fun M24 => gq_g (gq_in (M24 0 49) 20) (gq_l (gq_up M24 47 ((M24 0 49) : Int32).toNatClampNeg (-1)) fun M26 => gq_l (gq_up M26 0 49 ((M26 0 49) + 1)) fun M27 => some (((M27 0 49) - 1), M27)))))) else (some (0, M16))
set_option maxHeartbeats 1000000 in
set_option maxRecDepth 20000 in
theorem t_X10_lorry_67 {N : Nat} {v9 : Int32} {M9 : gq_M} (hC : gq_C p s m args meth c D A cI cZ ad mtR RX10 cX10_lorry 5) (hr : meth.sig.returnType = (some .int))   : ∀ (x1 : Int32) (x2 : Int32) (x3 : Int32) (s1 : Int32) (M : gq_M), f_X10_lorry_67 N  x1 x2 x3 s1 M = some (v9, M9) → gq_W p l e (gq_rm 2) s m args below meth c D A cI cZ ad mtR 5 (MQ below (gq_Qi D cI cZ ad mtR v9 M9 A) args s 0 0 A) 67 [(0, .ref (ad 0)), (1, .int x1), (2, .int x2), (3, .int x3)] [.int s1, .ref (ad 0)] M 0 0 := by
  intro x1 x2 x3 s1 M h
  unfold f_X10_lorry_67 at h
  obtain ⟨v15, M16, c17, h⟩ := gq_b_i h
  refine g_Vi (as := [.int s1]) hC (t_X10_fails N _ _ _ _ c17) mV_X10_fails  wm_X10_178 obR_0 rfl rfl (Nat.le_of_ble_eq_true rfl) ⟨by decide, by decide⟩ ⟨by decide, by decide⟩ dX10_lorry_67 ?_
  refine g_if_eq (tgt := 75) hC (by decide) dX10_lorry_70 (fun c18 => ?_) (fun c18 => ?_)
  · replace h := gq_t c18 h
    refine g_aload_n hC 0 rfl rfl dX10_lorry_75 ?_
    refine g_getR hC fF_X10_144 lkR_0_50 dX10_lorry_76 ?_
    refine g_aload_n hC 0 rfl rfl dX10_lorry_79 ?_
    refine g_getI hC fF_X10_267 lkR_0_49 dX10_lorry_80 ?_
    refine g_iload_n hC 1 rfl rfl dX10_lorry_83 ?_
    obtain ⟨g19, h⟩ := gq_g_i h
    refine g_iast hC arR_44 (gq_in_i g19) dX10_lorry_84 ?_
    refine g_topM (fun M20 hM20 => ?_)
    replace h := gq_l_i hM20 h
    refine g_aload_n hC 0 rfl rfl dX10_lorry_85 ?_
    refine g_getR hC fF_X10_147 lkR_0_51 dX10_lorry_86 ?_
    refine g_aload_n hC 0 rfl rfl dX10_lorry_89 ?_
    refine g_getI hC fF_X10_267 lkR_0_49 dX10_lorry_90 ?_
    refine g_iload_n hC 2 rfl rfl dX10_lorry_93 ?_
    obtain ⟨g21, h⟩ := gq_g_i h
    refine g_iast hC arR_45 (gq_in_i g21) dX10_lorry_94 ?_
    refine g_topM (fun M22 hM22 => ?_)
    replace h := gq_l_i hM22 h
    refine g_aload_n hC 0 rfl rfl dX10_lorry_95 ?_
    refine g_getR hC fF_X10_150 lkR_0_52 dX10_lorry_96 ?_
    refine g_aload_n hC 0 rfl rfl dX10_lorry_99 ?_
    refine g_getI hC fF_X10_267 lkR_0_49 dX10_lorry_100 ?_
    refine g_iload_n hC 3 rfl rfl dX10_lorry_103 ?_
    obtain ⟨g23, h⟩ := gq_g_i h
    refine g_iast hC arR_46 (gq_in_i g23) dX10_lorry_104 ?_
    refine g_topM (fun M24 hM24 => ?_)
    replace h := gq_l_i hM24 h
    refine g_aload_n hC 0 rfl rfl dX10_lorry_105 ?_
    refine g_getR hC fF_X10_153 lkR_0_53 dX10_lorry_106 ?_
    refine g_aload_n hC 0 rfl rfl dX10_lorry_109 ?_
    refine g_getI hC fF_X10_267 lkR_0_49 dX10_lorry_110 ?_
    refine g_iconst (v := (-1)) hC (by decide) dX10_lorry_113 ?_
    obtain ⟨g25, h⟩ := gq_g_i h
    refine g_iast hC arR_47 (gq_in_i g25) dX10_lorry_114 ?_
    refine g_topM (fun M26 hM26 => ?_)
    replace h := gq_l_i hM26 h
    refine g_aload_n hC 0 rfl rfl dX10_lorry_115 ?_
    refine g_dup hC rfl dX10_lorry_116 ?_
    refine g_getI hC fF_X10_267 lkR_0_49 dX10_lorry_117 ?_
    refine g_iconst (v := 1) hC (by decide) dX10_lorry_120 ?_
    refine g_iadd hC dX10_lorry_121 ?_
    refine g_putI hC fG_X10_267 lkR_0_49 dX10_lorry_122 ?_
    refine g_topM (fun M27 hM27 => ?_)
    replace h := gq_l_i hM27 h
    refine g_aload_n hC 0 rfl rfl dX10_lorry_125 ?_
    refine g_getI hC fF_X10_267 lkR_0_49 dX10_lorry_126 ?_
    refine g_iconst (v := 1) hC (by decide) dX10_lorry_129 ?_
    refine g_isub hC dX10_lorry_130 ?_
    exact g_irets hC hr h dX10_lorry_131
  · replace h := gq_f c18 h
    refine g_iconst (v := 0) hC (by decide) dX10_lorry_73 ?_
    exact g_irets hC hr h dX10_lorry_74
def f_X10_lorry_30 (N : Nat) (x1 : Int32) (x2 : Int32) (x3 : Int32) (s0 : Int32) (M : gq_M) : Option (Int32 × gq_M) :=
  gq_b (f_X10_isEight N x1 M) fun v9 M10 => if v9 = 0 then (f_X10_lorry_67 N  x1 x2 x3 1 M10) else (if s0 = 0 then (f_X10_lorry_67 N  x1 x2 x3 2 M10) else (if (M10 0 49) = 20 then (f_X10_lorry_67 N  x1 x2 x3 3 M10) else (f_X10_lorry_67 N  x1 x2 x3 0 M10)))
set_option maxHeartbeats 1000000 in
set_option maxRecDepth 20000 in
theorem t_X10_lorry_30 {N : Nat} {v9 : Int32} {M9 : gq_M} (hC : gq_C p s m args meth c D A cI cZ ad mtR RX10 cX10_lorry 5) (hr : meth.sig.returnType = (some .int))   : ∀ (x1 : Int32) (x2 : Int32) (x3 : Int32) (s0 : Int32) (M : gq_M), f_X10_lorry_30 N  x1 x2 x3 s0 M = some (v9, M9) → gq_W p l e (gq_rm 2) s m args below meth c D A cI cZ ad mtR 5 (MQ below (gq_Qi D cI cZ ad mtR v9 M9 A) args s 0 0 A) 30 [(0, .ref (ad 0)), (1, .int x1), (2, .int x2), (3, .int x3)] [.int s0] M 0 0 := by
  intro x1 x2 x3 s0 M h
  unfold f_X10_lorry_30 at h
  refine g_istore (L2 := [(4, .int s0), (0, .ref (ad 0)), (1, .int x1), (2, .int x2), (3, .int x3)]) hC (by decide) rfl dX10_lorry_30 ?_
  refine g_aload_n hC 1 rfl rfl dX10_lorry_32 ?_
  refine g_iload_n hC 2 rfl rfl dX10_lorry_33 ?_
  obtain ⟨v9, M10, c11, h⟩ := gq_b_i h
  refine g_Si (as := [.int x1]) hC (t_X10_isEight N _ _ _ _ c11) mS_X10_isEight wm_X10_170 rfl rfl (Nat.le_of_ble_eq_true rfl) ⟨by decide, by decide⟩ ⟨by decide, by decide⟩ dX10_lorry_34 ?_
  refine g_if_ne (tgt := 44) hC (by decide) dX10_lorry_37 (fun c12 => ?_) (fun c12 => ?_)
  · replace h := gq_f c12 h
    refine g_iload hC 0 rfl dX10_lorry_44 ?_
    refine g_if_ne (tgt := 53) hC (by decide) dX10_lorry_46 (fun c13 => ?_) (fun c13 => ?_)
    · replace h := gq_f c13 h
      refine g_aload_n hC 1 rfl rfl dX10_lorry_53 ?_
      refine g_getI hC fF_X10_267 lkR_0_49 dX10_lorry_54 ?_
      refine g_bipush (v := 20) hC (by decide) dX10_lorry_57 ?_
      refine g_icmp_ne (tgt := 66) hC (by decide) dX10_lorry_59 (fun c14 => ?_) (fun c14 => ?_)
      · replace h := gq_f c14 h
        refine g_iconst (v := 0) hC (by decide) dX10_lorry_66 ?_
        exact g_weak [1, 2, 3, 4] rfl (t_X10_lorry_67 hC hr  x1 x2 x3 0 M10 h)
      · replace h := gq_t c14 h
        refine g_iconst (v := 3) hC (by decide) dX10_lorry_62 ?_
        refine g_goto (tgt := 67) hC (by decide) dX10_lorry_63 ?_
        exact g_weak [1, 2, 3, 4] rfl (t_X10_lorry_67 hC hr  x1 x2 x3 3 M10 h)
    · replace h := gq_t c13 h
      refine g_iconst (v := 2) hC (by decide) dX10_lorry_49 ?_
      refine g_goto (tgt := 67) hC (by decide) dX10_lorry_50 ?_
      exact g_weak [1, 2, 3, 4] rfl (t_X10_lorry_67 hC hr  x1 x2 x3 2 M10 h)
  · replace h := gq_t c12 h
    refine g_iconst (v := 1) hC (by decide) dX10_lorry_40 ?_
    refine g_goto (tgt := 67) hC (by decide) dX10_lorry_41 ?_
    exact g_weak [1, 2, 3, 4] rfl (t_X10_lorry_67 hC hr  x1 x2 x3 1 M10 h)
def f_X10_lorry_29 (N : Nat) (x1 : Int32) (x2 : Int32) (x3 : Int32) (M : gq_M) : Option (Int32 × gq_M) :=
  f_X10_lorry_30 N  x1 x2 x3 0 M
set_option maxHeartbeats 1000000 in
set_option maxRecDepth 20000 in
theorem t_X10_lorry_29 {N : Nat} {v9 : Int32} {M9 : gq_M} (hC : gq_C p s m args meth c D A cI cZ ad mtR RX10 cX10_lorry 5) (hr : meth.sig.returnType = (some .int))   : ∀ (x1 : Int32) (x2 : Int32) (x3 : Int32) (M : gq_M), f_X10_lorry_29 N  x1 x2 x3 M = some (v9, M9) → gq_W p l e (gq_rm 2) s m args below meth c D A cI cZ ad mtR 5 (MQ below (gq_Qi D cI cZ ad mtR v9 M9 A) args s 0 0 A) 29 [(0, .ref (ad 0)), (1, .int x1), (2, .int x2), (3, .int x3)] [] M 0 0 := by
  intro x1 x2 x3 M h
  unfold f_X10_lorry_29 at h
  refine g_iconst (v := 0) hC (by decide) dX10_lorry_29 ?_
  exact g_weak [0, 1, 2, 3] rfl (t_X10_lorry_30 hC hr  x1 x2 x3 0 M h)
def f_X10_lorry (N : Nat) (a1 : Int32) (a2 : Int32) (a3 : Int32) (M : gq_M) : Option (Int32 × gq_M) :=
  gq_b (f_X10_isIn N a2 ((M 0 0) + 1) 100000 M) fun v1 M2 => if v1 = 0 then (f_X10_lorry_29 N  a1 a2 a3 M2) else (gq_b (f_X10_isIn N a3 1 50 M2) fun v5 M6 => if v5 = 0 then (f_X10_lorry_29 N  a1 a2 a3 M6) else (f_X10_lorry_30 N  a1 a2 a3 1 M6))
set_option maxHeartbeats 1000000 in
set_option maxRecDepth 20000 in
theorem t_X10_lorry {l : Launch} {D : va_G} {cI cZ : ClassId} {ad : Nat → Nat} (N : Nat) (a1 : Int32) (a2 : Int32) (a3 : Int32) (M : gq_M) (v9 : Int32) (M9 : gq_M) (h : f_X10_lorry N a1 a2 a3 M = some (v9, M9)) : gq_Ci l D cI cZ ad mtR yX10_lorry cX10_lorry 5 (some .int) 2 [.ref (ad 0), .int a1, .int a2, .int a3] M v9 M9 := by
  refine gq_introI (own := RX10) (by decide) rfl (Nat.le_of_ble_eq_true rfl) ?_
  intro p e s m below meth c hC hr
  refine g_cast (L2 := [(0, .ref (ad 0)), (1, .int a1), (2, .int a2), (3, .int a3)]) ?_ rfl rfl rfl rfl
  unfold f_X10_lorry at h
  refine g_iload_n hC 2 rfl rfl dX10_lorry_0 ?_
  refine g_aload_n hC 0 rfl rfl dX10_lorry_1 ?_
  refine g_getI hC fF_X10_224 lkR_0_0 dX10_lorry_2 ?_
  refine g_iconst (v := 1) hC (by decide) dX10_lorry_5 ?_
  refine g_iadd hC dX10_lorry_6 ?_
  refine g_ldc (v := 100000) hC wk_X10_177 dX10_lorry_7 ?_
  obtain ⟨v1, M2, c3, h⟩ := gq_b_i h
  refine g_Si (as := [.int a2, .int ((M 0 0) + 1), .int 100000]) hC (t_X10_isIn N _ _ _ _ _ _ c3) mS_X10_isIn wm_X10_163 rfl rfl (Nat.le_of_ble_eq_true rfl) ⟨by decide, by decide⟩ ⟨by decide, by decide⟩ dX10_lorry_9 ?_
  refine g_if_eq (tgt := 29) hC (by decide) dX10_lorry_12 (fun c4 => ?_) (fun c4 => ?_)
  · replace h := gq_t c4 h
    exact g_weak [0, 1, 2, 3] rfl (t_X10_lorry_29 hC hr  a1 a2 a3 M2 h)
  · replace h := gq_f c4 h
    refine g_iload_n hC 3 rfl rfl dX10_lorry_15 ?_
    refine g_iconst (v := 1) hC (by decide) dX10_lorry_16 ?_
    refine g_bipush (v := 50) hC (by decide) dX10_lorry_17 ?_
    obtain ⟨v5, M6, c7, h⟩ := gq_b_i h
    refine g_Si (as := [.int a3, .int 1, .int 50]) hC (t_X10_isIn N _ _ _ _ _ _ c7) mS_X10_isIn wm_X10_163 rfl rfl (Nat.le_of_ble_eq_true rfl) ⟨by decide, by decide⟩ ⟨by decide, by decide⟩ dX10_lorry_19 ?_
    refine g_if_eq (tgt := 29) hC (by decide) dX10_lorry_22 (fun c8 => ?_) (fun c8 => ?_)
    · replace h := gq_t c8 h
      exact g_weak [0, 1, 2, 3] rfl (t_X10_lorry_29 hC hr  a1 a2 a3 M6 h)
    · replace h := gq_f c8 h
      refine g_iconst (v := 1) hC (by decide) dX10_lorry_25 ?_
      refine g_goto (tgt := 30) hC (by decide) dX10_lorry_26 ?_
      exact g_weak [0, 1, 2, 3] rfl (t_X10_lorry_30 hC hr  a1 a2 a3 1 M6 h)
def f_X10_areCents (N : Nat) (a0 : Int32) (M : gq_M) : Option (Int32 × gq_M) :=
  gq_b (f_X10_isIn N a0 1 100000000 M) fun v1 M2 => gq_g (gq_bb v1) (some (v1, M2))
set_option maxHeartbeats 1000000 in
set_option maxRecDepth 20000 in
theorem t_X10_areCents {l : Launch} {D : va_G} {cI cZ : ClassId} {ad : Nat → Nat} (N : Nat) (a0 : Int32) (M : gq_M) (v9 : Int32) (M9 : gq_M) (h : f_X10_areCents N a0 M = some (v9, M9)) : gq_Ci l D cI cZ ad mtR yX10_areCents cX10_areCents 1 (some .boolean) 1 [.int a0] M v9 M9 := by
  refine gq_introI (own := RX10) (by decide) rfl (Nat.le_of_ble_eq_true rfl) ?_
  intro p e s m below meth c hC hr
  refine g_cast (L2 := [(0, .int a0)]) ?_ rfl rfl rfl rfl
  unfold f_X10_areCents at h
  refine g_iload_n hC 0 rfl rfl dX10_areCents_0 ?_
  refine g_iconst (v := 1) hC (by decide) dX10_areCents_1 ?_
  refine g_ldc (v := 100000000) hC wk_X10_184 dX10_areCents_2 ?_
  obtain ⟨v1, M2, c3, h⟩ := gq_b_i h
  refine g_Si (as := [.int a0, .int 1, .int 100000000]) hC (t_X10_isIn N _ _ _ _ _ _ c3) mS_X10_isIn wm_X10_163 rfl rfl (Nat.le_of_ble_eq_true rfl) ⟨by decide, by decide⟩ ⟨by decide, by decide⟩ dX10_areCents_4 ?_
  obtain ⟨g4, h⟩ := gq_g_i h
  exact g_zrets hC hr (gq_bb_i g4) h dX10_areCents_7
def f_X10_pay_62 (N : Nat) (x1 : Int32) (s0 : Int32) (M : gq_M) : Option (Int32 × gq_M) :=
  gq_g (gq_in x1 8) (gq_l (M 11 x1.toNatClampNeg) fun v20 => gq_g (gq_in x1 8) (gq_l (gq_up M 11 x1.toNatClampNeg (v20 - s0)) fun M22 => some (s0, M22)))
set_option maxHeartbeats 1000000 in
set_option maxRecDepth 20000 in
theorem t_X10_pay_62 {N : Nat} {v9 : Int32} {M9 : gq_M} (hC : gq_C p s m args meth c D A cI cZ ad mtR RX10 cX10_pay 4) (hr : meth.sig.returnType = (some .int))   : ∀ (x1 : Int32) (s0 : Int32) (M : gq_M), f_X10_pay_62 N  x1 s0 M = some (v9, M9) → gq_W p l e (gq_rm 2) s m args below meth c D A cI cZ ad mtR 4 (MQ below (gq_Qi D cI cZ ad mtR v9 M9 A) args s 0 0 A) 62 [(0, .ref (ad 0)), (1, .int x1)] [.int s0] M 0 0 := by
  intro x1 s0 M h
  unfold f_X10_pay_62 at h
  refine g_istore_n (L2 := [(3, .int s0), (0, .ref (ad 0)), (1, .int x1)]) hC rfl (by decide) rfl dX10_pay_62 ?_
  refine g_aload_n hC 1 rfl rfl dX10_pay_63 ?_
  refine g_getR hC fF_X10_45 lkR_0_14 dX10_pay_64 ?_
  refine g_iload_n hC 2 rfl rfl dX10_pay_67 ?_
  refine g_dup2 hC rfl rfl dX10_pay_68 ?_
  obtain ⟨g19, h⟩ := gq_g_i h
  refine g_iald hC arR_11 (gq_in_i g19) dX10_pay_69 ?_
  refine g_topi (fun v20 hv20 => ?_)
  replace h := gq_l_i hv20 h
  refine g_iload_n hC 0 rfl rfl dX10_pay_70 ?_
  refine g_isub hC dX10_pay_71 ?_
  obtain ⟨g21, h⟩ := gq_g_i h
  refine g_iast hC arR_11 (gq_in_i g21) dX10_pay_72 ?_
  refine g_topM (fun M22 hM22 => ?_)
  replace h := gq_l_i hM22 h
  refine g_iload_n hC 0 rfl rfl dX10_pay_73 ?_
  exact g_irets hC hr h dX10_pay_74
def f_X10_pay_52 (N : Nat) (x1 : Int32) (s0 : Int32) (M : gq_M) : Option (Int32 × gq_M) :=
  if 0 ≤ s0 then (f_X10_pay_62 N  x1 s0 M) else (f_X10_pay_62 N  x1 0 M)
set_option maxHeartbeats 1000000 in
set_option maxRecDepth 20000 in
theorem t_X10_pay_52 {N : Nat} {v9 : Int32} {M9 : gq_M} (hC : gq_C p s m args meth c D A cI cZ ad mtR RX10 cX10_pay 4) (hr : meth.sig.returnType = (some .int))   : ∀ (x1 : Int32) (s0 : Int32) (M : gq_M), f_X10_pay_52 N  x1 s0 M = some (v9, M9) → gq_W p l e (gq_rm 2) s m args below meth c D A cI cZ ad mtR 4 (MQ below (gq_Qi D cI cZ ad mtR v9 M9 A) args s 0 0 A) 52 [(0, .ref (ad 0)), (1, .int x1)] [.int s0] M 0 0 := by
  intro x1 s0 M h
  unfold f_X10_pay_52 at h
  refine g_istore_n (L2 := [(3, .int s0), (0, .ref (ad 0)), (1, .int x1)]) hC rfl (by decide) rfl dX10_pay_52 ?_
  refine g_iload_n hC 0 rfl rfl dX10_pay_53 ?_
  refine g_if_ge (tgt := 61) hC (by decide) dX10_pay_54 (fun c18 => ?_) (fun c18 => ?_)
  · replace h := gq_t c18 h
    refine g_iload_n hC 0 rfl rfl dX10_pay_61 ?_
    exact g_weak [1, 2] rfl (t_X10_pay_62 hC hr  x1 s0 M h)
  · replace h := gq_f c18 h
    refine g_iconst (v := 0) hC (by decide) dX10_pay_57 ?_
    refine g_goto (tgt := 62) hC (by decide) dX10_pay_58 ?_
    exact g_weak [1, 2] rfl (t_X10_pay_62 hC hr  x1 0 M h)
def f_X10_pay_24 (N : Nat) (x1 : Int32) (x2 : Int32) (s1 : Int32) (M : gq_M) : Option (Int32 × gq_M) :=
  gq_b (f_X10_fails N s1 M) fun v9 M10 => if v9 = 0 then (gq_g (gq_in x1 8) (gq_l (M10 11 x1.toNatClampNeg) fun v14 => if x2 ≤ v14 then (f_X10_pay_52 N  x1 x2 M10) else (gq_g (gq_in x1 8) (gq_l (M10 11 x1.toNatClampNeg) fun v17 => f_X10_pay_52 N  x1 v17 M10)))) else (some (0, M10))
set_option maxHeartbeats 1000000 in
set_option maxRecDepth 20000 in
theorem t_X10_pay_24 {N : Nat} {v9 : Int32} {M9 : gq_M} (hC : gq_C p s m args meth c D A cI cZ ad mtR RX10 cX10_pay 4) (hr : meth.sig.returnType = (some .int))   : ∀ (x1 : Int32) (x2 : Int32) (s1 : Int32) (M : gq_M), f_X10_pay_24 N  x1 x2 s1 M = some (v9, M9) → gq_W p l e (gq_rm 2) s m args below meth c D A cI cZ ad mtR 4 (MQ below (gq_Qi D cI cZ ad mtR v9 M9 A) args s 0 0 A) 24 [(0, .ref (ad 0)), (1, .int x1), (2, .int x2)] [.int s1, .ref (ad 0)] M 0 0 := by
  intro x1 x2 s1 M h
  unfold f_X10_pay_24 at h
  obtain ⟨v9, M10, c11, h⟩ := gq_b_i h
  refine g_Vi (as := [.int s1]) hC (t_X10_fails N _ _ _ _ c11) mV_X10_fails  wm_X10_178 obR_0 rfl rfl (Nat.le_of_ble_eq_true rfl) ⟨by decide, by decide⟩ ⟨by decide, by decide⟩ dX10_pay_24 ?_
  refine g_if_eq (tgt := 32) hC (by decide) dX10_pay_27 (fun c12 => ?_) (fun c12 => ?_)
  · replace h := gq_t c12 h
    refine g_aload_n hC 0 rfl rfl dX10_pay_32 ?_
    refine g_getR hC fF_X10_45 lkR_0_14 dX10_pay_33 ?_
    refine g_iload_n hC 1 rfl rfl dX10_pay_36 ?_
    obtain ⟨g13, h⟩ := gq_g_i h
    refine g_iald hC arR_11 (gq_in_i g13) dX10_pay_37 ?_
    refine g_topi (fun v14 hv14 => ?_)
    replace h := gq_l_i hv14 h
    refine g_iload_n hC 2 rfl rfl dX10_pay_38 ?_
    refine g_icmp_ge (tgt := 51) hC (by decide) dX10_pay_39 (fun c15 => ?_) (fun c15 => ?_)
    · replace h := gq_t c15 h
      refine g_iload_n hC 2 rfl rfl dX10_pay_51 ?_
      exact g_weak [0, 1] rfl (t_X10_pay_52 hC hr  x1 x2 M10 h)
    · replace h := gq_f c15 h
      refine g_aload_n hC 0 rfl rfl dX10_pay_42 ?_
      refine g_getR hC fF_X10_45 lkR_0_14 dX10_pay_43 ?_
      refine g_iload_n hC 1 rfl rfl dX10_pay_46 ?_
      obtain ⟨g16, h⟩ := gq_g_i h
      refine g_iald hC arR_11 (gq_in_i g16) dX10_pay_47 ?_
      refine g_topi (fun v17 hv17 => ?_)
      replace h := gq_l_i hv17 h
      refine g_goto (tgt := 52) hC (by decide) dX10_pay_48 ?_
      exact g_weak [0, 1] rfl (t_X10_pay_52 hC hr  x1 v17 M10 h)
  · replace h := gq_f c12 h
    refine g_iconst (v := 0) hC (by decide) dX10_pay_30 ?_
    exact g_irets hC hr h dX10_pay_31
def f_X10_pay (N : Nat) (a1 : Int32) (a2 : Int32) (M : gq_M) : Option (Int32 × gq_M) :=
  gq_b (f_X10_isEight N a1 M) fun v1 M2 => if v1 = 0 then (f_X10_pay_24 N  a1 a2 1 M2) else (gq_b (f_X10_areCents N a2 M2) fun v5 M6 => if v5 = 0 then (f_X10_pay_24 N  a1 a2 2 M6) else (f_X10_pay_24 N  a1 a2 0 M6))
set_option maxHeartbeats 1000000 in
set_option maxRecDepth 20000 in
theorem t_X10_pay {l : Launch} {D : va_G} {cI cZ : ClassId} {ad : Nat → Nat} (N : Nat) (a1 : Int32) (a2 : Int32) (M : gq_M) (v9 : Int32) (M9 : gq_M) (h : f_X10_pay N a1 a2 M = some (v9, M9)) : gq_Ci l D cI cZ ad mtR yX10_pay cX10_pay 4 (some .int) 2 [.ref (ad 0), .int a1, .int a2] M v9 M9 := by
  refine gq_introI (own := RX10) (by decide) rfl (Nat.le_of_ble_eq_true rfl) ?_
  intro p e s m below meth c hC hr
  refine g_cast (L2 := [(0, .ref (ad 0)), (1, .int a1), (2, .int a2)]) ?_ rfl rfl rfl rfl
  unfold f_X10_pay at h
  refine g_aload_n hC 0 rfl rfl dX10_pay_0 ?_
  refine g_iload_n hC 1 rfl rfl dX10_pay_1 ?_
  obtain ⟨v1, M2, c3, h⟩ := gq_b_i h
  refine g_Si (as := [.int a1]) hC (t_X10_isEight N _ _ _ _ c3) mS_X10_isEight wm_X10_170 rfl rfl (Nat.le_of_ble_eq_true rfl) ⟨by decide, by decide⟩ ⟨by decide, by decide⟩ dX10_pay_2 ?_
  refine g_if_ne (tgt := 12) hC (by decide) dX10_pay_5 (fun c4 => ?_) (fun c4 => ?_)
  · replace h := gq_f c4 h
    refine g_iload_n hC 2 rfl rfl dX10_pay_12 ?_
    obtain ⟨v5, M6, c7, h⟩ := gq_b_i h
    refine g_Si (as := [.int a2]) hC (t_X10_areCents N _ _ _ _ c7) mS_X10_areCents wm_X10_276 rfl rfl (Nat.le_of_ble_eq_true rfl) ⟨by decide, by decide⟩ ⟨by decide, by decide⟩ dX10_pay_13 ?_
    refine g_if_eq (tgt := 23) hC (by decide) dX10_pay_16 (fun c8 => ?_) (fun c8 => ?_)
    · replace h := gq_t c8 h
      refine g_iconst (v := 2) hC (by decide) dX10_pay_23 ?_
      exact g_weak [0, 1, 2] rfl (t_X10_pay_24 hC hr  a1 a2 2 M6 h)
    · replace h := gq_f c8 h
      refine g_iconst (v := 0) hC (by decide) dX10_pay_19 ?_
      refine g_goto (tgt := 24) hC (by decide) dX10_pay_20 ?_
      exact g_weak [0, 1, 2] rfl (t_X10_pay_24 hC hr  a1 a2 0 M6 h)
  · replace h := gq_t c4 h
    refine g_iconst (v := 1) hC (by decide) dX10_pay_8 ?_
    refine g_goto (tgt := 24) hC (by decide) dX10_pay_9 ?_
    exact g_weak [0, 1, 2] rfl (t_X10_pay_24 hC hr  a1 a2 1 M2 h)
def f_X10_claim_130 (N : Nat) (x1 : Int32) (x2 : Int32) (s0 : Int32) (M : gq_M) : Option (Int32 × gq_M) :=
  gq_g (gq_in x1 8) (gq_l (M 11 x1.toNatClampNeg) fun v35 => gq_g (gq_in x1 8) (gq_l (gq_up M 11 x1.toNatClampNeg (v35 - s0)) fun M37 => gq_g (gq_in x2 150) (gq_l (M37 13 x2.toNatClampNeg) fun v39 => gq_g (gq_in v39 8) (gq_l (M37 5 v39.toNatClampNeg) fun v41 => gq_g (gq_in v39 8) (gq_l (gq_up M37 5 v39.toNatClampNeg (v41 - s0)) fun M43 => some (s0, M43))))))
set_option maxHeartbeats 1000000 in
set_option maxRecDepth 20000 in
theorem t_X10_claim_130 {N : Nat} {v9 : Int32} {M9 : gq_M} (hC : gq_C p s m args meth c D A cI cZ ad mtR RX10 cX10_claim 6) (hr : meth.sig.returnType = (some .int))   : ∀ (x1 : Int32) (x2 : Int32) (s0 : Int32) (M : gq_M), f_X10_claim_130 N  x1 x2 s0 M = some (v9, M9) → gq_W p l e (gq_rm 2) s m args below meth c D A cI cZ ad mtR 6 (MQ below (gq_Qi D cI cZ ad mtR v9 M9 A) args s 0 0 A) 130 [(0, .ref (ad 0)), (1, .int x1), (2, .int x2)] [.int s0] M 0 0 := by
  intro x1 x2 s0 M h
  unfold f_X10_claim_130 at h
  refine g_istore (L2 := [(5, .int s0), (0, .ref (ad 0)), (1, .int x1), (2, .int x2)]) hC (by decide) rfl dX10_claim_130 ?_
  refine g_aload_n hC 1 rfl rfl dX10_claim_132 ?_
  refine g_getR hC fF_X10_45 lkR_0_14 dX10_claim_133 ?_
  refine g_iload_n hC 2 rfl rfl dX10_claim_136 ?_
  refine g_dup2 hC rfl rfl dX10_claim_137 ?_
  obtain ⟨g34, h⟩ := gq_g_i h
  refine g_iald hC arR_11 (gq_in_i g34) dX10_claim_138 ?_
  refine g_topi (fun v35 hv35 => ?_)
  replace h := gq_l_i hv35 h
  refine g_iload hC 0 rfl dX10_claim_139 ?_
  refine g_isub hC dX10_claim_141 ?_
  obtain ⟨g36, h⟩ := gq_g_i h
  refine g_iast hC arR_11 (gq_in_i g36) dX10_claim_142 ?_
  refine g_topM (fun M37 hM37 => ?_)
  replace h := gq_l_i hM37 h
  refine g_aload_n hC 1 rfl rfl dX10_claim_143 ?_
  refine g_getR hC fF_X10_27 lkR_0_8 dX10_claim_144 ?_
  refine g_aload_n hC 1 rfl rfl dX10_claim_147 ?_
  refine g_getR hC fF_X10_51 lkR_0_17 dX10_claim_148 ?_
  refine g_iload_n hC 3 rfl rfl dX10_claim_151 ?_
  obtain ⟨g38, h⟩ := gq_g_i h
  refine g_iald hC arR_13 (gq_in_i g38) dX10_claim_152 ?_
  refine g_topi (fun v39 hv39 => ?_)
  replace h := gq_l_i hv39 h
  refine g_dup2 hC rfl rfl dX10_claim_153 ?_
  obtain ⟨g40, h⟩ := gq_g_i h
  refine g_iald hC arR_5 (gq_in_i g40) dX10_claim_154 ?_
  refine g_topi (fun v41 hv41 => ?_)
  replace h := gq_l_i hv41 h
  refine g_iload hC 0 rfl dX10_claim_155 ?_
  refine g_isub hC dX10_claim_157 ?_
  obtain ⟨g42, h⟩ := gq_g_i h
  refine g_iast hC arR_5 (gq_in_i g42) dX10_claim_158 ?_
  refine g_topM (fun M43 hM43 => ?_)
  replace h := gq_l_i hM43 h
  refine g_iload hC 0 rfl dX10_claim_159 ?_
  exact g_irets hC hr h dX10_claim_161
def f_X10_claim_71 (N : Nat) (x1 : Int32) (x2 : Int32) (s1 : Int32) (M : gq_M) : Option (Int32 × gq_M) :=
  gq_b (f_X10_fails N s1 M) fun v19 M20 => if v19 = 0 then (gq_g (gq_in x2 150) (gq_l (gq_up M20 25 x2.toNatClampNeg 1) fun M24 => gq_g (gq_in x2 150) (gq_l (M24 17 x2.toNatClampNeg) fun v26 => gq_g (gq_in x2 150) (gq_l (M24 18 x2.toNatClampNeg) fun v28 => gq_g (gq_in x2 150) (gq_l (M24 17 x2.toNatClampNeg) fun v30 => if ((v26 - v28) * 100) ≤ (3 * v30) then (f_X10_claim_130 N  x1 x2 0 M24) else (gq_g (gq_in x2 150) (gq_l (M24 22 x2.toNatClampNeg) fun v33 => f_X10_claim_130 N  x1 x2 ((v26 - v28) * v33) M24))))))) else (some (0, M20))
set_option maxHeartbeats 1000000 in
set_option maxRecDepth 20000 in
theorem t_X10_claim_71 {N : Nat} {v9 : Int32} {M9 : gq_M} (hC : gq_C p s m args meth c D A cI cZ ad mtR RX10 cX10_claim 6) (hr : meth.sig.returnType = (some .int))   : ∀ (x1 : Int32) (x2 : Int32) (s1 : Int32) (M : gq_M), f_X10_claim_71 N  x1 x2 s1 M = some (v9, M9) → gq_W p l e (gq_rm 2) s m args below meth c D A cI cZ ad mtR 6 (MQ below (gq_Qi D cI cZ ad mtR v9 M9 A) args s 0 0 A) 71 [(0, .ref (ad 0)), (1, .int x1), (2, .int x2)] [.int s1, .ref (ad 0)] M 0 0 := by
  intro x1 x2 s1 M h
  unfold f_X10_claim_71 at h
  obtain ⟨v19, M20, c21, h⟩ := gq_b_i h
  refine g_Vi (as := [.int s1]) hC (t_X10_fails N _ _ _ _ c21) mV_X10_fails  wm_X10_178 obR_0 rfl rfl (Nat.le_of_ble_eq_true rfl) ⟨by decide, by decide⟩ ⟨by decide, by decide⟩ dX10_claim_71 ?_
  refine g_if_eq (tgt := 79) hC (by decide) dX10_claim_74 (fun c22 => ?_) (fun c22 => ?_)
  · replace h := gq_t c22 h
    refine g_aload_n hC 0 rfl rfl dX10_claim_79 ?_
    refine g_getR hC fF_X10_87 lkR_0_29 dX10_claim_80 ?_
    refine g_iload_n hC 2 rfl rfl dX10_claim_83 ?_
    refine g_iconst (v := 1) hC (by decide) dX10_claim_84 ?_
    obtain ⟨g23, h⟩ := gq_g_i h
    refine g_zast hC arR_25 (gq_in_i g23) gq_bit1 dX10_claim_85 ?_
    refine g_topM (fun M24 hM24 => ?_)
    replace h := gq_l_i hM24 h
    refine g_aload_n hC 0 rfl rfl dX10_claim_86 ?_
    refine g_getR hC fF_X10_63 lkR_0_21 dX10_claim_87 ?_
    refine g_iload_n hC 2 rfl rfl dX10_claim_90 ?_
    obtain ⟨g25, h⟩ := gq_g_i h
    refine g_iald hC arR_17 (gq_in_i g25) dX10_claim_91 ?_
    refine g_topi (fun v26 hv26 => ?_)
    replace h := gq_l_i hv26 h
    refine g_aload_n hC 0 rfl rfl dX10_claim_92 ?_
    refine g_getR hC fF_X10_66 lkR_0_22 dX10_claim_93 ?_
    refine g_iload_n hC 2 rfl rfl dX10_claim_96 ?_
    obtain ⟨g27, h⟩ := gq_g_i h
    refine g_iald hC arR_18 (gq_in_i g27) dX10_claim_97 ?_
    refine g_topi (fun v28 hv28 => ?_)
    replace h := gq_l_i hv28 h
    refine g_isub hC dX10_claim_98 ?_
    refine g_istore (L2 := [(4, .int (v26 - v28)), (0, .ref (ad 0)), (1, .int x1), (2, .int x2)]) hC (by decide) rfl dX10_claim_99 ?_
    refine g_iload hC 0 rfl dX10_claim_101 ?_
    refine g_bipush (v := 100) hC (by decide) dX10_claim_103 ?_
    refine g_imul hC dX10_claim_105 ?_
    refine g_iconst (v := 3) hC (by decide) dX10_claim_106 ?_
    refine g_aload_n hC 1 rfl rfl dX10_claim_107 ?_
    refine g_getR hC fF_X10_63 lkR_0_21 dX10_claim_108 ?_
    refine g_iload_n hC 3 rfl rfl dX10_claim_111 ?_
    obtain ⟨g29, h⟩ := gq_g_i h
    refine g_iald hC arR_17 (gq_in_i g29) dX10_claim_112 ?_
    refine g_topi (fun v30 hv30 => ?_)
    replace h := gq_l_i hv30 h
    refine g_imul hC dX10_claim_113 ?_
    refine g_icmp_le (tgt := 129) hC (by decide) dX10_claim_114 (fun c31 => ?_) (fun c31 => ?_)
    · replace h := gq_t c31 h
      refine g_iconst (v := 0) hC (by decide) dX10_claim_129 ?_
      exact g_weak [1, 2, 3] rfl (t_X10_claim_130 hC hr  x1 x2 0 M24 h)
    · replace h := gq_f c31 h
      refine g_iload hC 0 rfl dX10_claim_117 ?_
      refine g_aload_n hC 1 rfl rfl dX10_claim_119 ?_
      refine g_getR hC fF_X10_78 lkR_0_26 dX10_claim_120 ?_
      refine g_iload_n hC 3 rfl rfl dX10_claim_123 ?_
      obtain ⟨g32, h⟩ := gq_g_i h
      refine g_iald hC arR_22 (gq_in_i g32) dX10_claim_124 ?_
      refine g_topi (fun v33 hv33 => ?_)
      replace h := gq_l_i hv33 h
      refine g_imul hC dX10_claim_125 ?_
      refine g_goto (tgt := 130) hC (by decide) dX10_claim_126 ?_
      exact g_weak [1, 2, 3] rfl (t_X10_claim_130 hC hr  x1 x2 ((v26 - v28) * v33) M24 h)
  · replace h := gq_f c22 h
    refine g_iconst (v := 0) hC (by decide) dX10_claim_77 ?_
    exact g_irets hC hr h dX10_claim_78
def f_X10_claim_66 (N : Nat) (x1 : Int32) (x2 : Int32) (M : gq_M) : Option (Int32 × gq_M) :=
  f_X10_claim_71 N  x1 x2 2 M
set_option maxHeartbeats 1000000 in
set_option maxRecDepth 20000 in
theorem t_X10_claim_66 {N : Nat} {v9 : Int32} {M9 : gq_M} (hC : gq_C p s m args meth c D A cI cZ ad mtR RX10 cX10_claim 6) (hr : meth.sig.returnType = (some .int))   : ∀ (x1 : Int32) (x2 : Int32) (M : gq_M), f_X10_claim_66 N  x1 x2 M = some (v9, M9) → gq_W p l e (gq_rm 2) s m args below meth c D A cI cZ ad mtR 6 (MQ below (gq_Qi D cI cZ ad mtR v9 M9 A) args s 0 0 A) 66 [(0, .ref (ad 0)), (1, .int x1), (2, .int x2)] [.ref (ad 0)] M 0 0 := by
  intro x1 x2 M h
  unfold f_X10_claim_66 at h
  refine g_iconst (v := 2) hC (by decide) dX10_claim_66 ?_
  refine g_goto (tgt := 71) hC (by decide) dX10_claim_67 ?_
  exact g_weak [0, 1, 2] rfl (t_X10_claim_71 hC hr  x1 x2 2 M h)
def f_X10_claim_20 (N : Nat) (x1 : Int32) (x2 : Int32) (s0 : Int32) (M : gq_M) : Option (Int32 × gq_M) :=
  if s0 = 0 then (f_X10_claim_71 N  x1 x2 1 M) else (gq_g (gq_in x2 150) (gq_l (M 21 x2.toNatClampNeg) fun v11 => if v11 = x1 then (gq_g (gq_in x2 150) (gq_l (M 25 x2.toNatClampNeg) fun v14 => if v14 = 0 then (gq_g (gq_in x2 150) (gq_l (M 23 x2.toNatClampNeg) fun v17 => if (M 0 0) ≤ (v17 + 240) then (f_X10_claim_71 N  x1 x2 0 M) else (f_X10_claim_66 N  x1 x2 M))) else (f_X10_claim_66 N  x1 x2 M))) else (f_X10_claim_66 N  x1 x2 M)))
set_option maxHeartbeats 1000000 in
set_option maxRecDepth 20000 in
theorem t_X10_claim_20 {N : Nat} {v9 : Int32} {M9 : gq_M} (hC : gq_C p s m args meth c D A cI cZ ad mtR RX10 cX10_claim 6) (hr : meth.sig.returnType = (some .int))   : ∀ (x1 : Int32) (x2 : Int32) (s0 : Int32) (M : gq_M), f_X10_claim_20 N  x1 x2 s0 M = some (v9, M9) → gq_W p l e (gq_rm 2) s m args below meth c D A cI cZ ad mtR 6 (MQ below (gq_Qi D cI cZ ad mtR v9 M9 A) args s 0 0 A) 20 [(0, .ref (ad 0)), (1, .int x1), (2, .int x2)] [.int s0] M 0 0 := by
  intro x1 x2 s0 M h
  unfold f_X10_claim_20 at h
  refine g_istore_n (L2 := [(3, .int s0), (0, .ref (ad 0)), (1, .int x1), (2, .int x2)]) hC rfl (by decide) rfl dX10_claim_20 ?_
  refine g_aload_n hC 1 rfl rfl dX10_claim_21 ?_
  refine g_iload_n hC 0 rfl rfl dX10_claim_22 ?_
  refine g_if_ne (tgt := 30) hC (by decide) dX10_claim_23 (fun c9 => ?_) (fun c9 => ?_)
  · replace h := gq_f c9 h
    refine g_aload_n hC 1 rfl rfl dX10_claim_30 ?_
    refine g_getR hC fF_X10_75 lkR_0_25 dX10_claim_31 ?_
    refine g_iload_n hC 3 rfl rfl dX10_claim_34 ?_
    obtain ⟨g10, h⟩ := gq_g_i h
    refine g_iald hC arR_21 (gq_in_i g10) dX10_claim_35 ?_
    refine g_topi (fun v11 hv11 => ?_)
    replace h := gq_l_i hv11 h
    refine g_iload_n hC 2 rfl rfl dX10_claim_36 ?_
    refine g_icmp_ne (tgt := 66) hC (by decide) dX10_claim_37 (fun c12 => ?_) (fun c12 => ?_)
    · replace h := gq_f c12 h
      exact g_weak [1, 2, 3] rfl (t_X10_claim_66 hC hr  x1 x2 M h)
    · replace h := gq_t c12 h
      refine g_aload_n hC 1 rfl rfl dX10_claim_40 ?_
      refine g_getR hC fF_X10_87 lkR_0_29 dX10_claim_41 ?_
      refine g_iload_n hC 3 rfl rfl dX10_claim_44 ?_
      obtain ⟨g13, h⟩ := gq_g_i h
      refine g_zald hC arR_25 (gq_in_i g13) dX10_claim_45 ?_
      refine g_topi (fun v14 hv14 => ?_)
      replace h := gq_l_i hv14 h
      refine g_if_ne (tgt := 66) hC (by decide) dX10_claim_46 (fun c15 => ?_) (fun c15 => ?_)
      · replace h := gq_f c15 h
        exact g_weak [1, 2, 3] rfl (t_X10_claim_66 hC hr  x1 x2 M h)
      · replace h := gq_t c15 h
        refine g_aload_n hC 1 rfl rfl dX10_claim_49 ?_
        refine g_getI hC fF_X10_224 lkR_0_0 dX10_claim_50 ?_
        refine g_aload_n hC 1 rfl rfl dX10_claim_53 ?_
        refine g_getR hC fF_X10_81 lkR_0_27 dX10_claim_54 ?_
        refine g_iload_n hC 3 rfl rfl dX10_claim_57 ?_
        obtain ⟨g16, h⟩ := gq_g_i h
        refine g_iald hC arR_23 (gq_in_i g16) dX10_claim_58 ?_
        refine g_topi (fun v17 hv17 => ?_)
        replace h := gq_l_i hv17 h
        refine g_sipush (v := 240) hC (by decide) dX10_claim_59 ?_
        refine g_iadd hC dX10_claim_62 ?_
        refine g_icmp_le (tgt := 70) hC (by decide) dX10_claim_63 (fun c18 => ?_) (fun c18 => ?_)
        · replace h := gq_t c18 h
          refine g_iconst (v := 0) hC (by decide) dX10_claim_70 ?_
          exact g_weak [1, 2, 3] rfl (t_X10_claim_71 hC hr  x1 x2 0 M h)
        · replace h := gq_f c18 h
          exact g_weak [1, 2, 3] rfl (t_X10_claim_66 hC hr  x1 x2 M h)
  · replace h := gq_t c9 h
    refine g_iconst (v := 1) hC (by decide) dX10_claim_26 ?_
    refine g_goto (tgt := 71) hC (by decide) dX10_claim_27 ?_
    exact g_weak [1, 2, 3] rfl (t_X10_claim_71 hC hr  x1 x2 1 M h)
def f_X10_claim_19 (N : Nat) (x1 : Int32) (x2 : Int32) (M : gq_M) : Option (Int32 × gq_M) :=
  f_X10_claim_20 N  x1 x2 0 M
set_option maxHeartbeats 1000000 in
set_option maxRecDepth 20000 in
theorem t_X10_claim_19 {N : Nat} {v9 : Int32} {M9 : gq_M} (hC : gq_C p s m args meth c D A cI cZ ad mtR RX10 cX10_claim 6) (hr : meth.sig.returnType = (some .int))   : ∀ (x1 : Int32) (x2 : Int32) (M : gq_M), f_X10_claim_19 N  x1 x2 M = some (v9, M9) → gq_W p l e (gq_rm 2) s m args below meth c D A cI cZ ad mtR 6 (MQ below (gq_Qi D cI cZ ad mtR v9 M9 A) args s 0 0 A) 19 [(0, .ref (ad 0)), (1, .int x1), (2, .int x2)] [] M 0 0 := by
  intro x1 x2 M h
  unfold f_X10_claim_19 at h
  refine g_iconst (v := 0) hC (by decide) dX10_claim_19 ?_
  exact g_weak [0, 1, 2] rfl (t_X10_claim_20 hC hr  x1 x2 0 M h)
def f_X10_claim (N : Nat) (a1 : Int32) (a2 : Int32) (M : gq_M) : Option (Int32 × gq_M) :=
  gq_b (f_X10_isEight N a1 M) fun v1 M2 => if v1 = 0 then (f_X10_claim_19 N  a1 a2 M2) else (gq_b (f_X10_isBox N a2 M2) fun v5 M6 => if v5 = 0 then (f_X10_claim_19 N  a1 a2 M6) else (f_X10_claim_20 N  a1 a2 1 M6))
set_option maxHeartbeats 1000000 in
set_option maxRecDepth 20000 in
theorem t_X10_claim {l : Launch} {D : va_G} {cI cZ : ClassId} {ad : Nat → Nat} (N : Nat) (a1 : Int32) (a2 : Int32) (M : gq_M) (v9 : Int32) (M9 : gq_M) (h : f_X10_claim N a1 a2 M = some (v9, M9)) : gq_Ci l D cI cZ ad mtR yX10_claim cX10_claim 6 (some .int) 2 [.ref (ad 0), .int a1, .int a2] M v9 M9 := by
  refine gq_introI (own := RX10) (by decide) rfl (Nat.le_of_ble_eq_true rfl) ?_
  intro p e s m below meth c hC hr
  refine g_cast (L2 := [(0, .ref (ad 0)), (1, .int a1), (2, .int a2)]) ?_ rfl rfl rfl rfl
  unfold f_X10_claim at h
  refine g_iload_n hC 1 rfl rfl dX10_claim_0 ?_
  obtain ⟨v1, M2, c3, h⟩ := gq_b_i h
  refine g_Si (as := [.int a1]) hC (t_X10_isEight N _ _ _ _ c3) mS_X10_isEight wm_X10_170 rfl rfl (Nat.le_of_ble_eq_true rfl) ⟨by decide, by decide⟩ ⟨by decide, by decide⟩ dX10_claim_1 ?_
  refine g_if_eq (tgt := 19) hC (by decide) dX10_claim_4 (fun c4 => ?_) (fun c4 => ?_)
  · replace h := gq_t c4 h
    exact g_weak [0, 1, 2] rfl (t_X10_claim_19 hC hr  a1 a2 M2 h)
  · replace h := gq_f c4 h
    refine g_aload_n hC 0 rfl rfl dX10_claim_7 ?_
    refine g_iload_n hC 2 rfl rfl dX10_claim_8 ?_
    obtain ⟨v5, M6, c7, h⟩ := gq_b_i h
    refine g_Vi (as := [.int a2]) hC (t_X10_isBox N _ _ _ _ c7) mV_X10_isBox  wm_X10_279 obR_0 rfl rfl (Nat.le_of_ble_eq_true rfl) ⟨by decide, by decide⟩ ⟨by decide, by decide⟩ dX10_claim_9 ?_
    refine g_if_eq (tgt := 19) hC (by decide) dX10_claim_12 (fun c8 => ?_) (fun c8 => ?_)
    · replace h := gq_t c8 h
      exact g_weak [0, 1, 2] rfl (t_X10_claim_19 hC hr  a1 a2 M6 h)
    · replace h := gq_f c8 h
      refine g_iconst (v := 1) hC (by decide) dX10_claim_15 ?_
      refine g_goto (tgt := 20) hC (by decide) dX10_claim_16 ?_
      exact g_weak [0, 1, 2] rfl (t_X10_claim_20 hC hr  a1 a2 1 M6 h)
def f_X10_settle_124 (N : Nat) (s0 : Int32) (M : gq_M) : Option (Int32 × gq_M) :=
  some (s0, M)
set_option maxHeartbeats 1000000 in
set_option maxRecDepth 20000 in
theorem t_X10_settle_124 {N : Nat} {v9 : Int32} {M9 : gq_M} (hC : gq_C p s m args meth c D A cI cZ ad mtR RX10 cX10_settle 9) (hr : meth.sig.returnType = (some .int))   : ∀ (s0 : Int32) (M : gq_M), f_X10_settle_124 N  s0 M = some (v9, M9) → gq_W p l e (gq_rm 2) s m args below meth c D A cI cZ ad mtR 9 (MQ below (gq_Qi D cI cZ ad mtR v9 M9 A) args s 0 0 A) 124 [] [.int s0] M 0 0 := by
  intro s0 M h
  unfold f_X10_settle_124 at h
  exact g_irets hC hr h dX10_settle_124
def f_X10_settle_90 (N : Nat) (x1 : Int32) (x2 : Int32) (x3 : Int32) (s0 : Int64) (s1 : Int64) (M : gq_M) : Option (Int32 × gq_M) :=
  gq_g (gq_in x1 8) (gq_l (gq_up M 5 x1.toNatClampNeg 0) fun M22 => if 0 ≤ (lg_cmp ((s0 - s1) - (x2 : Int32).toInt64) 0) then (gq_l (((s0 - s1) - (x2 : Int32).toInt64) * (x3 : Int32).toInt64) fun v24 => f_X10_settle_124 N  ((v24 / 100) : Int64).toInt32 M22) else (f_X10_settle_124 N  0 M22))
set_option maxHeartbeats 1000000 in
set_option maxRecDepth 20000 in
theorem t_X10_settle_90 {N : Nat} {v9 : Int32} {M9 : gq_M} (hC : gq_C p s m args meth c D A cI cZ ad mtR RX10 cX10_settle 9) (hr : meth.sig.returnType = (some .int))   : ∀ (x1 : Int32) (x2 : Int32) (x3 : Int32) (s0 : Int64) (s1 : Int64) (M : gq_M), f_X10_settle_90 N  x1 x2 x3 s0 s1 M = some (v9, M9) → gq_W p l e (gq_rm 2) s m args below meth c D A cI cZ ad mtR 9 (MQ below (gq_Qi D cI cZ ad mtR v9 M9 A) args s 0 0 A) 90 [(0, .ref (ad 0)), (1, .int x1), (2, .int x2), (3, .int x3)] [.long s1, .long s0] M 0 0 := by
  intro x1 x2 x3 s0 s1 M h
  unfold f_X10_settle_90 at h
  refine g_lsub hC dX10_settle_90 ?_
  refine g_iload_n hC 2 rfl rfl dX10_settle_91 ?_
  refine g_i2l hC dX10_settle_92 ?_
  refine g_lsub hC dX10_settle_93 ?_
  refine g_lstore (L2 := [(7, .long ((s0 - s1) - (x2 : Int32).toInt64)), (0, .ref (ad 0)), (1, .int x1), (2, .int x2), (3, .int x3)]) hC (by decide) rfl dX10_settle_94 ?_
  refine g_aload_n hC 1 rfl rfl dX10_settle_96 ?_
  refine g_getR hC fF_X10_27 lkR_0_8 dX10_settle_97 ?_
  refine g_iload_n hC 2 rfl rfl dX10_settle_100 ?_
  refine g_iconst (v := 0) hC (by decide) dX10_settle_101 ?_
  obtain ⟨g21, h⟩ := gq_g_i h
  refine g_iast hC arR_5 (gq_in_i g21) dX10_settle_102 ?_
  refine g_topM (fun M22 hM22 => ?_)
  replace h := gq_l_i hM22 h
  refine g_lload hC 0 rfl dX10_settle_103 ?_
  refine g_lconst (v := 0) hC (by decide) dX10_settle_105 ?_
  refine g_lcmp hC dX10_settle_106 ?_
  refine g_if_ge (tgt := 114) hC (by decide) dX10_settle_107 (fun c23 => ?_) (fun c23 => ?_)
  · replace h := gq_t c23 h
    refine g_lload hC 0 rfl dX10_settle_114 ?_
    refine g_iload_n hC 4 rfl rfl dX10_settle_116 ?_
    refine g_i2l hC dX10_settle_117 ?_
    refine g_lmul hC dX10_settle_118 ?_
    refine g_topl (fun v24 hv24 => ?_)
    replace h := gq_l_i hv24 h
    refine g_ldc2 (v := 100) hC wk_X10_285 dX10_settle_119 ?_
    refine g_ldiv hC (by decide) dX10_settle_122 ?_
    refine g_l2i hC dX10_settle_123 ?_
    exact g_weak [] rfl (t_X10_settle_124 hC hr  ((v24 / 100) : Int64).toInt32 M22 h)
  · replace h := gq_f c23 h
    refine g_iconst (v := 0) hC (by decide) dX10_settle_110 ?_
    refine g_goto (tgt := 124) hC (by decide) dX10_settle_111 ?_
    exact g_weak [] rfl (t_X10_settle_124 hC hr  0 M22 h)
def f_X10_settle_50 (N : Nat) (x1 : Int32) (x2 : Int32) (x3 : Int32) (s1 : Int32) (M : gq_M) : Option (Int32 × gq_M) :=
  gq_b (f_X10_fails N s1 M) fun v14 M15 => if v14 = 0 then (gq_g (gq_in x1 8) (gq_l (M15 5 x1.toNatClampNeg) fun v19 => if 0 ≤ (lg_cmp (v19 : Int32).toInt64 0) then (f_X10_settle_90 N  x1 x2 x3 (v19 : Int32).toInt64 (((v19 : Int32).toInt64 * 3) / 100) M15) else (f_X10_settle_90 N  x1 x2 x3 (v19 : Int32).toInt64 0 M15))) else (some (0, M15))
set_option maxHeartbeats 1000000 in
set_option maxRecDepth 20000 in
theorem t_X10_settle_50 {N : Nat} {v9 : Int32} {M9 : gq_M} (hC : gq_C p s m args meth c D A cI cZ ad mtR RX10 cX10_settle 9) (hr : meth.sig.returnType = (some .int))   : ∀ (x1 : Int32) (x2 : Int32) (x3 : Int32) (s1 : Int32) (M : gq_M), f_X10_settle_50 N  x1 x2 x3 s1 M = some (v9, M9) → gq_W p l e (gq_rm 2) s m args below meth c D A cI cZ ad mtR 9 (MQ below (gq_Qi D cI cZ ad mtR v9 M9 A) args s 0 0 A) 50 [(0, .ref (ad 0)), (1, .int x1), (2, .int x2), (3, .int x3)] [.int s1, .ref (ad 0)] M 0 0 := by
  intro x1 x2 x3 s1 M h
  unfold f_X10_settle_50 at h
  obtain ⟨v14, M15, c16, h⟩ := gq_b_i h
  refine g_Vi (as := [.int s1]) hC (t_X10_fails N _ _ _ _ c16) mV_X10_fails  wm_X10_178 obR_0 rfl rfl (Nat.le_of_ble_eq_true rfl) ⟨by decide, by decide⟩ ⟨by decide, by decide⟩ dX10_settle_50 ?_
  refine g_if_eq (tgt := 58) hC (by decide) dX10_settle_53 (fun c17 => ?_) (fun c17 => ?_)
  · replace h := gq_t c17 h
    refine g_aload_n hC 0 rfl rfl dX10_settle_58 ?_
    refine g_getR hC fF_X10_27 lkR_0_8 dX10_settle_59 ?_
    refine g_iload_n hC 1 rfl rfl dX10_settle_62 ?_
    obtain ⟨g18, h⟩ := gq_g_i h
    refine g_iald hC arR_5 (gq_in_i g18) dX10_settle_63 ?_
    refine g_topi (fun v19 hv19 => ?_)
    replace h := gq_l_i hv19 h
    refine g_i2l hC dX10_settle_64 ?_
    refine g_lstore (L2 := [(5, .long (v19 : Int32).toInt64), (0, .ref (ad 0)), (1, .int x1), (2, .int x2), (3, .int x3)]) hC (by decide) rfl dX10_settle_65 ?_
    refine g_lload hC 0 rfl dX10_settle_67 ?_
    refine g_lload hC 0 rfl dX10_settle_69 ?_
    refine g_lconst (v := 0) hC (by decide) dX10_settle_71 ?_
    refine g_lcmp hC dX10_settle_72 ?_
    refine g_if_ge (tgt := 80) hC (by decide) dX10_settle_73 (fun c20 => ?_) (fun c20 => ?_)
    · replace h := gq_t c20 h
      refine g_lload hC 0 rfl dX10_settle_80 ?_
      refine g_ldc2 (v := 3) hC wk_X10_283 dX10_settle_82 ?_
      refine g_lmul hC dX10_settle_85 ?_
      refine g_ldc2 (v := 100) hC wk_X10_285 dX10_settle_86 ?_
      refine g_ldiv hC (by decide) dX10_settle_89 ?_
      exact g_weak [1, 2, 3, 4] rfl (t_X10_settle_90 hC hr  x1 x2 x3 (v19 : Int32).toInt64 (((v19 : Int32).toInt64 * 3) / 100) M15 h)
    · replace h := gq_f c20 h
      refine g_lconst (v := 0) hC (by decide) dX10_settle_76 ?_
      refine g_goto (tgt := 90) hC (by decide) dX10_settle_77 ?_
      exact g_weak [1, 2, 3, 4] rfl (t_X10_settle_90 hC hr  x1 x2 x3 (v19 : Int32).toInt64 0 M15 h)
  · replace h := gq_f c17 h
    refine g_iconst (v := 0) hC (by decide) dX10_settle_56 ?_
    exact g_irets hC hr h dX10_settle_57
def f_X10_settle_26 (N : Nat) (x1 : Int32) (x2 : Int32) (x3 : Int32) (s0 : Int32) (M : gq_M) : Option (Int32 × gq_M) :=
  gq_b (f_X10_isEight N x1 M) fun v9 M10 => if v9 = 0 then (f_X10_settle_50 N  x1 x2 x3 1 M10) else (if s0 = 0 then (f_X10_settle_50 N  x1 x2 x3 2 M10) else (f_X10_settle_50 N  x1 x2 x3 0 M10))
set_option maxHeartbeats 1000000 in
set_option maxRecDepth 20000 in
theorem t_X10_settle_26 {N : Nat} {v9 : Int32} {M9 : gq_M} (hC : gq_C p s m args meth c D A cI cZ ad mtR RX10 cX10_settle 9) (hr : meth.sig.returnType = (some .int))   : ∀ (x1 : Int32) (x2 : Int32) (x3 : Int32) (s0 : Int32) (M : gq_M), f_X10_settle_26 N  x1 x2 x3 s0 M = some (v9, M9) → gq_W p l e (gq_rm 2) s m args below meth c D A cI cZ ad mtR 9 (MQ below (gq_Qi D cI cZ ad mtR v9 M9 A) args s 0 0 A) 26 [(0, .ref (ad 0)), (1, .int x1), (2, .int x2), (3, .int x3)] [.int s0] M 0 0 := by
  intro x1 x2 x3 s0 M h
  unfold f_X10_settle_26 at h
  refine g_istore (L2 := [(4, .int s0), (0, .ref (ad 0)), (1, .int x1), (2, .int x2), (3, .int x3)]) hC (by decide) rfl dX10_settle_26 ?_
  refine g_aload_n hC 1 rfl rfl dX10_settle_28 ?_
  refine g_iload_n hC 2 rfl rfl dX10_settle_29 ?_
  obtain ⟨v9, M10, c11, h⟩ := gq_b_i h
  refine g_Si (as := [.int x1]) hC (t_X10_isEight N _ _ _ _ c11) mS_X10_isEight wm_X10_170 rfl rfl (Nat.le_of_ble_eq_true rfl) ⟨by decide, by decide⟩ ⟨by decide, by decide⟩ dX10_settle_30 ?_
  refine g_if_ne (tgt := 40) hC (by decide) dX10_settle_33 (fun c12 => ?_) (fun c12 => ?_)
  · replace h := gq_f c12 h
    refine g_iload hC 0 rfl dX10_settle_40 ?_
    refine g_if_eq (tgt := 49) hC (by decide) dX10_settle_42 (fun c13 => ?_) (fun c13 => ?_)
    · replace h := gq_t c13 h
      refine g_iconst (v := 2) hC (by decide) dX10_settle_49 ?_
      exact g_weak [1, 2, 3, 4] rfl (t_X10_settle_50 hC hr  x1 x2 x3 2 M10 h)
    · replace h := gq_f c13 h
      refine g_iconst (v := 0) hC (by decide) dX10_settle_45 ?_
      refine g_goto (tgt := 50) hC (by decide) dX10_settle_46 ?_
      exact g_weak [1, 2, 3, 4] rfl (t_X10_settle_50 hC hr  x1 x2 x3 0 M10 h)
  · replace h := gq_t c12 h
    refine g_iconst (v := 1) hC (by decide) dX10_settle_36 ?_
    refine g_goto (tgt := 50) hC (by decide) dX10_settle_37 ?_
    exact g_weak [1, 2, 3, 4] rfl (t_X10_settle_50 hC hr  x1 x2 x3 1 M10 h)
def f_X10_settle_25 (N : Nat) (x1 : Int32) (x2 : Int32) (x3 : Int32) (M : gq_M) : Option (Int32 × gq_M) :=
  f_X10_settle_26 N  x1 x2 x3 0 M
set_option maxHeartbeats 1000000 in
set_option maxRecDepth 20000 in
theorem t_X10_settle_25 {N : Nat} {v9 : Int32} {M9 : gq_M} (hC : gq_C p s m args meth c D A cI cZ ad mtR RX10 cX10_settle 9) (hr : meth.sig.returnType = (some .int))   : ∀ (x1 : Int32) (x2 : Int32) (x3 : Int32) (M : gq_M), f_X10_settle_25 N  x1 x2 x3 M = some (v9, M9) → gq_W p l e (gq_rm 2) s m args below meth c D A cI cZ ad mtR 9 (MQ below (gq_Qi D cI cZ ad mtR v9 M9 A) args s 0 0 A) 25 [(0, .ref (ad 0)), (1, .int x1), (2, .int x2), (3, .int x3)] [] M 0 0 := by
  intro x1 x2 x3 M h
  unfold f_X10_settle_25 at h
  refine g_iconst (v := 0) hC (by decide) dX10_settle_25 ?_
  exact g_weak [0, 1, 2, 3] rfl (t_X10_settle_26 hC hr  x1 x2 x3 0 M h)
def f_X10_settle (N : Nat) (a1 : Int32) (a2 : Int32) (a3 : Int32) (M : gq_M) : Option (Int32 × gq_M) :=
  gq_b (f_X10_isIn N a2 0 10000000 M) fun v1 M2 => if v1 = 0 then (f_X10_settle_25 N  a1 a2 a3 M2) else (gq_b (f_X10_isIn N a3 0 100 M2) fun v5 M6 => if v5 = 0 then (f_X10_settle_25 N  a1 a2 a3 M6) else (f_X10_settle_26 N  a1 a2 a3 1 M6))
set_option maxHeartbeats 1000000 in
set_option maxRecDepth 20000 in
theorem t_X10_settle {l : Launch} {D : va_G} {cI cZ : ClassId} {ad : Nat → Nat} (N : Nat) (a1 : Int32) (a2 : Int32) (a3 : Int32) (M : gq_M) (v9 : Int32) (M9 : gq_M) (h : f_X10_settle N a1 a2 a3 M = some (v9, M9)) : gq_Ci l D cI cZ ad mtR yX10_settle cX10_settle 9 (some .int) 2 [.ref (ad 0), .int a1, .int a2, .int a3] M v9 M9 := by
  refine gq_introI (own := RX10) (by decide) rfl (Nat.le_of_ble_eq_true rfl) ?_
  intro p e s m below meth c hC hr
  refine g_cast (L2 := [(0, .ref (ad 0)), (1, .int a1), (2, .int a2), (3, .int a3)]) ?_ rfl rfl rfl rfl
  unfold f_X10_settle at h
  refine g_iload_n hC 2 rfl rfl dX10_settle_0 ?_
  refine g_iconst (v := 0) hC (by decide) dX10_settle_1 ?_
  refine g_ldcw (v := 10000000) hC wk_X10_282 dX10_settle_2 ?_
  obtain ⟨v1, M2, c3, h⟩ := gq_b_i h
  refine g_Si (as := [.int a2, .int 0, .int 10000000]) hC (t_X10_isIn N _ _ _ _ _ _ c3) mS_X10_isIn wm_X10_163 rfl rfl (Nat.le_of_ble_eq_true rfl) ⟨by decide, by decide⟩ ⟨by decide, by decide⟩ dX10_settle_5 ?_
  refine g_if_eq (tgt := 25) hC (by decide) dX10_settle_8 (fun c4 => ?_) (fun c4 => ?_)
  · replace h := gq_t c4 h
    exact g_weak [0, 1, 2, 3] rfl (t_X10_settle_25 hC hr  a1 a2 a3 M2 h)
  · replace h := gq_f c4 h
    refine g_iload_n hC 3 rfl rfl dX10_settle_11 ?_
    refine g_iconst (v := 0) hC (by decide) dX10_settle_12 ?_
    refine g_bipush (v := 100) hC (by decide) dX10_settle_13 ?_
    obtain ⟨v5, M6, c7, h⟩ := gq_b_i h
    refine g_Si (as := [.int a3, .int 0, .int 100]) hC (t_X10_isIn N _ _ _ _ _ _ c7) mS_X10_isIn wm_X10_163 rfl rfl (Nat.le_of_ble_eq_true rfl) ⟨by decide, by decide⟩ ⟨by decide, by decide⟩ dX10_settle_15 ?_
    refine g_if_eq (tgt := 25) hC (by decide) dX10_settle_18 (fun c8 => ?_) (fun c8 => ?_)
    · replace h := gq_t c8 h
      exact g_weak [0, 1, 2, 3] rfl (t_X10_settle_25 hC hr  a1 a2 a3 M6 h)
    · replace h := gq_f c8 h
      refine g_iconst (v := 1) hC (by decide) dX10_settle_21 ?_
      refine g_goto (tgt := 26) hC (by decide) dX10_settle_22 ?_
      exact g_weak [0, 1, 2, 3] rfl (t_X10_settle_26 hC hr  a1 a2 a3 1 M6 h)
def f_X10_now (N : Nat) (M : gq_M) : Option (Int32 × gq_M) :=
  gq_l (gq_up M 0 54 0) fun M1 => some ((M1 0 0), M1)
set_option maxHeartbeats 1000000 in
set_option maxRecDepth 20000 in
theorem t_X10_now {l : Launch} {D : va_G} {cI cZ : ClassId} {ad : Nat → Nat} (N : Nat) (M : gq_M) (v9 : Int32) (M9 : gq_M) (h : f_X10_now N  M = some (v9, M9)) : gq_Ci l D cI cZ ad mtR yX10_now cX10_now 1 (some .int) 0 [.ref (ad 0)] M v9 M9 := by
  refine gq_introI (own := RX10) (by decide) rfl (Nat.le_of_ble_eq_true rfl) ?_
  intro p e s m below meth c hC hr
  refine g_cast (L2 := [(0, .ref (ad 0))]) ?_ rfl rfl rfl rfl
  unfold f_X10_now at h
  refine g_aload_n hC 0 rfl rfl dX10_now_0 ?_
  refine g_iconst (v := 0) hC (by decide) dX10_now_1 ?_
  refine g_putI hC fG_X10_160 lkR_0_54 dX10_now_2 ?_
  refine g_topM (fun M1 hM1 => ?_)
  replace h := gq_l_i hM1 h
  refine g_aload_n hC 0 rfl rfl dX10_now_5 ?_
  refine g_getI hC fF_X10_224 lkR_0_0 dX10_now_6 ?_
  exact g_irets hC hr h dX10_now_9
def f_X10_day (N : Nat) (M : gq_M) : Option (Int32 × gq_M) :=
  gq_l (gq_up M 0 54 0) fun M1 => some ((M1 0 1), M1)
set_option maxHeartbeats 1000000 in
set_option maxRecDepth 20000 in
theorem t_X10_day {l : Launch} {D : va_G} {cI cZ : ClassId} {ad : Nat → Nat} (N : Nat) (M : gq_M) (v9 : Int32) (M9 : gq_M) (h : f_X10_day N  M = some (v9, M9)) : gq_Ci l D cI cZ ad mtR yX10_day cX10_day 1 (some .int) 0 [.ref (ad 0)] M v9 M9 := by
  refine gq_introI (own := RX10) (by decide) rfl (Nat.le_of_ble_eq_true rfl) ?_
  intro p e s m below meth c hC hr
  refine g_cast (L2 := [(0, .ref (ad 0))]) ?_ rfl rfl rfl rfl
  unfold f_X10_day at h
  refine g_aload_n hC 0 rfl rfl dX10_day_0 ?_
  refine g_iconst (v := 0) hC (by decide) dX10_day_1 ?_
  refine g_putI hC fG_X10_160 lkR_0_54 dX10_day_2 ?_
  refine g_topM (fun M1 hM1 => ?_)
  replace h := gq_l_i hM1 h
  refine g_aload_n hC 0 rfl rfl dX10_day_5 ?_
  refine g_getI hC fF_X10_221 lkR_0_1 dX10_day_6 ?_
  exact g_irets hC hr h dX10_day_9
def f_X10_isOpen (N : Nat) (M : gq_M) : Option (Int32 × gq_M) :=
  gq_l (gq_up M 0 54 0) fun M1 => gq_g (gq_bb (M1 0 2)) (some ((M1 0 2), M1))
set_option maxHeartbeats 1000000 in
set_option maxRecDepth 20000 in
theorem t_X10_isOpen {l : Launch} {D : va_G} {cI cZ : ClassId} {ad : Nat → Nat} (N : Nat) (M : gq_M) (v9 : Int32) (M9 : gq_M) (h : f_X10_isOpen N  M = some (v9, M9)) : gq_Ci l D cI cZ ad mtR yX10_isOpen cX10_isOpen 1 (some .boolean) 0 [.ref (ad 0)] M v9 M9 := by
  refine gq_introI (own := RX10) (by decide) rfl (Nat.le_of_ble_eq_true rfl) ?_
  intro p e s m below meth c hC hr
  refine g_cast (L2 := [(0, .ref (ad 0))]) ?_ rfl rfl rfl rfl
  unfold f_X10_isOpen at h
  refine g_aload_n hC 0 rfl rfl dX10_isOpen_0 ?_
  refine g_iconst (v := 0) hC (by decide) dX10_isOpen_1 ?_
  refine g_putI hC fG_X10_160 lkR_0_54 dX10_isOpen_2 ?_
  refine g_topM (fun M1 hM1 => ?_)
  replace h := gq_l_i hM1 h
  refine g_aload_n hC 0 rfl rfl dX10_isOpen_5 ?_
  refine g_getI hC fF_X10_205 lkR_0_2 dX10_isOpen_6 ?_
  obtain ⟨g2, h⟩ := gq_g_i h
  exact g_zrets hC hr (gq_bb_i g2) h dX10_isOpen_9
def f_X10_told_96 (N : Nat) (s0 : Int32) (M : gq_M) : Option (Int32 × gq_M) :=
  some (s0, M)
set_option maxHeartbeats 1000000 in
set_option maxRecDepth 20000 in
theorem t_X10_told_96 {N : Nat} {v9 : Int32} {M9 : gq_M} (hC : gq_C p s m args meth c D A cI cZ ad mtR RX10 cX10_told 3) (hr : meth.sig.returnType = (some .int))   : ∀ (s0 : Int32) (M : gq_M), f_X10_told_96 N  s0 M = some (v9, M9) → gq_W p l e (gq_rm 2) s m args below meth c D A cI cZ ad mtR 3 (MQ below (gq_Qi D cI cZ ad mtR v9 M9 A) args s 0 0 A) 96 [] [.int s0] M 0 0 := by
  intro s0 M h
  unfold f_X10_told_96 at h
  exact g_irets hC hr h dX10_told_96
def f_X10_told_27 (N : Nat) (x1 : Int32) (x2 : Int32) (s1 : Int32) (M : gq_M) : Option (Int32 × gq_M) :=
  gq_b (f_X10_fails N s1 M) fun v9 M10 => if v9 = 0 then (if x2 = 0 then (gq_g (gq_in x1 150) (gq_l (M10 19 x1.toNatClampNeg) fun v26 => f_X10_told_96 N  v26 M10)) else (if x2 = 1 then (gq_g (gq_in x1 150) (gq_l (M10 16 x1.toNatClampNeg) fun v24 => f_X10_told_96 N  v24 M10)) else (if x2 = 2 then (gq_g (gq_in x1 150) (gq_l (M10 21 x1.toNatClampNeg) fun v22 => f_X10_told_96 N  v22 M10)) else (if x2 = 3 then (gq_g (gq_in x1 150) (gq_l (M10 22 x1.toNatClampNeg) fun v20 => f_X10_told_96 N  v20 M10)) else (gq_g (gq_in x1 150) (gq_l (M10 26 x1.toNatClampNeg) fun v18 => f_X10_told_96 N  v18 M10)))))) else (some (0, M10))
set_option maxHeartbeats 1000000 in
set_option maxRecDepth 20000 in
theorem t_X10_told_27 {N : Nat} {v9 : Int32} {M9 : gq_M} (hC : gq_C p s m args meth c D A cI cZ ad mtR RX10 cX10_told 3) (hr : meth.sig.returnType = (some .int))   : ∀ (x1 : Int32) (x2 : Int32) (s1 : Int32) (M : gq_M), f_X10_told_27 N  x1 x2 s1 M = some (v9, M9) → gq_W p l e (gq_rm 2) s m args below meth c D A cI cZ ad mtR 3 (MQ below (gq_Qi D cI cZ ad mtR v9 M9 A) args s 0 0 A) 27 [(0, .ref (ad 0)), (1, .int x1), (2, .int x2)] [.int s1, .ref (ad 0)] M 0 0 := by
  intro x1 x2 s1 M h
  unfold f_X10_told_27 at h
  obtain ⟨v9, M10, c11, h⟩ := gq_b_i h
  refine g_Vi (as := [.int s1]) hC (t_X10_fails N _ _ _ _ c11) mV_X10_fails  wm_X10_178 obR_0 rfl rfl (Nat.le_of_ble_eq_true rfl) ⟨by decide, by decide⟩ ⟨by decide, by decide⟩ dX10_told_27 ?_
  refine g_if_eq (tgt := 35) hC (by decide) dX10_told_30 (fun c12 => ?_) (fun c12 => ?_)
  · replace h := gq_t c12 h
    refine g_iload_n hC 2 rfl rfl dX10_told_35 ?_
    refine g_if_ne (tgt := 48) hC (by decide) dX10_told_36 (fun c13 => ?_) (fun c13 => ?_)
    · replace h := gq_f c13 h
      refine g_iload_n hC 2 rfl rfl dX10_told_48 ?_
      refine g_iconst (v := 1) hC (by decide) dX10_told_49 ?_
      refine g_icmp_ne (tgt := 62) hC (by decide) dX10_told_50 (fun c14 => ?_) (fun c14 => ?_)
      · replace h := gq_f c14 h
        refine g_iload_n hC 2 rfl rfl dX10_told_62 ?_
        refine g_iconst (v := 2) hC (by decide) dX10_told_63 ?_
        refine g_icmp_ne (tgt := 76) hC (by decide) dX10_told_64 (fun c15 => ?_) (fun c15 => ?_)
        · replace h := gq_f c15 h
          refine g_iload_n hC 2 rfl rfl dX10_told_76 ?_
          refine g_iconst (v := 3) hC (by decide) dX10_told_77 ?_
          refine g_icmp_ne (tgt := 90) hC (by decide) dX10_told_78 (fun c16 => ?_) (fun c16 => ?_)
          · replace h := gq_f c16 h
            refine g_aload_n hC 0 rfl rfl dX10_told_90 ?_
            refine g_getR hC fF_X10_90 lkR_0_30 dX10_told_91 ?_
            refine g_iload_n hC 1 rfl rfl dX10_told_94 ?_
            obtain ⟨g17, h⟩ := gq_g_i h
            refine g_iald hC arR_26 (gq_in_i g17) dX10_told_95 ?_
            refine g_topi (fun v18 hv18 => ?_)
            replace h := gq_l_i hv18 h
            exact g_weak [] rfl (t_X10_told_96 hC hr  v18 M10 h)
          · replace h := gq_t c16 h
            refine g_aload_n hC 0 rfl rfl dX10_told_81 ?_
            refine g_getR hC fF_X10_78 lkR_0_26 dX10_told_82 ?_
            refine g_iload_n hC 1 rfl rfl dX10_told_85 ?_
            obtain ⟨g19, h⟩ := gq_g_i h
            refine g_iald hC arR_22 (gq_in_i g19) dX10_told_86 ?_
            refine g_topi (fun v20 hv20 => ?_)
            replace h := gq_l_i hv20 h
            refine g_goto (tgt := 96) hC (by decide) dX10_told_87 ?_
            exact g_weak [] rfl (t_X10_told_96 hC hr  v20 M10 h)
        · replace h := gq_t c15 h
          refine g_aload_n hC 0 rfl rfl dX10_told_67 ?_
          refine g_getR hC fF_X10_75 lkR_0_25 dX10_told_68 ?_
          refine g_iload_n hC 1 rfl rfl dX10_told_71 ?_
          obtain ⟨g21, h⟩ := gq_g_i h
          refine g_iald hC arR_21 (gq_in_i g21) dX10_told_72 ?_
          refine g_topi (fun v22 hv22 => ?_)
          replace h := gq_l_i hv22 h
          refine g_goto (tgt := 96) hC (by decide) dX10_told_73 ?_
          exact g_weak [] rfl (t_X10_told_96 hC hr  v22 M10 h)
      · replace h := gq_t c14 h
        refine g_aload_n hC 0 rfl rfl dX10_told_53 ?_
        refine g_getR hC fF_X10_60 lkR_0_20 dX10_told_54 ?_
        refine g_iload_n hC 1 rfl rfl dX10_told_57 ?_
        obtain ⟨g23, h⟩ := gq_g_i h
        refine g_iald hC arR_16 (gq_in_i g23) dX10_told_58 ?_
        refine g_topi (fun v24 hv24 => ?_)
        replace h := gq_l_i hv24 h
        refine g_goto (tgt := 96) hC (by decide) dX10_told_59 ?_
        exact g_weak [] rfl (t_X10_told_96 hC hr  v24 M10 h)
    · replace h := gq_t c13 h
      refine g_aload_n hC 0 rfl rfl dX10_told_39 ?_
      refine g_getR hC fF_X10_69 lkR_0_23 dX10_told_40 ?_
      refine g_iload_n hC 1 rfl rfl dX10_told_43 ?_
      obtain ⟨g25, h⟩ := gq_g_i h
      refine g_iald hC arR_19 (gq_in_i g25) dX10_told_44 ?_
      refine g_topi (fun v26 hv26 => ?_)
      replace h := gq_l_i hv26 h
      refine g_goto (tgt := 96) hC (by decide) dX10_told_45 ?_
      exact g_weak [] rfl (t_X10_told_96 hC hr  v26 M10 h)
  · replace h := gq_f c12 h
    refine g_iconst (v := 0) hC (by decide) dX10_told_33 ?_
    exact g_irets hC hr h dX10_told_34
def f_X10_told (N : Nat) (a1 : Int32) (a2 : Int32) (M : gq_M) : Option (Int32 × gq_M) :=
  gq_b (f_X10_isBox N a1 M) fun v1 M2 => if v1 = 0 then (f_X10_told_27 N  a1 a2 1 M2) else (gq_b (f_X10_isIn N a2 0 4 M2) fun v5 M6 => if v5 = 0 then (f_X10_told_27 N  a1 a2 2 M6) else (f_X10_told_27 N  a1 a2 0 M6))
set_option maxHeartbeats 1000000 in
set_option maxRecDepth 20000 in
theorem t_X10_told {l : Launch} {D : va_G} {cI cZ : ClassId} {ad : Nat → Nat} (N : Nat) (a1 : Int32) (a2 : Int32) (M : gq_M) (v9 : Int32) (M9 : gq_M) (h : f_X10_told N a1 a2 M = some (v9, M9)) : gq_Ci l D cI cZ ad mtR yX10_told cX10_told 3 (some .int) 2 [.ref (ad 0), .int a1, .int a2] M v9 M9 := by
  refine gq_introI (own := RX10) (by decide) rfl (Nat.le_of_ble_eq_true rfl) ?_
  intro p e s m below meth c hC hr
  refine g_cast (L2 := [(0, .ref (ad 0)), (1, .int a1), (2, .int a2)]) ?_ rfl rfl rfl rfl
  unfold f_X10_told at h
  refine g_aload_n hC 0 rfl rfl dX10_told_0 ?_
  refine g_aload_n hC 0 rfl rfl dX10_told_1 ?_
  refine g_iload_n hC 1 rfl rfl dX10_told_2 ?_
  obtain ⟨v1, M2, c3, h⟩ := gq_b_i h
  refine g_Vi (as := [.int a1]) hC (t_X10_isBox N _ _ _ _ c3) mV_X10_isBox  wm_X10_279 obR_0 rfl rfl (Nat.le_of_ble_eq_true rfl) ⟨by decide, by decide⟩ ⟨by decide, by decide⟩ dX10_told_3 ?_
  refine g_if_ne (tgt := 13) hC (by decide) dX10_told_6 (fun c4 => ?_) (fun c4 => ?_)
  · replace h := gq_f c4 h
    refine g_iload_n hC 2 rfl rfl dX10_told_13 ?_
    refine g_iconst (v := 0) hC (by decide) dX10_told_14 ?_
    refine g_iconst (v := 4) hC (by decide) dX10_told_15 ?_
    obtain ⟨v5, M6, c7, h⟩ := gq_b_i h
    refine g_Si (as := [.int a2, .int 0, .int 4]) hC (t_X10_isIn N _ _ _ _ _ _ c7) mS_X10_isIn wm_X10_163 rfl rfl (Nat.le_of_ble_eq_true rfl) ⟨by decide, by decide⟩ ⟨by decide, by decide⟩ dX10_told_16 ?_
    refine g_if_eq (tgt := 26) hC (by decide) dX10_told_19 (fun c8 => ?_) (fun c8 => ?_)
    · replace h := gq_t c8 h
      refine g_iconst (v := 2) hC (by decide) dX10_told_26 ?_
      exact g_weak [0, 1, 2] rfl (t_X10_told_27 hC hr  a1 a2 2 M6 h)
    · replace h := gq_f c8 h
      refine g_iconst (v := 0) hC (by decide) dX10_told_22 ?_
      refine g_goto (tgt := 27) hC (by decide) dX10_told_23 ?_
      exact g_weak [0, 1, 2] rfl (t_X10_told_27 hC hr  a1 a2 0 M6 h)
  · replace h := gq_t c4 h
    refine g_iconst (v := 1) hC (by decide) dX10_told_9 ?_
    refine g_goto (tgt := 27) hC (by decide) dX10_told_10 ?_
    exact g_weak [0, 1, 2] rfl (t_X10_told_27 hC hr  a1 a2 1 M2 h)
def f_X10_lot_33 (N : Nat) (x1 : Int32) (x2 : Int32) (s1 : Int32) (M : gq_M) : Option (Int32 × gq_M) :=
  gq_b (f_X10_fails N s1 M) fun v9 M10 => if v9 = 0 then (if x2 = 0 then (gq_g (gq_in x1 150) (gq_l (M10 27 x1.toNatClampNeg) fun v15 => some (v15, M10))) else if x2 = 1 then (gq_g (gq_in x1 150) (gq_l (M10 28 x1.toNatClampNeg) fun v18 => some (v18, M10))) else if x2 = 2 then (gq_g (gq_in x1 150) (gq_l (M10 29 x1.toNatClampNeg) fun v21 => some (v21, M10))) else if x2 = 3 then (gq_g (gq_in x1 150) (gq_l (M10 30 x1.toNatClampNeg) fun v24 => some (v24, M10))) else if x2 = 4 then (gq_g (gq_in x1 150) (gq_l (M10 31 x1.toNatClampNeg) fun v27 => some (v27, M10))) else (gq_b (f_X10_leftOf N x1 M10) fun v28 M29 => some (v28, M29))) else (some (0, M10))
set_option maxHeartbeats 1000000 in
set_option maxRecDepth 20000 in
theorem t_X10_lot_33 {N : Nat} {v9 : Int32} {M9 : gq_M} (hC : gq_C p s m args meth c D A cI cZ ad mtR RX10 cX10_lot 3) (hr : meth.sig.returnType = (some .int))   : ∀ (x1 : Int32) (x2 : Int32) (s1 : Int32) (M : gq_M), f_X10_lot_33 N  x1 x2 s1 M = some (v9, M9) → gq_W p l e (gq_rm 1) s m args below meth c D A cI cZ ad mtR 3 (MQ below (gq_Qi D cI cZ ad mtR v9 M9 A) args s 0 0 A) 33 [(0, .ref (ad 0)), (1, .int x1), (2, .int x2)] [.int s1, .ref (ad 0)] M 0 0 := by
  intro x1 x2 s1 M h
  unfold f_X10_lot_33 at h
  obtain ⟨v9, M10, c11, h⟩ := gq_b_i h
  refine g_Vi (as := [.int s1]) hC (t_X10_fails N _ _ _ _ c11) mV_X10_fails  wm_X10_178 obR_0 rfl rfl (Nat.le_of_ble_eq_true rfl) ⟨by decide, by decide⟩ ⟨by decide, by decide⟩ dX10_lot_33 ?_
  refine g_if_eq (tgt := 41) hC (by decide) dX10_lot_36 (fun c12 => ?_) (fun c12 => ?_)
  · replace h := gq_t c12 h
    refine g_iload_n hC 2 rfl rfl dX10_lot_41 ?_
    rcases gq_or h with ⟨c13, h⟩ | ⟨c13, h⟩
    · refine g_tsIn (tgt := 76) hC (by rw [c13]; decide) (by rw [c13]; decide) (by rw [c13]; rfl) (by decide) dX10_lot_42 ?_
      refine g_aload_n hC 0 rfl rfl dX10_lot_76 ?_
      refine g_getR hC fF_X10_93 lkR_0_32 dX10_lot_77 ?_
      refine g_iload_n hC 1 rfl rfl dX10_lot_80 ?_
      obtain ⟨g14, h⟩ := gq_g_i h
      refine g_iald hC arR_27 (gq_in_i g14) dX10_lot_81 ?_
      refine g_topi (fun v15 hv15 => ?_)
      replace h := gq_l_i hv15 h
      exact g_irets hC hr h dX10_lot_82
    rcases gq_or h with ⟨c16, h⟩ | ⟨c16, h⟩
    · refine g_tsIn (tgt := 83) hC (by rw [c16]; decide) (by rw [c16]; decide) (by rw [c16]; rfl) (by decide) dX10_lot_42 ?_
      refine g_aload_n hC 0 rfl rfl dX10_lot_83 ?_
      refine g_getR hC fF_X10_96 lkR_0_33 dX10_lot_84 ?_
      refine g_iload_n hC 1 rfl rfl dX10_lot_87 ?_
      obtain ⟨g17, h⟩ := gq_g_i h
      refine g_iald hC arR_28 (gq_in_i g17) dX10_lot_88 ?_
      refine g_topi (fun v18 hv18 => ?_)
      replace h := gq_l_i hv18 h
      exact g_irets hC hr h dX10_lot_89
    rcases gq_or h with ⟨c19, h⟩ | ⟨c19, h⟩
    · refine g_tsIn (tgt := 90) hC (by rw [c19]; decide) (by rw [c19]; decide) (by rw [c19]; rfl) (by decide) dX10_lot_42 ?_
      refine g_aload_n hC 0 rfl rfl dX10_lot_90 ?_
      refine g_getR hC fF_X10_99 lkR_0_34 dX10_lot_91 ?_
      refine g_iload_n hC 1 rfl rfl dX10_lot_94 ?_
      obtain ⟨g20, h⟩ := gq_g_i h
      refine g_iald hC arR_29 (gq_in_i g20) dX10_lot_95 ?_
      refine g_topi (fun v21 hv21 => ?_)
      replace h := gq_l_i hv21 h
      exact g_irets hC hr h dX10_lot_96
    rcases gq_or h with ⟨c22, h⟩ | ⟨c22, h⟩
    · refine g_tsIn (tgt := 97) hC (by rw [c22]; decide) (by rw [c22]; decide) (by rw [c22]; rfl) (by decide) dX10_lot_42 ?_
      refine g_aload_n hC 0 rfl rfl dX10_lot_97 ?_
      refine g_getR hC fF_X10_102 lkR_0_35 dX10_lot_98 ?_
      refine g_iload_n hC 1 rfl rfl dX10_lot_101 ?_
      obtain ⟨g23, h⟩ := gq_g_i h
      refine g_iald hC arR_30 (gq_in_i g23) dX10_lot_102 ?_
      refine g_topi (fun v24 hv24 => ?_)
      replace h := gq_l_i hv24 h
      exact g_irets hC hr h dX10_lot_103
    rcases gq_or h with ⟨c25, h⟩ | ⟨c25, h⟩
    · refine g_tsIn (tgt := 104) hC (by rw [c25]; decide) (by rw [c25]; decide) (by rw [c25]; rfl) (by decide) dX10_lot_42 ?_
      refine g_aload_n hC 0 rfl rfl dX10_lot_104 ?_
      refine g_getR hC fF_X10_105 lkR_0_36 dX10_lot_105 ?_
      refine g_iload_n hC 1 rfl rfl dX10_lot_108 ?_
      obtain ⟨g26, h⟩ := gq_g_i h
      refine g_iald hC arR_31 (gq_in_i g26) dX10_lot_109 ?_
      refine g_topi (fun v27 hv27 => ?_)
      replace h := gq_l_i hv27 h
      exact g_irets hC hr h dX10_lot_110
    refine g_tsOut (tgt := 111) hC (by have z0 := lv_neT c13 (a := 0) (by decide); have z1 := lv_neT c16 (a := 1) (by decide); have z2 := lv_neT c19 (a := 2) (by decide); have z3 := lv_neT c22 (a := 3) (by decide); have z4 := lv_neT c25 (a := 4) (by decide); omega) (by decide) dX10_lot_42 ?_
    refine g_aload_n hC 0 rfl rfl dX10_lot_111 ?_
    refine g_iload_n hC 1 rfl rfl dX10_lot_112 ?_
    obtain ⟨v28, M29, c30, h⟩ := gq_b_i h
    refine g_Vi (as := [.int x1]) hC (t_X10_leftOf N _ _ _ _ c30) mV_X10_leftOf  wm_X10_230 obR_0 rfl rfl (Nat.le_of_ble_eq_true rfl) ⟨by decide, by decide⟩ ⟨by decide, by decide⟩ dX10_lot_113 ?_
    exact g_irets hC hr h dX10_lot_116
  · replace h := gq_f c12 h
    refine g_iconst (v := 0) hC (by decide) dX10_lot_39 ?_
    exact g_irets hC hr h dX10_lot_40
def f_X10_lot (N : Nat) (a1 : Int32) (a2 : Int32) (M : gq_M) : Option (Int32 × gq_M) :=
  gq_b (f_X10_isIn N a1 0 ((M 0 31) - 1) M) fun v1 M2 => if v1 = 0 then (f_X10_lot_33 N  a1 a2 1 M2) else (gq_b (f_X10_isIn N a2 0 5 M2) fun v5 M6 => if v5 = 0 then (f_X10_lot_33 N  a1 a2 2 M6) else (f_X10_lot_33 N  a1 a2 0 M6))
set_option maxHeartbeats 1000000 in
set_option maxRecDepth 20000 in
theorem t_X10_lot {l : Launch} {D : va_G} {cI cZ : ClassId} {ad : Nat → Nat} (N : Nat) (a1 : Int32) (a2 : Int32) (M : gq_M) (v9 : Int32) (M9 : gq_M) (h : f_X10_lot N a1 a2 M = some (v9, M9)) : gq_Ci l D cI cZ ad mtR yX10_lot cX10_lot 3 (some .int) 1 [.ref (ad 0), .int a1, .int a2] M v9 M9 := by
  refine gq_introI (own := RX10) (by decide) rfl (Nat.le_of_ble_eq_true rfl) ?_
  intro p e s m below meth c hC hr
  refine g_cast (L2 := [(0, .ref (ad 0)), (1, .int a1), (2, .int a2)]) ?_ rfl rfl rfl rfl
  unfold f_X10_lot at h
  refine g_aload_n hC 0 rfl rfl dX10_lot_0 ?_
  refine g_iload_n hC 1 rfl rfl dX10_lot_1 ?_
  refine g_iconst (v := 0) hC (by decide) dX10_lot_2 ?_
  refine g_aload_n hC 0 rfl rfl dX10_lot_3 ?_
  refine g_getI hC fF_X10_192 lkR_0_31 dX10_lot_4 ?_
  refine g_iconst (v := 1) hC (by decide) dX10_lot_7 ?_
  refine g_isub hC dX10_lot_8 ?_
  obtain ⟨v1, M2, c3, h⟩ := gq_b_i h
  refine g_Si (as := [.int a1, .int 0, .int ((M 0 31) - 1)]) hC (t_X10_isIn N _ _ _ _ _ _ c3) mS_X10_isIn wm_X10_163 rfl rfl (Nat.le_of_ble_eq_true rfl) ⟨by decide, by decide⟩ ⟨by decide, by decide⟩ dX10_lot_9 ?_
  refine g_if_ne (tgt := 19) hC (by decide) dX10_lot_12 (fun c4 => ?_) (fun c4 => ?_)
  · replace h := gq_f c4 h
    refine g_iload_n hC 2 rfl rfl dX10_lot_19 ?_
    refine g_iconst (v := 0) hC (by decide) dX10_lot_20 ?_
    refine g_iconst (v := 5) hC (by decide) dX10_lot_21 ?_
    obtain ⟨v5, M6, c7, h⟩ := gq_b_i h
    refine g_Si (as := [.int a2, .int 0, .int 5]) hC (t_X10_isIn N _ _ _ _ _ _ c7) mS_X10_isIn wm_X10_163 rfl rfl (Nat.le_of_ble_eq_true rfl) ⟨by decide, by decide⟩ ⟨by decide, by decide⟩ dX10_lot_22 ?_
    refine g_if_eq (tgt := 32) hC (by decide) dX10_lot_25 (fun c8 => ?_) (fun c8 => ?_)
    · replace h := gq_t c8 h
      refine g_iconst (v := 2) hC (by decide) dX10_lot_32 ?_
      exact g_weak [0, 1, 2] rfl (t_X10_lot_33 hC hr  a1 a2 2 M6 h)
    · replace h := gq_f c8 h
      refine g_iconst (v := 0) hC (by decide) dX10_lot_28 ?_
      refine g_goto (tgt := 33) hC (by decide) dX10_lot_29 ?_
      exact g_weak [0, 1, 2] rfl (t_X10_lot_33 hC hr  a1 a2 0 M6 h)
  · replace h := gq_t c4 h
    refine g_iconst (v := 1) hC (by decide) dX10_lot_15 ?_
    refine g_goto (tgt := 33) hC (by decide) dX10_lot_16 ?_
    exact g_weak [0, 1, 2] rfl (t_X10_lot_33 hC hr  a1 a2 1 M2 h)
def f_X10_lotsOf_37 (N : Nat) (kh4 : Int32 → Int32 → Int32 → gq_M → Option (Int32 × gq_M)) (x1 : Int32) (x3 : Int32) (s0 : Int32) (s1 : Int32) (M : gq_M) : Option (Int32 × gq_M) :=
  kh4 x1 (s0 + s1) (x3 + 1) M
set_option maxHeartbeats 1000000 in
set_option maxRecDepth 20000 in
theorem t_X10_lotsOf_37 {N : Nat} {kh4 : Int32 → Int32 → Int32 → gq_M → Option (Int32 × gq_M)} {v9 : Int32} {M9 : gq_M} (hC : gq_C p s m args meth c D A cI cZ ad mtR RX10 cX10_lotsOf 4) (hr : meth.sig.returnType = (some .int)) (hk4 : ∀ (x1 : Int32) (x2 : Int32) (x3 : Int32) (M : gq_M), kh4 x1 x2 x3 M = some (v9, M9) → gq_W p l e (gq_rm 0) s m args below meth c D A cI cZ ad mtR 4 (MQ below (gq_Qi D cI cZ ad mtR v9 M9 A) args s 0 0 A) 4 [(0, .ref (ad 0)), (1, .int x1), (2, .int x2), (3, .int x3)] [] M 0 0)  : ∀ (x1 : Int32) (x3 : Int32) (s0 : Int32) (s1 : Int32) (M : gq_M), f_X10_lotsOf_37 N kh4 x1 x3 s0 s1 M = some (v9, M9) → gq_W p l e (gq_rm 0) s m args below meth c D A cI cZ ad mtR 4 (MQ below (gq_Qi D cI cZ ad mtR v9 M9 A) args s 0 0 A) 37 [(0, .ref (ad 0)), (1, .int x1), (3, .int x3)] [.int s1, .int s0] M 0 0 := by
  intro x1 x3 s0 s1 M h
  unfold f_X10_lotsOf_37 at h
  refine g_iadd hC dX10_lotsOf_37 ?_
  refine g_istore_n (L2 := [(2, .int (s0 + s1)), (0, .ref (ad 0)), (1, .int x1), (3, .int x3)]) hC rfl (by decide) rfl dX10_lotsOf_38 ?_
  refine g_iinc (v := (x3 + 1)) (L2 := [(3, .int (x3 + 1)), (2, .int (s0 + s1)), (0, .ref (ad 0)), (1, .int x1)]) hC 3 rfl (by first | rfl | decide) (by decide) rfl dX10_lotsOf_39 ?_
  refine g_goto (tgt := 4) hC (by decide) dX10_lotsOf_42 ?_
  exact g_weak [2, 3, 1, 0] rfl (hk4 x1 (s0 + s1) (x3 + 1) M h)
def f_X10_lotsOf_36 (N : Nat) (kh4 : Int32 → Int32 → Int32 → gq_M → Option (Int32 × gq_M)) (x1 : Int32) (x3 : Int32) (s0 : Int32) (M : gq_M) : Option (Int32 × gq_M) :=
  f_X10_lotsOf_37 N kh4 x1 x3 s0 0 M
set_option maxHeartbeats 1000000 in
set_option maxRecDepth 20000 in
theorem t_X10_lotsOf_36 {N : Nat} {kh4 : Int32 → Int32 → Int32 → gq_M → Option (Int32 × gq_M)} {v9 : Int32} {M9 : gq_M} (hC : gq_C p s m args meth c D A cI cZ ad mtR RX10 cX10_lotsOf 4) (hr : meth.sig.returnType = (some .int)) (hk4 : ∀ (x1 : Int32) (x2 : Int32) (x3 : Int32) (M : gq_M), kh4 x1 x2 x3 M = some (v9, M9) → gq_W p l e (gq_rm 0) s m args below meth c D A cI cZ ad mtR 4 (MQ below (gq_Qi D cI cZ ad mtR v9 M9 A) args s 0 0 A) 4 [(0, .ref (ad 0)), (1, .int x1), (2, .int x2), (3, .int x3)] [] M 0 0)  : ∀ (x1 : Int32) (x3 : Int32) (s0 : Int32) (M : gq_M), f_X10_lotsOf_36 N kh4 x1 x3 s0 M = some (v9, M9) → gq_W p l e (gq_rm 0) s m args below meth c D A cI cZ ad mtR 4 (MQ below (gq_Qi D cI cZ ad mtR v9 M9 A) args s 0 0 A) 36 [(0, .ref (ad 0)), (1, .int x1), (3, .int x3)] [.int s0] M 0 0 := by
  intro x1 x3 s0 M h
  unfold f_X10_lotsOf_36 at h
  refine g_iconst (v := 0) hC (by decide) dX10_lotsOf_36 ?_
  exact g_weak [0, 1, 2] rfl (t_X10_lotsOf_37 hC hr hk4 x1 x3 s0 0 M h)
def f_X10_lotsOf_4_b (N : Nat) (kh4 : Int32 → Int32 → Int32 → gq_M → Option (Int32 × gq_M)) (x1 : Int32) (x2 : Int32) (x3 : Int32) (M : gq_M) : Option (Int32 × gq_M) :=
  if (M 0 31) ≤ x3 then (some (x2, M)) else (gq_g (gq_in x3 150) (gq_l (M 31 x3.toNatClampNeg) fun v3 => if v3 = x1 then (gq_g (gq_in x3 150) (gq_l (M 32 x3.toNatClampNeg) fun v6 => if v6 = 0 then (f_X10_lotsOf_37 N kh4 x1 x3 x2 1 M) else (f_X10_lotsOf_36 N kh4 x1 x3 x2 M))) else (f_X10_lotsOf_36 N kh4 x1 x3 x2 M)))
def f_X10_lotsOf_4 (N : Nat) : Nat → Int32 → Int32 → Int32 → gq_M → Option (Int32 × gq_M)
  | 0 => fun _ _ _ _ => none
  | n9 + 1 => f_X10_lotsOf_4_b N  (f_X10_lotsOf_4 N  n9)
set_option maxHeartbeats 1000000 in
set_option maxRecDepth 20000 in
theorem t_X10_lotsOf_4_b {N : Nat} {kh4 : Int32 → Int32 → Int32 → gq_M → Option (Int32 × gq_M)} {v9 : Int32} {M9 : gq_M} (hC : gq_C p s m args meth c D A cI cZ ad mtR RX10 cX10_lotsOf 4) (hr : meth.sig.returnType = (some .int))  (hk4 : ∀ (x1 : Int32) (x2 : Int32) (x3 : Int32) (M : gq_M), kh4 x1 x2 x3 M = some (v9, M9) → gq_W p l e (gq_rm 0) s m args below meth c D A cI cZ ad mtR 4 (MQ below (gq_Qi D cI cZ ad mtR v9 M9 A) args s 0 0 A) 4 [(0, .ref (ad 0)), (1, .int x1), (2, .int x2), (3, .int x3)] [] M 0 0) : ∀ (x1 : Int32) (x2 : Int32) (x3 : Int32) (M : gq_M), f_X10_lotsOf_4_b N  kh4 x1 x2 x3 M = some (v9, M9) → gq_W p l e (gq_rm 0) s m args below meth c D A cI cZ ad mtR 4 (MQ below (gq_Qi D cI cZ ad mtR v9 M9 A) args s 0 0 A) 4 [(0, .ref (ad 0)), (1, .int x1), (2, .int x2), (3, .int x3)] [] M 0 0 := by
  intro x1 x2 x3 M h
  unfold f_X10_lotsOf_4_b at h
  refine g_iload_n hC 3 rfl rfl dX10_lotsOf_4 ?_
  refine g_aload_n hC 0 rfl rfl dX10_lotsOf_5 ?_
  refine g_getI hC fF_X10_192 lkR_0_31 dX10_lotsOf_6 ?_
  refine g_icmp_ge (tgt := 45) hC (by decide) dX10_lotsOf_9 (fun c1 => ?_) (fun c1 => ?_)
  · replace h := gq_t c1 h
    refine g_iload_n hC 2 rfl rfl dX10_lotsOf_45 ?_
    exact g_irets hC hr h dX10_lotsOf_46
  · replace h := gq_f c1 h
    refine g_iload_n hC 2 rfl rfl dX10_lotsOf_12 ?_
    refine g_aload_n hC 0 rfl rfl dX10_lotsOf_13 ?_
    refine g_getR hC fF_X10_105 lkR_0_36 dX10_lotsOf_14 ?_
    refine g_iload_n hC 3 rfl rfl dX10_lotsOf_17 ?_
    obtain ⟨g2, h⟩ := gq_g_i h
    refine g_iald hC arR_31 (gq_in_i g2) dX10_lotsOf_18 ?_
    refine g_topi (fun v3 hv3 => ?_)
    replace h := gq_l_i hv3 h
    refine g_iload_n hC 1 rfl rfl dX10_lotsOf_19 ?_
    refine g_icmp_ne (tgt := 36) hC (by decide) dX10_lotsOf_20 (fun c4 => ?_) (fun c4 => ?_)
    · replace h := gq_f c4 h
      exact g_weak [0, 1, 3] rfl (t_X10_lotsOf_36 hC hr hk4 x1 x3 x2 M h)
    · replace h := gq_t c4 h
      refine g_aload_n hC 0 rfl rfl dX10_lotsOf_23 ?_
      refine g_getR hC fF_X10_108 lkR_0_37 dX10_lotsOf_24 ?_
      refine g_iload_n hC 3 rfl rfl dX10_lotsOf_27 ?_
      obtain ⟨g5, h⟩ := gq_g_i h
      refine g_zald hC arR_32 (gq_in_i g5) dX10_lotsOf_28 ?_
      refine g_topi (fun v6 hv6 => ?_)
      replace h := gq_l_i hv6 h
      refine g_if_ne (tgt := 36) hC (by decide) dX10_lotsOf_29 (fun c7 => ?_) (fun c7 => ?_)
      · replace h := gq_f c7 h
        exact g_weak [0, 1, 3] rfl (t_X10_lotsOf_36 hC hr hk4 x1 x3 x2 M h)
      · replace h := gq_t c7 h
        refine g_iconst (v := 1) hC (by decide) dX10_lotsOf_32 ?_
        refine g_goto (tgt := 37) hC (by decide) dX10_lotsOf_33 ?_
        exact g_weak [0, 1, 3] rfl (t_X10_lotsOf_37 hC hr hk4 x1 x3 x2 1 M h)
theorem t_X10_lotsOf_4 {N : Nat} {v9 : Int32} {M9 : gq_M} (hC : gq_C p s m args meth c D A cI cZ ad mtR RX10 cX10_lotsOf 4) (hr : meth.sig.returnType = (some .int))  : ∀ (n9 : Nat) (x1 : Int32) (x2 : Int32) (x3 : Int32) (M : gq_M), f_X10_lotsOf_4 N  n9 x1 x2 x3 M = some (v9, M9) → gq_W p l e (gq_rm 0) s m args below meth c D A cI cZ ad mtR 4 (MQ below (gq_Qi D cI cZ ad mtR v9 M9 A) args s 0 0 A) 4 [(0, .ref (ad 0)), (1, .int x1), (2, .int x2), (3, .int x3)] [] M 0 0 := by
  intro n9
  induction n9 with
  | zero => intro x1 x2 x3 M h; cases h
  | succ n9 ih => intro x1 x2 x3 M h; exact t_X10_lotsOf_4_b hC hr  ih x1 x2 x3 M h
def f_X10_lotsOf (N : Nat) (a1 : Int32) (M : gq_M) : Option (Int32 × gq_M) :=
  f_X10_lotsOf_4 N  N a1 0 0 M
set_option maxHeartbeats 1000000 in
set_option maxRecDepth 20000 in
theorem t_X10_lotsOf {l : Launch} {D : va_G} {cI cZ : ClassId} {ad : Nat → Nat} (N : Nat) (a1 : Int32) (M : gq_M) (v9 : Int32) (M9 : gq_M) (h : f_X10_lotsOf N a1 M = some (v9, M9)) : gq_Ci l D cI cZ ad mtR yX10_lotsOf cX10_lotsOf 4 (some .int) 0 [.ref (ad 0), .int a1] M v9 M9 := by
  refine gq_introI (own := RX10) (by decide) rfl (Nat.le_of_ble_eq_true rfl) ?_
  intro p e s m below meth c hC hr
  refine g_cast (L2 := [(0, .ref (ad 0)), (1, .int a1)]) ?_ rfl rfl rfl rfl
  unfold f_X10_lotsOf at h
  refine g_iconst (v := 0) hC (by decide) dX10_lotsOf_0 ?_
  refine g_istore_n (L2 := [(2, .int 0), (0, .ref (ad 0)), (1, .int a1)]) hC rfl (by decide) rfl dX10_lotsOf_1 ?_
  refine g_iconst (v := 0) hC (by decide) dX10_lotsOf_2 ?_
  refine g_istore_n (L2 := [(3, .int 0), (2, .int 0), (0, .ref (ad 0)), (1, .int a1)]) hC rfl (by decide) rfl dX10_lotsOf_3 ?_
  exact g_weak [2, 3, 1, 0] rfl (t_X10_lotsOf_4 hC hr  N a1 0 0 M h)
def f_X10_hall_94 (N : Nat) (s0 : Int32) (M : gq_M) : Option (Int32 × gq_M) :=
  some (s0, M)
set_option maxHeartbeats 1000000 in
set_option maxRecDepth 20000 in
theorem t_X10_hall_94 {N : Nat} {v9 : Int32} {M9 : gq_M} (hC : gq_C p s m args meth c D A cI cZ ad mtR RX10 cX10_hall 3) (hr : meth.sig.returnType = (some .int))   : ∀ (s0 : Int32) (M : gq_M), f_X10_hall_94 N  s0 M = some (v9, M9) → gq_W p l e (gq_rm 2) s m args below meth c D A cI cZ ad mtR 3 (MQ below (gq_Qi D cI cZ ad mtR v9 M9 A) args s 0 0 A) 94 [] [.int s0] M 0 0 := by
  intro s0 M h
  unfold f_X10_hall_94 at h
  exact g_irets hC hr h dX10_hall_94
def f_X10_hall_26 (N : Nat) (x1 : Int32) (x2 : Int32) (s1 : Int32) (M : gq_M) : Option (Int32 × gq_M) :=
  gq_b (f_X10_fails N s1 M) fun v9 M10 => if v9 = 0 then (if x2 = 0 then (gq_g (gq_in x1 3) (gq_l (M10 35 x1.toNatClampNeg) fun v27 => f_X10_hall_94 N  v27 M10)) else (if x2 = 1 then (gq_g (gq_in x1 3) (gq_l (M10 36 x1.toNatClampNeg) fun v25 => f_X10_hall_94 N  v25 M10)) else (if x2 = 2 then (gq_g (gq_in x1 3) (gq_l (M10 37 x1.toNatClampNeg) fun v23 => f_X10_hall_94 N  v23 M10)) else (if x2 = 3 then (gq_g (gq_in x1 3) (gq_l (M10 39 x1.toNatClampNeg) fun v21 => f_X10_hall_94 N  v21 M10)) else (gq_b (f_X10_lotsOf N x1 M10) fun v17 M18 => f_X10_hall_94 N  v17 M18))))) else (some (0, M10))
set_option maxHeartbeats 1000000 in
set_option maxRecDepth 20000 in
theorem t_X10_hall_26 {N : Nat} {v9 : Int32} {M9 : gq_M} (hC : gq_C p s m args meth c D A cI cZ ad mtR RX10 cX10_hall 3) (hr : meth.sig.returnType = (some .int))   : ∀ (x1 : Int32) (x2 : Int32) (s1 : Int32) (M : gq_M), f_X10_hall_26 N  x1 x2 s1 M = some (v9, M9) → gq_W p l e (gq_rm 2) s m args below meth c D A cI cZ ad mtR 3 (MQ below (gq_Qi D cI cZ ad mtR v9 M9 A) args s 0 0 A) 26 [(0, .ref (ad 0)), (1, .int x1), (2, .int x2)] [.int s1, .ref (ad 0)] M 0 0 := by
  intro x1 x2 s1 M h
  unfold f_X10_hall_26 at h
  obtain ⟨v9, M10, c11, h⟩ := gq_b_i h
  refine g_Vi (as := [.int s1]) hC (t_X10_fails N _ _ _ _ c11) mV_X10_fails  wm_X10_178 obR_0 rfl rfl (Nat.le_of_ble_eq_true rfl) ⟨by decide, by decide⟩ ⟨by decide, by decide⟩ dX10_hall_26 ?_
  refine g_if_eq (tgt := 34) hC (by decide) dX10_hall_29 (fun c12 => ?_) (fun c12 => ?_)
  · replace h := gq_t c12 h
    refine g_iload_n hC 2 rfl rfl dX10_hall_34 ?_
    refine g_if_ne (tgt := 47) hC (by decide) dX10_hall_35 (fun c13 => ?_) (fun c13 => ?_)
    · replace h := gq_f c13 h
      refine g_iload_n hC 2 rfl rfl dX10_hall_47 ?_
      refine g_iconst (v := 1) hC (by decide) dX10_hall_48 ?_
      refine g_icmp_ne (tgt := 61) hC (by decide) dX10_hall_49 (fun c14 => ?_) (fun c14 => ?_)
      · replace h := gq_f c14 h
        refine g_iload_n hC 2 rfl rfl dX10_hall_61 ?_
        refine g_iconst (v := 2) hC (by decide) dX10_hall_62 ?_
        refine g_icmp_ne (tgt := 75) hC (by decide) dX10_hall_63 (fun c15 => ?_) (fun c15 => ?_)
        · replace h := gq_f c15 h
          refine g_iload_n hC 2 rfl rfl dX10_hall_75 ?_
          refine g_iconst (v := 3) hC (by decide) dX10_hall_76 ?_
          refine g_icmp_ne (tgt := 89) hC (by decide) dX10_hall_77 (fun c16 => ?_) (fun c16 => ?_)
          · replace h := gq_f c16 h
            refine g_aload_n hC 0 rfl rfl dX10_hall_89 ?_
            refine g_iload_n hC 1 rfl rfl dX10_hall_90 ?_
            obtain ⟨v17, M18, c19, h⟩ := gq_b_i h
            refine g_Vi (as := [.int x1]) hC (t_X10_lotsOf N _ _ _ _ c19) mV_X10_lotsOf  wm_X10_287 obR_0 rfl rfl (Nat.le_of_ble_eq_true rfl) ⟨by decide, by decide⟩ ⟨by decide, by decide⟩ dX10_hall_91 ?_
            exact g_weak [] rfl (t_X10_hall_94 hC hr  v17 M18 h)
          · replace h := gq_t c16 h
            refine g_aload_n hC 0 rfl rfl dX10_hall_80 ?_
            refine g_getR hC fF_X10_129 lkR_0_44 dX10_hall_81 ?_
            refine g_iload_n hC 1 rfl rfl dX10_hall_84 ?_
            obtain ⟨g20, h⟩ := gq_g_i h
            refine g_iald hC arR_39 (gq_in_i g20) dX10_hall_85 ?_
            refine g_topi (fun v21 hv21 => ?_)
            replace h := gq_l_i hv21 h
            refine g_goto (tgt := 94) hC (by decide) dX10_hall_86 ?_
            exact g_weak [] rfl (t_X10_hall_94 hC hr  v21 M10 h)
        · replace h := gq_t c15 h
          refine g_aload_n hC 0 rfl rfl dX10_hall_66 ?_
          refine g_getR hC fF_X10_123 lkR_0_42 dX10_hall_67 ?_
          refine g_iload_n hC 1 rfl rfl dX10_hall_70 ?_
          obtain ⟨g22, h⟩ := gq_g_i h
          refine g_iald hC arR_37 (gq_in_i g22) dX10_hall_71 ?_
          refine g_topi (fun v23 hv23 => ?_)
          replace h := gq_l_i hv23 h
          refine g_goto (tgt := 94) hC (by decide) dX10_hall_72 ?_
          exact g_weak [] rfl (t_X10_hall_94 hC hr  v23 M10 h)
      · replace h := gq_t c14 h
        refine g_aload_n hC 0 rfl rfl dX10_hall_52 ?_
        refine g_getR hC fF_X10_120 lkR_0_41 dX10_hall_53 ?_
        refine g_iload_n hC 1 rfl rfl dX10_hall_56 ?_
        obtain ⟨g24, h⟩ := gq_g_i h
        refine g_iald hC arR_36 (gq_in_i g24) dX10_hall_57 ?_
        refine g_topi (fun v25 hv25 => ?_)
        replace h := gq_l_i hv25 h
        refine g_goto (tgt := 94) hC (by decide) dX10_hall_58 ?_
        exact g_weak [] rfl (t_X10_hall_94 hC hr  v25 M10 h)
    · replace h := gq_t c13 h
      refine g_aload_n hC 0 rfl rfl dX10_hall_38 ?_
      refine g_getR hC fF_X10_117 lkR_0_40 dX10_hall_39 ?_
      refine g_iload_n hC 1 rfl rfl dX10_hall_42 ?_
      obtain ⟨g26, h⟩ := gq_g_i h
      refine g_iald hC arR_35 (gq_in_i g26) dX10_hall_43 ?_
      refine g_topi (fun v27 hv27 => ?_)
      replace h := gq_l_i hv27 h
      refine g_goto (tgt := 94) hC (by decide) dX10_hall_44 ?_
      exact g_weak [] rfl (t_X10_hall_94 hC hr  v27 M10 h)
  · replace h := gq_f c12 h
    refine g_iconst (v := 0) hC (by decide) dX10_hall_32 ?_
    exact g_irets hC hr h dX10_hall_33
def f_X10_hall (N : Nat) (a1 : Int32) (a2 : Int32) (M : gq_M) : Option (Int32 × gq_M) :=
  gq_b (f_X10_isHall N a1 M) fun v1 M2 => if v1 = 0 then (f_X10_hall_26 N  a1 a2 1 M2) else (gq_b (f_X10_isIn N a2 0 4 M2) fun v5 M6 => if v5 = 0 then (f_X10_hall_26 N  a1 a2 2 M6) else (f_X10_hall_26 N  a1 a2 0 M6))
set_option maxHeartbeats 1000000 in
set_option maxRecDepth 20000 in
theorem t_X10_hall {l : Launch} {D : va_G} {cI cZ : ClassId} {ad : Nat → Nat} (N : Nat) (a1 : Int32) (a2 : Int32) (M : gq_M) (v9 : Int32) (M9 : gq_M) (h : f_X10_hall N a1 a2 M = some (v9, M9)) : gq_Ci l D cI cZ ad mtR yX10_hall cX10_hall 3 (some .int) 2 [.ref (ad 0), .int a1, .int a2] M v9 M9 := by
  refine gq_introI (own := RX10) (by decide) rfl (Nat.le_of_ble_eq_true rfl) ?_
  intro p e s m below meth c hC hr
  refine g_cast (L2 := [(0, .ref (ad 0)), (1, .int a1), (2, .int a2)]) ?_ rfl rfl rfl rfl
  unfold f_X10_hall at h
  refine g_aload_n hC 0 rfl rfl dX10_hall_0 ?_
  refine g_iload_n hC 1 rfl rfl dX10_hall_1 ?_
  obtain ⟨v1, M2, c3, h⟩ := gq_b_i h
  refine g_Si (as := [.int a1]) hC (t_X10_isHall N _ _ _ _ c3) mS_X10_isHall wm_X10_181 rfl rfl (Nat.le_of_ble_eq_true rfl) ⟨by decide, by decide⟩ ⟨by decide, by decide⟩ dX10_hall_2 ?_
  refine g_if_ne (tgt := 12) hC (by decide) dX10_hall_5 (fun c4 => ?_) (fun c4 => ?_)
  · replace h := gq_f c4 h
    refine g_iload_n hC 2 rfl rfl dX10_hall_12 ?_
    refine g_iconst (v := 0) hC (by decide) dX10_hall_13 ?_
    refine g_iconst (v := 4) hC (by decide) dX10_hall_14 ?_
    obtain ⟨v5, M6, c7, h⟩ := gq_b_i h
    refine g_Si (as := [.int a2, .int 0, .int 4]) hC (t_X10_isIn N _ _ _ _ _ _ c7) mS_X10_isIn wm_X10_163 rfl rfl (Nat.le_of_ble_eq_true rfl) ⟨by decide, by decide⟩ ⟨by decide, by decide⟩ dX10_hall_15 ?_
    refine g_if_eq (tgt := 25) hC (by decide) dX10_hall_18 (fun c8 => ?_) (fun c8 => ?_)
    · replace h := gq_t c8 h
      refine g_iconst (v := 2) hC (by decide) dX10_hall_25 ?_
      exact g_weak [0, 1, 2] rfl (t_X10_hall_26 hC hr  a1 a2 2 M6 h)
    · replace h := gq_f c8 h
      refine g_iconst (v := 0) hC (by decide) dX10_hall_21 ?_
      refine g_goto (tgt := 26) hC (by decide) dX10_hall_22 ?_
      exact g_weak [0, 1, 2] rfl (t_X10_hall_26 hC hr  a1 a2 0 M6 h)
  · replace h := gq_t c4 h
    refine g_iconst (v := 1) hC (by decide) dX10_hall_8 ?_
    refine g_goto (tgt := 26) hC (by decide) dX10_hall_9 ?_
    exact g_weak [0, 1, 2] rfl (t_X10_hall_26 hC hr  a1 a2 1 M2 h)
def f_X10_account_101 (N : Nat) (s0 : Int32) (M : gq_M) : Option (Int32 × gq_M) :=
  some (s0, M)
set_option maxHeartbeats 1000000 in
set_option maxRecDepth 20000 in
theorem t_X10_account_101 {N : Nat} {v9 : Int32} {M9 : gq_M} (hC : gq_C p s m args meth c D A cI cZ ad mtR RX10 cX10_account 5) (hr : meth.sig.returnType = (some .int))   : ∀ (s0 : Int32) (M : gq_M), f_X10_account_101 N  s0 M = some (v9, M9) → gq_W p l e (gq_rm 2) s m args below meth c D A cI cZ ad mtR 5 (MQ below (gq_Qi D cI cZ ad mtR v9 M9 A) args s 0 0 A) 101 [] [.int s0] M 0 0 := by
  intro s0 M h
  unfold f_X10_account_101 at h
  exact g_irets hC hr h dX10_account_101
def f_X10_account_65 (N : Nat) (kh39 : Int32 → Int32 → Int32 → Int32 → gq_M → Option (Int32 × gq_M)) (x1 : Int32) (x2 : Int32) (x4 : Int32) (s0 : Int32) (s1 : Int32) (M : gq_M) : Option (Int32 × gq_M) :=
  kh39 x1 x2 (s0 + s1) (x4 + 1) M
set_option maxHeartbeats 1000000 in
set_option maxRecDepth 20000 in
theorem t_X10_account_65 {N : Nat} {kh39 : Int32 → Int32 → Int32 → Int32 → gq_M → Option (Int32 × gq_M)} {v9 : Int32} {M9 : gq_M} (hC : gq_C p s m args meth c D A cI cZ ad mtR RX10 cX10_account 5) (hr : meth.sig.returnType = (some .int)) (hk39 : ∀ (x1 : Int32) (x2 : Int32) (x3 : Int32) (x4 : Int32) (M : gq_M), kh39 x1 x2 x3 x4 M = some (v9, M9) → gq_W p l e (gq_rm 2) s m args below meth c D A cI cZ ad mtR 5 (MQ below (gq_Qi D cI cZ ad mtR v9 M9 A) args s 0 0 A) 39 [(0, .ref (ad 0)), (1, .int x1), (2, .int x2), (3, .int x3), (4, .int x4)] [] M 0 0)  : ∀ (x1 : Int32) (x2 : Int32) (x4 : Int32) (s0 : Int32) (s1 : Int32) (M : gq_M), f_X10_account_65 N kh39 x1 x2 x4 s0 s1 M = some (v9, M9) → gq_W p l e (gq_rm 2) s m args below meth c D A cI cZ ad mtR 5 (MQ below (gq_Qi D cI cZ ad mtR v9 M9 A) args s 0 0 A) 65 [(0, .ref (ad 0)), (1, .int x1), (2, .int x2), (4, .int x4)] [.int s1, .int s0] M 0 0 := by
  intro x1 x2 x4 s0 s1 M h
  unfold f_X10_account_65 at h
  refine g_iadd hC dX10_account_65 ?_
  refine g_istore_n (L2 := [(3, .int (s0 + s1)), (0, .ref (ad 0)), (1, .int x1), (2, .int x2), (4, .int x4)]) hC rfl (by decide) rfl dX10_account_66 ?_
  refine g_iinc (v := (x4 + 1)) (L2 := [(4, .int (x4 + 1)), (3, .int (s0 + s1)), (0, .ref (ad 0)), (1, .int x1), (2, .int x2)]) hC 4 rfl (by first | rfl | decide) (by decide) rfl dX10_account_67 ?_
  refine g_goto (tgt := 39) hC (by decide) dX10_account_70 ?_
  exact g_weak [2, 3, 4, 1, 0] rfl (hk39 x1 x2 (s0 + s1) (x4 + 1) M h)
def f_X10_account_39_b (N : Nat) (kh39 : Int32 → Int32 → Int32 → Int32 → gq_M → Option (Int32 × gq_M)) (x1 : Int32) (x2 : Int32) (x3 : Int32) (x4 : Int32) (M : gq_M) : Option (Int32 × gq_M) :=
  if (M 0 16) ≤ x4 then (if x2 = 0 then (gq_g (gq_in x1 8) (gq_l (M 9 x1.toNatClampNeg) fun v19 => f_X10_account_101 N  v19 M)) else (if x2 = 1 then (gq_g (gq_in x1 8) (gq_l (M 11 x1.toNatClampNeg) fun v17 => f_X10_account_101 N  v17 M)) else (f_X10_account_101 N  x3 M))) else (gq_g (gq_in x4 150) (gq_l (M 21 x4.toNatClampNeg) fun v21 => if v21 = x1 then (f_X10_account_65 N kh39 x1 x2 x4 x3 1 M) else (f_X10_account_65 N kh39 x1 x2 x4 x3 0 M)))
def f_X10_account_39 (N : Nat) : Nat → Int32 → Int32 → Int32 → Int32 → gq_M → Option (Int32 × gq_M)
  | 0 => fun _ _ _ _ _ => none
  | n9 + 1 => f_X10_account_39_b N  (f_X10_account_39 N  n9)
set_option maxHeartbeats 1000000 in
set_option maxRecDepth 20000 in
theorem t_X10_account_39_b {N : Nat} {kh39 : Int32 → Int32 → Int32 → Int32 → gq_M → Option (Int32 × gq_M)} {v9 : Int32} {M9 : gq_M} (hC : gq_C p s m args meth c D A cI cZ ad mtR RX10 cX10_account 5) (hr : meth.sig.returnType = (some .int))  (hk39 : ∀ (x1 : Int32) (x2 : Int32) (x3 : Int32) (x4 : Int32) (M : gq_M), kh39 x1 x2 x3 x4 M = some (v9, M9) → gq_W p l e (gq_rm 2) s m args below meth c D A cI cZ ad mtR 5 (MQ below (gq_Qi D cI cZ ad mtR v9 M9 A) args s 0 0 A) 39 [(0, .ref (ad 0)), (1, .int x1), (2, .int x2), (3, .int x3), (4, .int x4)] [] M 0 0) : ∀ (x1 : Int32) (x2 : Int32) (x3 : Int32) (x4 : Int32) (M : gq_M), f_X10_account_39_b N  kh39 x1 x2 x3 x4 M = some (v9, M9) → gq_W p l e (gq_rm 2) s m args below meth c D A cI cZ ad mtR 5 (MQ below (gq_Qi D cI cZ ad mtR v9 M9 A) args s 0 0 A) 39 [(0, .ref (ad 0)), (1, .int x1), (2, .int x2), (3, .int x3), (4, .int x4)] [] M 0 0 := by
  intro x1 x2 x3 x4 M h
  unfold f_X10_account_39_b at h
  refine g_iload hC 4 rfl dX10_account_39 ?_
  refine g_aload_n hC 0 rfl rfl dX10_account_41 ?_
  refine g_getI hC fF_X10_167 lkR_0_16 dX10_account_42 ?_
  refine g_icmp_ge (tgt := 73) hC (by decide) dX10_account_45 (fun c13 => ?_) (fun c13 => ?_)
  · replace h := gq_t c13 h
    refine g_iload_n hC 2 rfl rfl dX10_account_73 ?_
    refine g_if_ne (tgt := 86) hC (by decide) dX10_account_74 (fun c14 => ?_) (fun c14 => ?_)
    · replace h := gq_f c14 h
      refine g_iload_n hC 2 rfl rfl dX10_account_86 ?_
      refine g_iconst (v := 1) hC (by decide) dX10_account_87 ?_
      refine g_icmp_ne (tgt := 100) hC (by decide) dX10_account_88 (fun c15 => ?_) (fun c15 => ?_)
      · replace h := gq_f c15 h
        refine g_iload_n hC 3 rfl rfl dX10_account_100 ?_
        exact g_weak [] rfl (t_X10_account_101 hC hr  x3 M h)
      · replace h := gq_t c15 h
        refine g_aload_n hC 0 rfl rfl dX10_account_91 ?_
        refine g_getR hC fF_X10_45 lkR_0_14 dX10_account_92 ?_
        refine g_iload_n hC 1 rfl rfl dX10_account_95 ?_
        obtain ⟨g16, h⟩ := gq_g_i h
        refine g_iald hC arR_11 (gq_in_i g16) dX10_account_96 ?_
        refine g_topi (fun v17 hv17 => ?_)
        replace h := gq_l_i hv17 h
        refine g_goto (tgt := 101) hC (by decide) dX10_account_97 ?_
        exact g_weak [] rfl (t_X10_account_101 hC hr  v17 M h)
    · replace h := gq_t c14 h
      refine g_aload_n hC 0 rfl rfl dX10_account_77 ?_
      refine g_getR hC fF_X10_39 lkR_0_12 dX10_account_78 ?_
      refine g_iload_n hC 1 rfl rfl dX10_account_81 ?_
      obtain ⟨g18, h⟩ := gq_g_i h
      refine g_iald hC arR_9 (gq_in_i g18) dX10_account_82 ?_
      refine g_topi (fun v19 hv19 => ?_)
      replace h := gq_l_i hv19 h
      refine g_goto (tgt := 101) hC (by decide) dX10_account_83 ?_
      exact g_weak [] rfl (t_X10_account_101 hC hr  v19 M h)
  · replace h := gq_f c13 h
    refine g_iload_n hC 3 rfl rfl dX10_account_48 ?_
    refine g_aload_n hC 0 rfl rfl dX10_account_49 ?_
    refine g_getR hC fF_X10_75 lkR_0_25 dX10_account_50 ?_
    refine g_iload hC 4 rfl dX10_account_53 ?_
    obtain ⟨g20, h⟩ := gq_g_i h
    refine g_iald hC arR_21 (gq_in_i g20) dX10_account_55 ?_
    refine g_topi (fun v21 hv21 => ?_)
    replace h := gq_l_i hv21 h
    refine g_iload_n hC 1 rfl rfl dX10_account_56 ?_
    refine g_icmp_ne (tgt := 64) hC (by decide) dX10_account_57 (fun c22 => ?_) (fun c22 => ?_)
    · replace h := gq_f c22 h
      refine g_iconst (v := 0) hC (by decide) dX10_account_64 ?_
      exact g_weak [0, 1, 2, 4] rfl (t_X10_account_65 hC hr hk39 x1 x2 x4 x3 0 M h)
    · replace h := gq_t c22 h
      refine g_iconst (v := 1) hC (by decide) dX10_account_60 ?_
      refine g_goto (tgt := 65) hC (by decide) dX10_account_61 ?_
      exact g_weak [0, 1, 2, 4] rfl (t_X10_account_65 hC hr hk39 x1 x2 x4 x3 1 M h)
theorem t_X10_account_39 {N : Nat} {v9 : Int32} {M9 : gq_M} (hC : gq_C p s m args meth c D A cI cZ ad mtR RX10 cX10_account 5) (hr : meth.sig.returnType = (some .int))  : ∀ (n9 : Nat) (x1 : Int32) (x2 : Int32) (x3 : Int32) (x4 : Int32) (M : gq_M), f_X10_account_39 N  n9 x1 x2 x3 x4 M = some (v9, M9) → gq_W p l e (gq_rm 2) s m args below meth c D A cI cZ ad mtR 5 (MQ below (gq_Qi D cI cZ ad mtR v9 M9 A) args s 0 0 A) 39 [(0, .ref (ad 0)), (1, .int x1), (2, .int x2), (3, .int x3), (4, .int x4)] [] M 0 0 := by
  intro n9
  induction n9 with
  | zero => intro x1 x2 x3 x4 M h; cases h
  | succ n9 ih => intro x1 x2 x3 x4 M h; exact t_X10_account_39_b hC hr  ih x1 x2 x3 x4 M h
def f_X10_account_26 (N : Nat) (x1 : Int32) (x2 : Int32) (s1 : Int32) (M : gq_M) : Option (Int32 × gq_M) :=
  gq_b (f_X10_fails N s1 M) fun v9 M10 => if v9 = 0 then (f_X10_account_39 N  N x1 x2 0 0 M10) else (some (0, M10))
set_option maxHeartbeats 1000000 in
set_option maxRecDepth 20000 in
theorem t_X10_account_26 {N : Nat} {v9 : Int32} {M9 : gq_M} (hC : gq_C p s m args meth c D A cI cZ ad mtR RX10 cX10_account 5) (hr : meth.sig.returnType = (some .int))   : ∀ (x1 : Int32) (x2 : Int32) (s1 : Int32) (M : gq_M), f_X10_account_26 N  x1 x2 s1 M = some (v9, M9) → gq_W p l e (gq_rm 2) s m args below meth c D A cI cZ ad mtR 5 (MQ below (gq_Qi D cI cZ ad mtR v9 M9 A) args s 0 0 A) 26 [(0, .ref (ad 0)), (1, .int x1), (2, .int x2)] [.int s1, .ref (ad 0)] M 0 0 := by
  intro x1 x2 s1 M h
  unfold f_X10_account_26 at h
  obtain ⟨v9, M10, c11, h⟩ := gq_b_i h
  refine g_Vi (as := [.int s1]) hC (t_X10_fails N _ _ _ _ c11) mV_X10_fails  wm_X10_178 obR_0 rfl rfl (Nat.le_of_ble_eq_true rfl) ⟨by decide, by decide⟩ ⟨by decide, by decide⟩ dX10_account_26 ?_
  refine g_if_eq (tgt := 34) hC (by decide) dX10_account_29 (fun c12 => ?_) (fun c12 => ?_)
  · replace h := gq_t c12 h
    refine g_iconst (v := 0) hC (by decide) dX10_account_34 ?_
    refine g_istore_n (L2 := [(3, .int 0), (0, .ref (ad 0)), (1, .int x1), (2, .int x2)]) hC rfl (by decide) rfl dX10_account_35 ?_
    refine g_iconst (v := 0) hC (by decide) dX10_account_36 ?_
    refine g_istore (L2 := [(4, .int 0), (3, .int 0), (0, .ref (ad 0)), (1, .int x1), (2, .int x2)]) hC (by decide) rfl dX10_account_37 ?_
    exact g_weak [2, 3, 4, 1, 0] rfl (t_X10_account_39 hC hr  N x1 x2 0 0 M10 h)
  · replace h := gq_f c12 h
    refine g_iconst (v := 0) hC (by decide) dX10_account_32 ?_
    exact g_irets hC hr h dX10_account_33
def f_X10_account (N : Nat) (a1 : Int32) (a2 : Int32) (M : gq_M) : Option (Int32 × gq_M) :=
  gq_b (f_X10_isEight N a1 M) fun v1 M2 => if v1 = 0 then (f_X10_account_26 N  a1 a2 1 M2) else (gq_b (f_X10_isIn N a2 0 2 M2) fun v5 M6 => if v5 = 0 then (f_X10_account_26 N  a1 a2 2 M6) else (f_X10_account_26 N  a1 a2 0 M6))
set_option maxHeartbeats 1000000 in
set_option maxRecDepth 20000 in
theorem t_X10_account {l : Launch} {D : va_G} {cI cZ : ClassId} {ad : Nat → Nat} (N : Nat) (a1 : Int32) (a2 : Int32) (M : gq_M) (v9 : Int32) (M9 : gq_M) (h : f_X10_account N a1 a2 M = some (v9, M9)) : gq_Ci l D cI cZ ad mtR yX10_account cX10_account 5 (some .int) 2 [.ref (ad 0), .int a1, .int a2] M v9 M9 := by
  refine gq_introI (own := RX10) (by decide) rfl (Nat.le_of_ble_eq_true rfl) ?_
  intro p e s m below meth c hC hr
  refine g_cast (L2 := [(0, .ref (ad 0)), (1, .int a1), (2, .int a2)]) ?_ rfl rfl rfl rfl
  unfold f_X10_account at h
  refine g_aload_n hC 0 rfl rfl dX10_account_0 ?_
  refine g_iload_n hC 1 rfl rfl dX10_account_1 ?_
  obtain ⟨v1, M2, c3, h⟩ := gq_b_i h
  refine g_Si (as := [.int a1]) hC (t_X10_isEight N _ _ _ _ c3) mS_X10_isEight wm_X10_170 rfl rfl (Nat.le_of_ble_eq_true rfl) ⟨by decide, by decide⟩ ⟨by decide, by decide⟩ dX10_account_2 ?_
  refine g_if_ne (tgt := 12) hC (by decide) dX10_account_5 (fun c4 => ?_) (fun c4 => ?_)
  · replace h := gq_f c4 h
    refine g_iload_n hC 2 rfl rfl dX10_account_12 ?_
    refine g_iconst (v := 0) hC (by decide) dX10_account_13 ?_
    refine g_iconst (v := 2) hC (by decide) dX10_account_14 ?_
    obtain ⟨v5, M6, c7, h⟩ := gq_b_i h
    refine g_Si (as := [.int a2, .int 0, .int 2]) hC (t_X10_isIn N _ _ _ _ _ _ c7) mS_X10_isIn wm_X10_163 rfl rfl (Nat.le_of_ble_eq_true rfl) ⟨by decide, by decide⟩ ⟨by decide, by decide⟩ dX10_account_15 ?_
    refine g_if_eq (tgt := 25) hC (by decide) dX10_account_18 (fun c8 => ?_) (fun c8 => ?_)
    · replace h := gq_t c8 h
      refine g_iconst (v := 2) hC (by decide) dX10_account_25 ?_
      exact g_weak [0, 1, 2] rfl (t_X10_account_26 hC hr  a1 a2 2 M6 h)
    · replace h := gq_f c8 h
      refine g_iconst (v := 0) hC (by decide) dX10_account_21 ?_
      refine g_goto (tgt := 26) hC (by decide) dX10_account_22 ?_
      exact g_weak [0, 1, 2] rfl (t_X10_account_26 hC hr  a1 a2 0 M6 h)
  · replace h := gq_t c4 h
    refine g_iconst (v := 1) hC (by decide) dX10_account_8 ?_
    refine g_goto (tgt := 26) hC (by decide) dX10_account_9 ?_
    exact g_weak [0, 1, 2] rfl (t_X10_account_26 hC hr  a1 a2 1 M2 h)
def f_X10_ship_95 (N : Nat) (s0 : Int32) (M : gq_M) : Option (Int32 × gq_M) :=
  some (s0, M)
set_option maxHeartbeats 1000000 in
set_option maxRecDepth 20000 in
theorem t_X10_ship_95 {N : Nat} {v9 : Int32} {M9 : gq_M} (hC : gq_C p s m args meth c D A cI cZ ad mtR RX10 cX10_ship 5) (hr : meth.sig.returnType = (some .int))   : ∀ (s0 : Int32) (M : gq_M), f_X10_ship_95 N  s0 M = some (v9, M9) → gq_W p l e (gq_rm 2) s m args below meth c D A cI cZ ad mtR 5 (MQ below (gq_Qi D cI cZ ad mtR v9 M9 A) args s 0 0 A) 95 [] [.int s0] M 0 0 := by
  intro s0 M h
  unfold f_X10_ship_95 at h
  exact g_irets hC hr h dX10_ship_95
def f_X10_ship_41_b (N : Nat) (kh41 : Int32 → Int32 → Int32 → Int32 → gq_M → Option (Int32 × gq_M)) (x1 : Int32) (x2 : Int32) (x3 : Int32) (x4 : Int32) (M : gq_M) : Option (Int32 × gq_M) :=
  if ((4 * x1) + 4) ≤ x4 then (if x2 = 0 then (gq_g (gq_in x1 8) (gq_l (M 5 x1.toNatClampNeg) fun v19 => f_X10_ship_95 N  v19 M)) else (if x2 = 1 then (gq_g (gq_in x1 8) (gq_l (M 3 x1.toNatClampNeg) fun v17 => f_X10_ship_95 N  v17 M)) else (f_X10_ship_95 N  x3 M))) else (gq_g (gq_in x4 32) (gq_l (M 2 x4.toNatClampNeg) fun v21 => kh41 x1 x2 (x3 + v21) (x4 + 1) M))
def f_X10_ship_41 (N : Nat) : Nat → Int32 → Int32 → Int32 → Int32 → gq_M → Option (Int32 × gq_M)
  | 0 => fun _ _ _ _ _ => none
  | n9 + 1 => f_X10_ship_41_b N  (f_X10_ship_41 N  n9)
set_option maxHeartbeats 1000000 in
set_option maxRecDepth 20000 in
theorem t_X10_ship_41_b {N : Nat} {kh41 : Int32 → Int32 → Int32 → Int32 → gq_M → Option (Int32 × gq_M)} {v9 : Int32} {M9 : gq_M} (hC : gq_C p s m args meth c D A cI cZ ad mtR RX10 cX10_ship 5) (hr : meth.sig.returnType = (some .int))  (hk41 : ∀ (x1 : Int32) (x2 : Int32) (x3 : Int32) (x4 : Int32) (M : gq_M), kh41 x1 x2 x3 x4 M = some (v9, M9) → gq_W p l e (gq_rm 2) s m args below meth c D A cI cZ ad mtR 5 (MQ below (gq_Qi D cI cZ ad mtR v9 M9 A) args s 0 0 A) 41 [(0, .ref (ad 0)), (1, .int x1), (2, .int x2), (3, .int x3), (4, .int x4)] [] M 0 0) : ∀ (x1 : Int32) (x2 : Int32) (x3 : Int32) (x4 : Int32) (M : gq_M), f_X10_ship_41_b N  kh41 x1 x2 x3 x4 M = some (v9, M9) → gq_W p l e (gq_rm 2) s m args below meth c D A cI cZ ad mtR 5 (MQ below (gq_Qi D cI cZ ad mtR v9 M9 A) args s 0 0 A) 41 [(0, .ref (ad 0)), (1, .int x1), (2, .int x2), (3, .int x3), (4, .int x4)] [] M 0 0 := by
  intro x1 x2 x3 x4 M h
  unfold f_X10_ship_41_b at h
  refine g_iload hC 4 rfl dX10_ship_41 ?_
  refine g_iconst (v := 4) hC (by decide) dX10_ship_43 ?_
  refine g_iload_n hC 1 rfl rfl dX10_ship_44 ?_
  refine g_imul hC dX10_ship_45 ?_
  refine g_iconst (v := 4) hC (by decide) dX10_ship_46 ?_
  refine g_iadd hC dX10_ship_47 ?_
  refine g_icmp_ge (tgt := 67) hC (by decide) dX10_ship_48 (fun c13 => ?_) (fun c13 => ?_)
  · replace h := gq_t c13 h
    refine g_iload_n hC 2 rfl rfl dX10_ship_67 ?_
    refine g_if_ne (tgt := 80) hC (by decide) dX10_ship_68 (fun c14 => ?_) (fun c14 => ?_)
    · replace h := gq_f c14 h
      refine g_iload_n hC 2 rfl rfl dX10_ship_80 ?_
      refine g_iconst (v := 1) hC (by decide) dX10_ship_81 ?_
      refine g_icmp_ne (tgt := 94) hC (by decide) dX10_ship_82 (fun c15 => ?_) (fun c15 => ?_)
      · replace h := gq_f c15 h
        refine g_iload_n hC 3 rfl rfl dX10_ship_94 ?_
        exact g_weak [] rfl (t_X10_ship_95 hC hr  x3 M h)
      · replace h := gq_t c15 h
        refine g_aload_n hC 0 rfl rfl dX10_ship_85 ?_
        refine g_getR hC fF_X10_20 lkR_0_6 dX10_ship_86 ?_
        refine g_iload_n hC 1 rfl rfl dX10_ship_89 ?_
        obtain ⟨g16, h⟩ := gq_g_i h
        refine g_iald hC arR_3 (gq_in_i g16) dX10_ship_90 ?_
        refine g_topi (fun v17 hv17 => ?_)
        replace h := gq_l_i hv17 h
        refine g_goto (tgt := 95) hC (by decide) dX10_ship_91 ?_
        exact g_weak [] rfl (t_X10_ship_95 hC hr  v17 M h)
    · replace h := gq_t c14 h
      refine g_aload_n hC 0 rfl rfl dX10_ship_71 ?_
      refine g_getR hC fF_X10_27 lkR_0_8 dX10_ship_72 ?_
      refine g_iload_n hC 1 rfl rfl dX10_ship_75 ?_
      obtain ⟨g18, h⟩ := gq_g_i h
      refine g_iald hC arR_5 (gq_in_i g18) dX10_ship_76 ?_
      refine g_topi (fun v19 hv19 => ?_)
      replace h := gq_l_i hv19 h
      refine g_goto (tgt := 95) hC (by decide) dX10_ship_77 ?_
      exact g_weak [] rfl (t_X10_ship_95 hC hr  v19 M h)
  · replace h := gq_f c13 h
    refine g_iload_n hC 3 rfl rfl dX10_ship_51 ?_
    refine g_aload_n hC 0 rfl rfl dX10_ship_52 ?_
    refine g_getR hC fF_X10_17 lkR_0_5 dX10_ship_53 ?_
    refine g_iload hC 4 rfl dX10_ship_56 ?_
    obtain ⟨g20, h⟩ := gq_g_i h
    refine g_iald hC arR_2 (gq_in_i g20) dX10_ship_58 ?_
    refine g_topi (fun v21 hv21 => ?_)
    replace h := gq_l_i hv21 h
    refine g_iadd hC dX10_ship_59 ?_
    refine g_istore_n (L2 := [(3, .int (x3 + v21)), (0, .ref (ad 0)), (1, .int x1), (2, .int x2), (4, .int x4)]) hC rfl (by decide) rfl dX10_ship_60 ?_
    refine g_iinc (v := (x4 + 1)) (L2 := [(4, .int (x4 + 1)), (3, .int (x3 + v21)), (0, .ref (ad 0)), (1, .int x1), (2, .int x2)]) hC 4 rfl (by first | rfl | decide) (by decide) rfl dX10_ship_61 ?_
    refine g_goto (tgt := 41) hC (by decide) dX10_ship_64 ?_
    exact g_weak [2, 3, 4, 1, 0] rfl (hk41 x1 x2 (x3 + v21) (x4 + 1) M h)
theorem t_X10_ship_41 {N : Nat} {v9 : Int32} {M9 : gq_M} (hC : gq_C p s m args meth c D A cI cZ ad mtR RX10 cX10_ship 5) (hr : meth.sig.returnType = (some .int))  : ∀ (n9 : Nat) (x1 : Int32) (x2 : Int32) (x3 : Int32) (x4 : Int32) (M : gq_M), f_X10_ship_41 N  n9 x1 x2 x3 x4 M = some (v9, M9) → gq_W p l e (gq_rm 2) s m args below meth c D A cI cZ ad mtR 5 (MQ below (gq_Qi D cI cZ ad mtR v9 M9 A) args s 0 0 A) 41 [(0, .ref (ad 0)), (1, .int x1), (2, .int x2), (3, .int x3), (4, .int x4)] [] M 0 0 := by
  intro n9
  induction n9 with
  | zero => intro x1 x2 x3 x4 M h; cases h
  | succ n9 ih => intro x1 x2 x3 x4 M h; exact t_X10_ship_41_b hC hr  ih x1 x2 x3 x4 M h
def f_X10_ship_26 (N : Nat) (x1 : Int32) (x2 : Int32) (s1 : Int32) (M : gq_M) : Option (Int32 × gq_M) :=
  gq_b (f_X10_fails N s1 M) fun v9 M10 => if v9 = 0 then (f_X10_ship_41 N  N x1 x2 0 (4 * x1) M10) else (some (0, M10))
set_option maxHeartbeats 1000000 in
set_option maxRecDepth 20000 in
theorem t_X10_ship_26 {N : Nat} {v9 : Int32} {M9 : gq_M} (hC : gq_C p s m args meth c D A cI cZ ad mtR RX10 cX10_ship 5) (hr : meth.sig.returnType = (some .int))   : ∀ (x1 : Int32) (x2 : Int32) (s1 : Int32) (M : gq_M), f_X10_ship_26 N  x1 x2 s1 M = some (v9, M9) → gq_W p l e (gq_rm 2) s m args below meth c D A cI cZ ad mtR 5 (MQ below (gq_Qi D cI cZ ad mtR v9 M9 A) args s 0 0 A) 26 [(0, .ref (ad 0)), (1, .int x1), (2, .int x2)] [.int s1, .ref (ad 0)] M 0 0 := by
  intro x1 x2 s1 M h
  unfold f_X10_ship_26 at h
  obtain ⟨v9, M10, c11, h⟩ := gq_b_i h
  refine g_Vi (as := [.int s1]) hC (t_X10_fails N _ _ _ _ c11) mV_X10_fails  wm_X10_178 obR_0 rfl rfl (Nat.le_of_ble_eq_true rfl) ⟨by decide, by decide⟩ ⟨by decide, by decide⟩ dX10_ship_26 ?_
  refine g_if_eq (tgt := 34) hC (by decide) dX10_ship_29 (fun c12 => ?_) (fun c12 => ?_)
  · replace h := gq_t c12 h
    refine g_iconst (v := 0) hC (by decide) dX10_ship_34 ?_
    refine g_istore_n (L2 := [(3, .int 0), (0, .ref (ad 0)), (1, .int x1), (2, .int x2)]) hC rfl (by decide) rfl dX10_ship_35 ?_
    refine g_iconst (v := 4) hC (by decide) dX10_ship_36 ?_
    refine g_iload_n hC 2 rfl rfl dX10_ship_37 ?_
    refine g_imul hC dX10_ship_38 ?_
    refine g_istore (L2 := [(4, .int (4 * x1)), (3, .int 0), (0, .ref (ad 0)), (1, .int x1), (2, .int x2)]) hC (by decide) rfl dX10_ship_39 ?_
    exact g_weak [2, 3, 4, 1, 0] rfl (t_X10_ship_41 hC hr  N x1 x2 0 (4 * x1) M10 h)
  · replace h := gq_f c12 h
    refine g_iconst (v := 0) hC (by decide) dX10_ship_32 ?_
    exact g_irets hC hr h dX10_ship_33
def f_X10_ship (N : Nat) (a1 : Int32) (a2 : Int32) (M : gq_M) : Option (Int32 × gq_M) :=
  gq_b (f_X10_isEight N a1 M) fun v1 M2 => if v1 = 0 then (f_X10_ship_26 N  a1 a2 1 M2) else (gq_b (f_X10_isIn N a2 0 2 M2) fun v5 M6 => if v5 = 0 then (f_X10_ship_26 N  a1 a2 2 M6) else (f_X10_ship_26 N  a1 a2 0 M6))
set_option maxHeartbeats 1000000 in
set_option maxRecDepth 20000 in
theorem t_X10_ship {l : Launch} {D : va_G} {cI cZ : ClassId} {ad : Nat → Nat} (N : Nat) (a1 : Int32) (a2 : Int32) (M : gq_M) (v9 : Int32) (M9 : gq_M) (h : f_X10_ship N a1 a2 M = some (v9, M9)) : gq_Ci l D cI cZ ad mtR yX10_ship cX10_ship 5 (some .int) 2 [.ref (ad 0), .int a1, .int a2] M v9 M9 := by
  refine gq_introI (own := RX10) (by decide) rfl (Nat.le_of_ble_eq_true rfl) ?_
  intro p e s m below meth c hC hr
  refine g_cast (L2 := [(0, .ref (ad 0)), (1, .int a1), (2, .int a2)]) ?_ rfl rfl rfl rfl
  unfold f_X10_ship at h
  refine g_aload_n hC 0 rfl rfl dX10_ship_0 ?_
  refine g_iload_n hC 1 rfl rfl dX10_ship_1 ?_
  obtain ⟨v1, M2, c3, h⟩ := gq_b_i h
  refine g_Si (as := [.int a1]) hC (t_X10_isEight N _ _ _ _ c3) mS_X10_isEight wm_X10_170 rfl rfl (Nat.le_of_ble_eq_true rfl) ⟨by decide, by decide⟩ ⟨by decide, by decide⟩ dX10_ship_2 ?_
  refine g_if_ne (tgt := 12) hC (by decide) dX10_ship_5 (fun c4 => ?_) (fun c4 => ?_)
  · replace h := gq_f c4 h
    refine g_iload_n hC 2 rfl rfl dX10_ship_12 ?_
    refine g_iconst (v := 0) hC (by decide) dX10_ship_13 ?_
    refine g_iconst (v := 2) hC (by decide) dX10_ship_14 ?_
    obtain ⟨v5, M6, c7, h⟩ := gq_b_i h
    refine g_Si (as := [.int a2, .int 0, .int 2]) hC (t_X10_isIn N _ _ _ _ _ _ c7) mS_X10_isIn wm_X10_163 rfl rfl (Nat.le_of_ble_eq_true rfl) ⟨by decide, by decide⟩ ⟨by decide, by decide⟩ dX10_ship_15 ?_
    refine g_if_eq (tgt := 25) hC (by decide) dX10_ship_18 (fun c8 => ?_) (fun c8 => ?_)
    · replace h := gq_t c8 h
      refine g_iconst (v := 2) hC (by decide) dX10_ship_25 ?_
      exact g_weak [0, 1, 2] rfl (t_X10_ship_26 hC hr  a1 a2 2 M6 h)
    · replace h := gq_f c8 h
      refine g_iconst (v := 0) hC (by decide) dX10_ship_21 ?_
      refine g_goto (tgt := 26) hC (by decide) dX10_ship_22 ?_
      exact g_weak [0, 1, 2] rfl (t_X10_ship_26 hC hr  a1 a2 0 M6 h)
  · replace h := gq_t c4 h
    refine g_iconst (v := 1) hC (by decide) dX10_ship_8 ?_
    refine g_goto (tgt := 26) hC (by decide) dX10_ship_9 ?_
    exact g_weak [0, 1, 2] rfl (t_X10_ship_26 hC hr  a1 a2 1 M2 h)
def f_X10_isOf_108 (N : Nat) (s0 : Int32) (M : gq_M) : Option (Int32 × gq_M) :=
  gq_g (gq_bb s0) (some (s0, M))
set_option maxHeartbeats 1000000 in
set_option maxRecDepth 20000 in
theorem t_X10_isOf_108 {N : Nat} {v9 : Int32} {M9 : gq_M} (hC : gq_C p s m args meth c D A cI cZ ad mtR RX10 cX10_isOf 2) (hr : meth.sig.returnType = (some .boolean))   : ∀ (s0 : Int32) (M : gq_M), f_X10_isOf_108 N  s0 M = some (v9, M9) → gq_W p l e (gq_rm 0) s m args below meth c D A cI cZ ad mtR 2 (MQ below (gq_Qi D cI cZ ad mtR v9 M9 A) args s 0 0 A) 108 [] [.int s0] M 0 0 := by
  intro s0 M h
  unfold f_X10_isOf_108 at h
  obtain ⟨g14, h⟩ := gq_g_i h
  exact g_zrets hC hr (gq_bb_i g14) h dX10_isOf_108
def f_X10_isOf_103 (N : Nat) (M : gq_M) : Option (Int32 × gq_M) :=
  f_X10_isOf_108 N  1 M
set_option maxHeartbeats 1000000 in
set_option maxRecDepth 20000 in
theorem t_X10_isOf_103 {N : Nat} {v9 : Int32} {M9 : gq_M} (hC : gq_C p s m args meth c D A cI cZ ad mtR RX10 cX10_isOf 2) (hr : meth.sig.returnType = (some .boolean))   : ∀ (M : gq_M), f_X10_isOf_103 N   M = some (v9, M9) → gq_W p l e (gq_rm 0) s m args below meth c D A cI cZ ad mtR 2 (MQ below (gq_Qi D cI cZ ad mtR v9 M9 A) args s 0 0 A) 103 [] [] M 0 0 := by
  intro  M h
  unfold f_X10_isOf_103 at h
  refine g_iconst (v := 1) hC (by decide) dX10_isOf_103 ?_
  refine g_goto (tgt := 108) hC (by decide) dX10_isOf_104 ?_
  exact g_weak [] rfl (t_X10_isOf_108 hC hr  1 M h)
def f_X10_isOf_87 (N : Nat) (s0 : Int32) (M : gq_M) : Option (Int32 × gq_M) :=
  gq_g (gq_bb s0) (some (s0, M))
set_option maxHeartbeats 1000000 in
set_option maxRecDepth 20000 in
theorem t_X10_isOf_87 {N : Nat} {v9 : Int32} {M9 : gq_M} (hC : gq_C p s m args meth c D A cI cZ ad mtR RX10 cX10_isOf 2) (hr : meth.sig.returnType = (some .boolean))   : ∀ (s0 : Int32) (M : gq_M), f_X10_isOf_87 N  s0 M = some (v9, M9) → gq_W p l e (gq_rm 0) s m args below meth c D A cI cZ ad mtR 2 (MQ below (gq_Qi D cI cZ ad mtR v9 M9 A) args s 0 0 A) 87 [] [.int s0] M 0 0 := by
  intro s0 M h
  unfold f_X10_isOf_87 at h
  obtain ⟨g15, h⟩ := gq_g_i h
  exact g_zrets hC hr (gq_bb_i g15) h dX10_isOf_87
def f_X10_isOf_76 (N : Nat) (s0 : Int32) (M : gq_M) : Option (Int32 × gq_M) :=
  gq_g (gq_bb s0) (some (s0, M))
set_option maxHeartbeats 1000000 in
set_option maxRecDepth 20000 in
theorem t_X10_isOf_76 {N : Nat} {v9 : Int32} {M9 : gq_M} (hC : gq_C p s m args meth c D A cI cZ ad mtR RX10 cX10_isOf 2) (hr : meth.sig.returnType = (some .boolean))   : ∀ (s0 : Int32) (M : gq_M), f_X10_isOf_76 N  s0 M = some (v9, M9) → gq_W p l e (gq_rm 0) s m args below meth c D A cI cZ ad mtR 2 (MQ below (gq_Qi D cI cZ ad mtR v9 M9 A) args s 0 0 A) 76 [] [.int s0] M 0 0 := by
  intro s0 M h
  unfold f_X10_isOf_76 at h
  obtain ⟨g16, h⟩ := gq_g_i h
  exact g_zrets hC hr (gq_bb_i g16) h dX10_isOf_76
def f_X10_isOf_64 (N : Nat) (s0 : Int32) (M : gq_M) : Option (Int32 × gq_M) :=
  gq_g (gq_bb s0) (some (s0, M))
set_option maxHeartbeats 1000000 in
set_option maxRecDepth 20000 in
theorem t_X10_isOf_64 {N : Nat} {v9 : Int32} {M9 : gq_M} (hC : gq_C p s m args meth c D A cI cZ ad mtR RX10 cX10_isOf 2) (hr : meth.sig.returnType = (some .boolean))   : ∀ (s0 : Int32) (M : gq_M), f_X10_isOf_64 N  s0 M = some (v9, M9) → gq_W p l e (gq_rm 0) s m args below meth c D A cI cZ ad mtR 2 (MQ below (gq_Qi D cI cZ ad mtR v9 M9 A) args s 0 0 A) 64 [] [.int s0] M 0 0 := by
  intro s0 M h
  unfold f_X10_isOf_64 at h
  obtain ⟨g17, h⟩ := gq_g_i h
  exact g_zrets hC hr (gq_bb_i g17) h dX10_isOf_64
def f_X10_isOf_53 (N : Nat) (s0 : Int32) (M : gq_M) : Option (Int32 × gq_M) :=
  gq_g (gq_bb s0) (some (s0, M))
set_option maxHeartbeats 1000000 in
set_option maxRecDepth 20000 in
theorem t_X10_isOf_53 {N : Nat} {v9 : Int32} {M9 : gq_M} (hC : gq_C p s m args meth c D A cI cZ ad mtR RX10 cX10_isOf 2) (hr : meth.sig.returnType = (some .boolean))   : ∀ (s0 : Int32) (M : gq_M), f_X10_isOf_53 N  s0 M = some (v9, M9) → gq_W p l e (gq_rm 0) s m args below meth c D A cI cZ ad mtR 2 (MQ below (gq_Qi D cI cZ ad mtR v9 M9 A) args s 0 0 A) 53 [] [.int s0] M 0 0 := by
  intro s0 M h
  unfold f_X10_isOf_53 at h
  obtain ⟨g18, h⟩ := gq_g_i h
  exact g_zrets hC hr (gq_bb_i g18) h dX10_isOf_53
def f_X10_isOf_48 (N : Nat) (M : gq_M) : Option (Int32 × gq_M) :=
  f_X10_isOf_53 N  1 M
set_option maxHeartbeats 1000000 in
set_option maxRecDepth 20000 in
theorem t_X10_isOf_48 {N : Nat} {v9 : Int32} {M9 : gq_M} (hC : gq_C p s m args meth c D A cI cZ ad mtR RX10 cX10_isOf 2) (hr : meth.sig.returnType = (some .boolean))   : ∀ (M : gq_M), f_X10_isOf_48 N   M = some (v9, M9) → gq_W p l e (gq_rm 0) s m args below meth c D A cI cZ ad mtR 2 (MQ below (gq_Qi D cI cZ ad mtR v9 M9 A) args s 0 0 A) 48 [] [] M 0 0 := by
  intro  M h
  unfold f_X10_isOf_48 at h
  refine g_iconst (v := 1) hC (by decide) dX10_isOf_48 ?_
  refine g_goto (tgt := 53) hC (by decide) dX10_isOf_49 ?_
  exact g_weak [] rfl (t_X10_isOf_53 hC hr  1 M h)
def f_X10_isOf (N : Nat) (a0 : Int32) (a1 : Int32) (M : gq_M) : Option (Int32 × gq_M) :=
  if a1 = 0 then (some (1, M)) else if a1 = 1 then (if a0 = 3 then (f_X10_isOf_48 N   M) else (if a0 = 4 then (f_X10_isOf_48 N   M) else (f_X10_isOf_53 N  0 M))) else if a1 = 2 then (if a0 = 5 then (f_X10_isOf_64 N  1 M) else (f_X10_isOf_64 N  0 M)) else if a1 = 3 then (if a0 = 7 then (f_X10_isOf_76 N  1 M) else (f_X10_isOf_76 N  0 M)) else if a1 = 4 then (if a0 = 1 then (f_X10_isOf_87 N  1 M) else (f_X10_isOf_87 N  0 M)) else (if a0 = 0 then (f_X10_isOf_103 N   M) else (if a0 = 6 then (f_X10_isOf_103 N   M) else (if a0 = 2 then (f_X10_isOf_103 N   M) else (f_X10_isOf_108 N  0 M))))
set_option maxHeartbeats 1000000 in
set_option maxRecDepth 20000 in
theorem t_X10_isOf {l : Launch} {D : va_G} {cI cZ : ClassId} {ad : Nat → Nat} (N : Nat) (a0 : Int32) (a1 : Int32) (M : gq_M) (v9 : Int32) (M9 : gq_M) (h : f_X10_isOf N a0 a1 M = some (v9, M9)) : gq_Ci l D cI cZ ad mtR yX10_isOf cX10_isOf 2 (some .boolean) 0 [.int a0, .int a1] M v9 M9 := by
  refine gq_introI (own := RX10) (by decide) rfl (Nat.le_of_ble_eq_true rfl) ?_
  intro p e s m below meth c hC hr
  refine g_cast (L2 := [(0, .int a0), (1, .int a1)]) ?_ rfl rfl rfl rfl
  unfold f_X10_isOf at h
  refine g_iload_n hC 1 rfl rfl dX10_isOf_0 ?_
  rcases gq_or h with ⟨c1, h⟩ | ⟨c1, h⟩
  · refine g_tsIn (tgt := 36) hC (by rw [c1]; decide) (by rw [c1]; decide) (by rw [c1]; rfl) (by decide) dX10_isOf_1 ?_
    refine g_iconst (v := 1) hC (by decide) dX10_isOf_36 ?_
    exact g_zrets hC hr gq_bit1 h dX10_isOf_37
  rcases gq_or h with ⟨c2, h⟩ | ⟨c2, h⟩
  · refine g_tsIn (tgt := 38) hC (by rw [c2]; decide) (by rw [c2]; decide) (by rw [c2]; rfl) (by decide) dX10_isOf_1 ?_
    refine g_iload_n hC 0 rfl rfl dX10_isOf_38 ?_
    refine g_iconst (v := 3) hC (by decide) dX10_isOf_39 ?_
    refine g_icmp_eq (tgt := 48) hC (by decide) dX10_isOf_40 (fun c3 => ?_) (fun c3 => ?_)
    · replace h := gq_t c3 h
      exact g_weak [] rfl (t_X10_isOf_48 hC hr   M h)
    · replace h := gq_f c3 h
      refine g_iload_n hC 0 rfl rfl dX10_isOf_43 ?_
      refine g_iconst (v := 4) hC (by decide) dX10_isOf_44 ?_
      refine g_icmp_ne (tgt := 52) hC (by decide) dX10_isOf_45 (fun c4 => ?_) (fun c4 => ?_)
      · replace h := gq_f c4 h
        refine g_iconst (v := 0) hC (by decide) dX10_isOf_52 ?_
        exact g_weak [] rfl (t_X10_isOf_53 hC hr  0 M h)
      · replace h := gq_t c4 h
        exact g_weak [] rfl (t_X10_isOf_48 hC hr   M h)
  rcases gq_or h with ⟨c5, h⟩ | ⟨c5, h⟩
  · refine g_tsIn (tgt := 54) hC (by rw [c5]; decide) (by rw [c5]; decide) (by rw [c5]; rfl) (by decide) dX10_isOf_1 ?_
    refine g_iload_n hC 0 rfl rfl dX10_isOf_54 ?_
    refine g_iconst (v := 5) hC (by decide) dX10_isOf_55 ?_
    refine g_icmp_ne (tgt := 63) hC (by decide) dX10_isOf_56 (fun c6 => ?_) (fun c6 => ?_)
    · replace h := gq_f c6 h
      refine g_iconst (v := 0) hC (by decide) dX10_isOf_63 ?_
      exact g_weak [] rfl (t_X10_isOf_64 hC hr  0 M h)
    · replace h := gq_t c6 h
      refine g_iconst (v := 1) hC (by decide) dX10_isOf_59 ?_
      refine g_goto (tgt := 64) hC (by decide) dX10_isOf_60 ?_
      exact g_weak [] rfl (t_X10_isOf_64 hC hr  1 M h)
  rcases gq_or h with ⟨c7, h⟩ | ⟨c7, h⟩
  · refine g_tsIn (tgt := 65) hC (by rw [c7]; decide) (by rw [c7]; decide) (by rw [c7]; rfl) (by decide) dX10_isOf_1 ?_
    refine g_iload_n hC 0 rfl rfl dX10_isOf_65 ?_
    refine g_bipush (v := 7) hC (by decide) dX10_isOf_66 ?_
    refine g_icmp_ne (tgt := 75) hC (by decide) dX10_isOf_68 (fun c8 => ?_) (fun c8 => ?_)
    · replace h := gq_f c8 h
      refine g_iconst (v := 0) hC (by decide) dX10_isOf_75 ?_
      exact g_weak [] rfl (t_X10_isOf_76 hC hr  0 M h)
    · replace h := gq_t c8 h
      refine g_iconst (v := 1) hC (by decide) dX10_isOf_71 ?_
      refine g_goto (tgt := 76) hC (by decide) dX10_isOf_72 ?_
      exact g_weak [] rfl (t_X10_isOf_76 hC hr  1 M h)
  rcases gq_or h with ⟨c9, h⟩ | ⟨c9, h⟩
  · refine g_tsIn (tgt := 77) hC (by rw [c9]; decide) (by rw [c9]; decide) (by rw [c9]; rfl) (by decide) dX10_isOf_1 ?_
    refine g_iload_n hC 0 rfl rfl dX10_isOf_77 ?_
    refine g_iconst (v := 1) hC (by decide) dX10_isOf_78 ?_
    refine g_icmp_ne (tgt := 86) hC (by decide) dX10_isOf_79 (fun c10 => ?_) (fun c10 => ?_)
    · replace h := gq_f c10 h
      refine g_iconst (v := 0) hC (by decide) dX10_isOf_86 ?_
      exact g_weak [] rfl (t_X10_isOf_87 hC hr  0 M h)
    · replace h := gq_t c10 h
      refine g_iconst (v := 1) hC (by decide) dX10_isOf_82 ?_
      refine g_goto (tgt := 87) hC (by decide) dX10_isOf_83 ?_
      exact g_weak [] rfl (t_X10_isOf_87 hC hr  1 M h)
  refine g_tsOut (tgt := 88) hC (by have z0 := lv_neT c1 (a := 0) (by decide); have z1 := lv_neT c2 (a := 1) (by decide); have z2 := lv_neT c5 (a := 2) (by decide); have z3 := lv_neT c7 (a := 3) (by decide); have z4 := lv_neT c9 (a := 4) (by decide); omega) (by decide) dX10_isOf_1 ?_
  refine g_iload_n hC 0 rfl rfl dX10_isOf_88 ?_
  refine g_if_eq (tgt := 103) hC (by decide) dX10_isOf_89 (fun c11 => ?_) (fun c11 => ?_)
  · replace h := gq_t c11 h
    exact g_weak [] rfl (t_X10_isOf_103 hC hr   M h)
  · replace h := gq_f c11 h
    refine g_iload_n hC 0 rfl rfl dX10_isOf_92 ?_
    refine g_bipush (v := 6) hC (by decide) dX10_isOf_93 ?_
    refine g_icmp_eq (tgt := 103) hC (by decide) dX10_isOf_95 (fun c12 => ?_) (fun c12 => ?_)
    · replace h := gq_t c12 h
      exact g_weak [] rfl (t_X10_isOf_103 hC hr   M h)
    · replace h := gq_f c12 h
      refine g_iload_n hC 0 rfl rfl dX10_isOf_98 ?_
      refine g_iconst (v := 2) hC (by decide) dX10_isOf_99 ?_
      refine g_icmp_ne (tgt := 107) hC (by decide) dX10_isOf_100 (fun c13 => ?_) (fun c13 => ?_)
      · replace h := gq_f c13 h
        refine g_iconst (v := 0) hC (by decide) dX10_isOf_107 ?_
        exact g_weak [] rfl (t_X10_isOf_108 hC hr  0 M h)
      · replace h := gq_t c13 h
        exact g_weak [] rfl (t_X10_isOf_103 hC hr   M h)
def f_X10_kilos_59 (N : Nat) (kh27 : Int32 → Int32 → Int32 → gq_M → Option (Int32 × gq_M)) (x1 : Int32) (x3 : Int32) (s0 : Int32) (s1 : Int32) (M : gq_M) : Option (Int32 × gq_M) :=
  kh27 x1 (s0 + s1) (x3 + 1) M
set_option maxHeartbeats 1000000 in
set_option maxRecDepth 20000 in
theorem t_X10_kilos_59 {N : Nat} {kh27 : Int32 → Int32 → Int32 → gq_M → Option (Int32 × gq_M)} {v9 : Int32} {M9 : gq_M} (hC : gq_C p s m args meth c D A cI cZ ad mtR RX10 cX10_kilos 4) (hr : meth.sig.returnType = (some .int)) (hk27 : ∀ (x1 : Int32) (x2 : Int32) (x3 : Int32) (M : gq_M), kh27 x1 x2 x3 M = some (v9, M9) → gq_W p l e (gq_rm 1) s m args below meth c D A cI cZ ad mtR 4 (MQ below (gq_Qi D cI cZ ad mtR v9 M9 A) args s 0 0 A) 27 [(0, .ref (ad 0)), (1, .int x1), (2, .int x2), (3, .int x3)] [] M 0 0)  : ∀ (x1 : Int32) (x3 : Int32) (s0 : Int32) (s1 : Int32) (M : gq_M), f_X10_kilos_59 N kh27 x1 x3 s0 s1 M = some (v9, M9) → gq_W p l e (gq_rm 1) s m args below meth c D A cI cZ ad mtR 4 (MQ below (gq_Qi D cI cZ ad mtR v9 M9 A) args s 0 0 A) 59 [(0, .ref (ad 0)), (1, .int x1), (3, .int x3)] [.int s1, .int s0] M 0 0 := by
  intro x1 x3 s0 s1 M h
  unfold f_X10_kilos_59 at h
  refine g_iadd hC dX10_kilos_59 ?_
  refine g_istore_n (L2 := [(2, .int (s0 + s1)), (0, .ref (ad 0)), (1, .int x1), (3, .int x3)]) hC rfl (by decide) rfl dX10_kilos_60 ?_
  refine g_iinc (v := (x3 + 1)) (L2 := [(3, .int (x3 + 1)), (2, .int (s0 + s1)), (0, .ref (ad 0)), (1, .int x1)]) hC 3 rfl (by first | rfl | decide) (by decide) rfl dX10_kilos_61 ?_
  refine g_goto (tgt := 27) hC (by decide) dX10_kilos_64 ?_
  exact g_weak [2, 3, 1, 0] rfl (hk27 x1 (s0 + s1) (x3 + 1) M h)
def f_X10_kilos_27_b (N : Nat) (kh27 : Int32 → Int32 → Int32 → gq_M → Option (Int32 × gq_M)) (x1 : Int32) (x2 : Int32) (x3 : Int32) (M : gq_M) : Option (Int32 × gq_M) :=
  if (M 0 16) ≤ x3 then (some (x2, M)) else (gq_g (gq_in x3 150) (gq_l (M 19 x3.toNatClampNeg) fun v11 => gq_b (f_X10_isOf N v11 x1 M) fun v12 M13 => if v12 = 0 then (f_X10_kilos_59 N kh27 x1 x3 x2 0 M13) else (gq_g (gq_in x3 150) (gq_l (M13 17 x3.toNatClampNeg) fun v17 => f_X10_kilos_59 N kh27 x1 x3 x2 v17 M13))))
def f_X10_kilos_27 (N : Nat) : Nat → Int32 → Int32 → Int32 → gq_M → Option (Int32 × gq_M)
  | 0 => fun _ _ _ _ => none
  | n9 + 1 => f_X10_kilos_27_b N  (f_X10_kilos_27 N  n9)
set_option maxHeartbeats 1000000 in
set_option maxRecDepth 20000 in
theorem t_X10_kilos_27_b {N : Nat} {kh27 : Int32 → Int32 → Int32 → gq_M → Option (Int32 × gq_M)} {v9 : Int32} {M9 : gq_M} (hC : gq_C p s m args meth c D A cI cZ ad mtR RX10 cX10_kilos 4) (hr : meth.sig.returnType = (some .int))  (hk27 : ∀ (x1 : Int32) (x2 : Int32) (x3 : Int32) (M : gq_M), kh27 x1 x2 x3 M = some (v9, M9) → gq_W p l e (gq_rm 1) s m args below meth c D A cI cZ ad mtR 4 (MQ below (gq_Qi D cI cZ ad mtR v9 M9 A) args s 0 0 A) 27 [(0, .ref (ad 0)), (1, .int x1), (2, .int x2), (3, .int x3)] [] M 0 0) : ∀ (x1 : Int32) (x2 : Int32) (x3 : Int32) (M : gq_M), f_X10_kilos_27_b N  kh27 x1 x2 x3 M = some (v9, M9) → gq_W p l e (gq_rm 1) s m args below meth c D A cI cZ ad mtR 4 (MQ below (gq_Qi D cI cZ ad mtR v9 M9 A) args s 0 0 A) 27 [(0, .ref (ad 0)), (1, .int x1), (2, .int x2), (3, .int x3)] [] M 0 0 := by
  intro x1 x2 x3 M h
  unfold f_X10_kilos_27_b at h
  refine g_iload_n hC 3 rfl rfl dX10_kilos_27 ?_
  refine g_aload_n hC 0 rfl rfl dX10_kilos_28 ?_
  refine g_getI hC fF_X10_167 lkR_0_16 dX10_kilos_29 ?_
  refine g_icmp_ge (tgt := 67) hC (by decide) dX10_kilos_32 (fun c9 => ?_) (fun c9 => ?_)
  · replace h := gq_t c9 h
    refine g_iload_n hC 2 rfl rfl dX10_kilos_67 ?_
    exact g_irets hC hr h dX10_kilos_68
  · replace h := gq_f c9 h
    refine g_iload_n hC 2 rfl rfl dX10_kilos_35 ?_
    refine g_aload_n hC 0 rfl rfl dX10_kilos_36 ?_
    refine g_getR hC fF_X10_69 lkR_0_23 dX10_kilos_37 ?_
    refine g_iload_n hC 3 rfl rfl dX10_kilos_40 ?_
    obtain ⟨g10, h⟩ := gq_g_i h
    refine g_iald hC arR_19 (gq_in_i g10) dX10_kilos_41 ?_
    refine g_topi (fun v11 hv11 => ?_)
    replace h := gq_l_i hv11 h
    refine g_iload_n hC 1 rfl rfl dX10_kilos_42 ?_
    obtain ⟨v12, M13, c14, h⟩ := gq_b_i h
    refine g_Si (as := [.int v11, .int x1]) hC (t_X10_isOf N _ _ _ _ _ c14) mS_X10_isOf wm_X10_290 rfl rfl (Nat.le_of_ble_eq_true rfl) ⟨by decide, by decide⟩ ⟨by decide, by decide⟩ dX10_kilos_43 ?_
    refine g_if_eq (tgt := 58) hC (by decide) dX10_kilos_46 (fun c15 => ?_) (fun c15 => ?_)
    · replace h := gq_t c15 h
      refine g_iconst (v := 0) hC (by decide) dX10_kilos_58 ?_
      exact g_weak [0, 1, 3] rfl (t_X10_kilos_59 hC hr hk27 x1 x3 x2 0 M13 h)
    · replace h := gq_f c15 h
      refine g_aload_n hC 0 rfl rfl dX10_kilos_49 ?_
      refine g_getR hC fF_X10_63 lkR_0_21 dX10_kilos_50 ?_
      refine g_iload_n hC 3 rfl rfl dX10_kilos_53 ?_
      obtain ⟨g16, h⟩ := gq_g_i h
      refine g_iald hC arR_17 (gq_in_i g16) dX10_kilos_54 ?_
      refine g_topi (fun v17 hv17 => ?_)
      replace h := gq_l_i hv17 h
      refine g_goto (tgt := 59) hC (by decide) dX10_kilos_55 ?_
      exact g_weak [0, 1, 3] rfl (t_X10_kilos_59 hC hr hk27 x1 x3 x2 v17 M13 h)
theorem t_X10_kilos_27 {N : Nat} {v9 : Int32} {M9 : gq_M} (hC : gq_C p s m args meth c D A cI cZ ad mtR RX10 cX10_kilos 4) (hr : meth.sig.returnType = (some .int))  : ∀ (n9 : Nat) (x1 : Int32) (x2 : Int32) (x3 : Int32) (M : gq_M), f_X10_kilos_27 N  n9 x1 x2 x3 M = some (v9, M9) → gq_W p l e (gq_rm 1) s m args below meth c D A cI cZ ad mtR 4 (MQ below (gq_Qi D cI cZ ad mtR v9 M9 A) args s 0 0 A) 27 [(0, .ref (ad 0)), (1, .int x1), (2, .int x2), (3, .int x3)] [] M 0 0 := by
  intro n9
  induction n9 with
  | zero => intro x1 x2 x3 M h; cases h
  | succ n9 ih => intro x1 x2 x3 M h; exact t_X10_kilos_27_b hC hr  ih x1 x2 x3 M h
def f_X10_kilos_15 (N : Nat) (x1 : Int32) (s1 : Int32) (M : gq_M) : Option (Int32 × gq_M) :=
  gq_b (f_X10_fails N s1 M) fun v5 M6 => if v5 = 0 then (f_X10_kilos_27 N  N x1 0 0 M6) else (some (0, M6))
set_option maxHeartbeats 1000000 in
set_option maxRecDepth 20000 in
theorem t_X10_kilos_15 {N : Nat} {v9 : Int32} {M9 : gq_M} (hC : gq_C p s m args meth c D A cI cZ ad mtR RX10 cX10_kilos 4) (hr : meth.sig.returnType = (some .int))   : ∀ (x1 : Int32) (s1 : Int32) (M : gq_M), f_X10_kilos_15 N  x1 s1 M = some (v9, M9) → gq_W p l e (gq_rm 1) s m args below meth c D A cI cZ ad mtR 4 (MQ below (gq_Qi D cI cZ ad mtR v9 M9 A) args s 0 0 A) 15 [(0, .ref (ad 0)), (1, .int x1)] [.int s1, .ref (ad 0)] M 0 0 := by
  intro x1 s1 M h
  unfold f_X10_kilos_15 at h
  obtain ⟨v5, M6, c7, h⟩ := gq_b_i h
  refine g_Vi (as := [.int s1]) hC (t_X10_fails N _ _ _ _ c7) mV_X10_fails  wm_X10_178 obR_0 rfl rfl (Nat.le_of_ble_eq_true rfl) ⟨by decide, by decide⟩ ⟨by decide, by decide⟩ dX10_kilos_15 ?_
  refine g_if_eq (tgt := 23) hC (by decide) dX10_kilos_18 (fun c8 => ?_) (fun c8 => ?_)
  · replace h := gq_t c8 h
    refine g_iconst (v := 0) hC (by decide) dX10_kilos_23 ?_
    refine g_istore_n (L2 := [(2, .int 0), (0, .ref (ad 0)), (1, .int x1)]) hC rfl (by decide) rfl dX10_kilos_24 ?_
    refine g_iconst (v := 0) hC (by decide) dX10_kilos_25 ?_
    refine g_istore_n (L2 := [(3, .int 0), (2, .int 0), (0, .ref (ad 0)), (1, .int x1)]) hC rfl (by decide) rfl dX10_kilos_26 ?_
    exact g_weak [2, 3, 1, 0] rfl (t_X10_kilos_27 hC hr  N x1 0 0 M6 h)
  · replace h := gq_f c8 h
    refine g_iconst (v := 0) hC (by decide) dX10_kilos_21 ?_
    exact g_irets hC hr h dX10_kilos_22
def f_X10_kilos (N : Nat) (a1 : Int32) (M : gq_M) : Option (Int32 × gq_M) :=
  gq_b (f_X10_isIn N a1 0 5 M) fun v1 M2 => if v1 = 0 then (f_X10_kilos_15 N  a1 1 M2) else (f_X10_kilos_15 N  a1 0 M2)
set_option maxHeartbeats 1000000 in
set_option maxRecDepth 20000 in
theorem t_X10_kilos {l : Launch} {D : va_G} {cI cZ : ClassId} {ad : Nat → Nat} (N : Nat) (a1 : Int32) (M : gq_M) (v9 : Int32) (M9 : gq_M) (h : f_X10_kilos N a1 M = some (v9, M9)) : gq_Ci l D cI cZ ad mtR yX10_kilos cX10_kilos 4 (some .int) 1 [.ref (ad 0), .int a1] M v9 M9 := by
  refine gq_introI (own := RX10) (by decide) rfl (Nat.le_of_ble_eq_true rfl) ?_
  intro p e s m below meth c hC hr
  refine g_cast (L2 := [(0, .ref (ad 0)), (1, .int a1)]) ?_ rfl rfl rfl rfl
  unfold f_X10_kilos at h
  refine g_aload_n hC 0 rfl rfl dX10_kilos_0 ?_
  refine g_iload_n hC 1 rfl rfl dX10_kilos_1 ?_
  refine g_iconst (v := 0) hC (by decide) dX10_kilos_2 ?_
  refine g_iconst (v := 5) hC (by decide) dX10_kilos_3 ?_
  obtain ⟨v1, M2, c3, h⟩ := gq_b_i h
  refine g_Si (as := [.int a1, .int 0, .int 5]) hC (t_X10_isIn N _ _ _ _ _ _ c3) mS_X10_isIn wm_X10_163 rfl rfl (Nat.le_of_ble_eq_true rfl) ⟨by decide, by decide⟩ ⟨by decide, by decide⟩ dX10_kilos_4 ?_
  refine g_if_eq (tgt := 14) hC (by decide) dX10_kilos_7 (fun c4 => ?_) (fun c4 => ?_)
  · replace h := gq_t c4 h
    refine g_iconst (v := 1) hC (by decide) dX10_kilos_14 ?_
    exact g_weak [0, 1] rfl (t_X10_kilos_15 hC hr  a1 1 M2 h)
  · replace h := gq_f c4 h
    refine g_iconst (v := 0) hC (by decide) dX10_kilos_10 ?_
    refine g_goto (tgt := 15) hC (by decide) dX10_kilos_11 ?_
    exact g_weak [0, 1] rfl (t_X10_kilos_15 hC hr  a1 0 M2 h)
def f_X10_kilosAnew (N : Nat) (a1 : Int32) (M : gq_M) : Option (Int32 × gq_M) :=
  gq_b (f_X10_kilos N a1 M) fun v1 M2 => some (v1, M2)
set_option maxHeartbeats 1000000 in
set_option maxRecDepth 20000 in
theorem t_X10_kilosAnew {l : Launch} {D : va_G} {cI cZ : ClassId} {ad : Nat → Nat} (N : Nat) (a1 : Int32) (M : gq_M) (v9 : Int32) (M9 : gq_M) (h : f_X10_kilosAnew N a1 M = some (v9, M9)) : gq_Ci l D cI cZ ad mtR yX10_kilosAnew cX10_kilosAnew 2 (some .int) 2 [.ref (ad 0), .int a1] M v9 M9 := by
  refine gq_introI (own := RX10) (by decide) rfl (Nat.le_of_ble_eq_true rfl) ?_
  intro p e s m below meth c hC hr
  refine g_cast (L2 := [(0, .ref (ad 0)), (1, .int a1)]) ?_ rfl rfl rfl rfl
  unfold f_X10_kilosAnew at h
  refine g_aload_n hC 0 rfl rfl dX10_kilosAnew_0 ?_
  refine g_iload_n hC 1 rfl rfl dX10_kilosAnew_1 ?_
  obtain ⟨v1, M2, c3, h⟩ := gq_b_i h
  refine g_Vi (as := [.int a1]) hC (t_X10_kilos N _ _ _ _ c3) mV_X10_kilos  wm_X10_293 obR_0 rfl rfl (Nat.le_of_ble_eq_true rfl) ⟨by decide, by decide⟩ ⟨by decide, by decide⟩ dX10_kilosAnew_2 ?_
  exact g_irets hC hr h dX10_kilosAnew_5
def f_X10_average_161 (N : Nat) (s0 : Int32) (M : gq_M) : Option (Int32 × gq_M) :=
  some (s0, M)
set_option maxHeartbeats 1000000 in
set_option maxRecDepth 20000 in
theorem t_X10_average_161 {N : Nat} {v9 : Int32} {M9 : gq_M} (hC : gq_C p s m args meth c D A cI cZ ad mtR RX10 cX10_average 7) (hr : meth.sig.returnType = (some .int))   : ∀ (s0 : Int32) (M : gq_M), f_X10_average_161 N  s0 M = some (v9, M9) → gq_W p l e (gq_rm 2) s m args below meth c D A cI cZ ad mtR 7 (MQ below (gq_Qi D cI cZ ad mtR v9 M9 A) args s 0 0 A) 161 [] [.int s0] M 0 0 := by
  intro s0 M h
  unfold f_X10_average_161 at h
  exact g_irets hC hr h dX10_average_161
def f_X10_average_139 (N : Nat) (kh45 : Int32 → Int32 → Int32 → Int32 → Int32 → gq_M → Option (Int32 × gq_M)) (x1 : Int32) (x2 : Int32) (x3 : Int32) (x5 : Int32) (s0 : Int32) (s1 : Int32) (M : gq_M) : Option (Int32 × gq_M) :=
  kh45 x1 x2 x3 (s0 + s1) (x5 + 1) M
set_option maxHeartbeats 1000000 in
set_option maxRecDepth 20000 in
theorem t_X10_average_139 {N : Nat} {kh45 : Int32 → Int32 → Int32 → Int32 → Int32 → gq_M → Option (Int32 × gq_M)} {v9 : Int32} {M9 : gq_M} (hC : gq_C p s m args meth c D A cI cZ ad mtR RX10 cX10_average 7) (hr : meth.sig.returnType = (some .int)) (hk45 : ∀ (x1 : Int32) (x2 : Int32) (x3 : Int32) (x4 : Int32) (x5 : Int32) (M : gq_M), kh45 x1 x2 x3 x4 x5 M = some (v9, M9) → gq_W p l e (gq_rm 2) s m args below meth c D A cI cZ ad mtR 7 (MQ below (gq_Qi D cI cZ ad mtR v9 M9 A) args s 0 0 A) 45 [(0, .ref (ad 0)), (1, .int x1), (2, .int x2), (3, .int x3), (4, .int x4), (5, .int x5)] [] M 0 0)  : ∀ (x1 : Int32) (x2 : Int32) (x3 : Int32) (x5 : Int32) (s0 : Int32) (s1 : Int32) (M : gq_M), f_X10_average_139 N kh45 x1 x2 x3 x5 s0 s1 M = some (v9, M9) → gq_W p l e (gq_rm 2) s m args below meth c D A cI cZ ad mtR 7 (MQ below (gq_Qi D cI cZ ad mtR v9 M9 A) args s 0 0 A) 139 [(0, .ref (ad 0)), (1, .int x1), (2, .int x2), (3, .int x3), (5, .int x5)] [.int s1, .int s0] M 0 0 := by
  intro x1 x2 x3 x5 s0 s1 M h
  unfold f_X10_average_139 at h
  refine g_iadd hC dX10_average_139 ?_
  refine g_istore (L2 := [(4, .int (s0 + s1)), (0, .ref (ad 0)), (1, .int x1), (2, .int x2), (3, .int x3), (5, .int x5)]) hC (by decide) rfl dX10_average_140 ?_
  refine g_iinc (v := (x5 + 1)) (L2 := [(5, .int (x5 + 1)), (4, .int (s0 + s1)), (0, .ref (ad 0)), (1, .int x1), (2, .int x2), (3, .int x3)]) hC 5 rfl (by first | rfl | decide) (by decide) rfl dX10_average_142 ?_
  refine g_goto (tgt := 45) hC (by decide) dX10_average_145 ?_
  exact g_weak [2, 3, 4, 5, 1, 0] rfl (hk45 x1 x2 x3 (s0 + s1) (x5 + 1) M h)
def f_X10_average_119 (N : Nat) (kh45 : Int32 → Int32 → Int32 → Int32 → Int32 → gq_M → Option (Int32 × gq_M)) (x1 : Int32) (x2 : Int32) (x4 : Int32) (x5 : Int32) (x6 : Int32) (s0 : Int32) (s1 : Int32) (M : gq_M) : Option (Int32 × gq_M) :=
  if x6 = 0 then (f_X10_average_139 N kh45 x1 x2 (s0 + s1) x5 x4 0 M) else (gq_g (gq_in x5 150) (gq_l (M 17 x5.toNatClampNeg) fun v32 => f_X10_average_139 N kh45 x1 x2 (s0 + s1) x5 x4 v32 M))
set_option maxHeartbeats 1000000 in
set_option maxRecDepth 20000 in
theorem t_X10_average_119 {N : Nat} {kh45 : Int32 → Int32 → Int32 → Int32 → Int32 → gq_M → Option (Int32 × gq_M)} {v9 : Int32} {M9 : gq_M} (hC : gq_C p s m args meth c D A cI cZ ad mtR RX10 cX10_average 7) (hr : meth.sig.returnType = (some .int)) (hk45 : ∀ (x1 : Int32) (x2 : Int32) (x3 : Int32) (x4 : Int32) (x5 : Int32) (M : gq_M), kh45 x1 x2 x3 x4 x5 M = some (v9, M9) → gq_W p l e (gq_rm 2) s m args below meth c D A cI cZ ad mtR 7 (MQ below (gq_Qi D cI cZ ad mtR v9 M9 A) args s 0 0 A) 45 [(0, .ref (ad 0)), (1, .int x1), (2, .int x2), (3, .int x3), (4, .int x4), (5, .int x5)] [] M 0 0)  : ∀ (x1 : Int32) (x2 : Int32) (x4 : Int32) (x5 : Int32) (x6 : Int32) (s0 : Int32) (s1 : Int32) (M : gq_M), f_X10_average_119 N kh45 x1 x2 x4 x5 x6 s0 s1 M = some (v9, M9) → gq_W p l e (gq_rm 2) s m args below meth c D A cI cZ ad mtR 7 (MQ below (gq_Qi D cI cZ ad mtR v9 M9 A) args s 0 0 A) 119 [(0, .ref (ad 0)), (1, .int x1), (2, .int x2), (4, .int x4), (5, .int x5), (6, .int x6)] [.int s1, .int s0] M 0 0 := by
  intro x1 x2 x4 x5 x6 s0 s1 M h
  unfold f_X10_average_119 at h
  refine g_iadd hC dX10_average_119 ?_
  refine g_istore_n (L2 := [(3, .int (s0 + s1)), (0, .ref (ad 0)), (1, .int x1), (2, .int x2), (4, .int x4), (5, .int x5), (6, .int x6)]) hC rfl (by decide) rfl dX10_average_120 ?_
  refine g_iload hC 4 rfl dX10_average_121 ?_
  refine g_iload hC 6 rfl dX10_average_123 ?_
  refine g_if_eq (tgt := 138) hC (by decide) dX10_average_125 (fun c30 => ?_) (fun c30 => ?_)
  · replace h := gq_t c30 h
    refine g_iconst (v := 0) hC (by decide) dX10_average_138 ?_
    exact g_weak [1, 2, 3, 0, 5] rfl (t_X10_average_139 hC hr hk45 x1 x2 (s0 + s1) x5 x4 0 M h)
  · replace h := gq_f c30 h
    refine g_aload_n hC 1 rfl rfl dX10_average_128 ?_
    refine g_getR hC fF_X10_63 lkR_0_21 dX10_average_129 ?_
    refine g_iload hC 5 rfl dX10_average_132 ?_
    obtain ⟨g31, h⟩ := gq_g_i h
    refine g_iald hC arR_17 (gq_in_i g31) dX10_average_134 ?_
    refine g_topi (fun v32 hv32 => ?_)
    replace h := gq_l_i hv32 h
    refine g_goto (tgt := 139) hC (by decide) dX10_average_135 ?_
    exact g_weak [1, 2, 3, 0, 5] rfl (t_X10_average_139 hC hr hk45 x1 x2 (s0 + s1) x5 x4 v32 M h)
def f_X10_average_92 (N : Nat) (kh45 : Int32 → Int32 → Int32 → Int32 → Int32 → gq_M → Option (Int32 × gq_M)) (x1 : Int32) (x2 : Int32) (x3 : Int32) (x4 : Int32) (x5 : Int32) (s0 : Int32) (M : gq_M) : Option (Int32 × gq_M) :=
  if s0 = 0 then (f_X10_average_119 N kh45 x1 x2 x4 x5 s0 x3 0 M) else (gq_g (gq_in x5 150) (gq_l (M 17 x5.toNatClampNeg) fun v27 => gq_g (gq_in x5 150) (gq_l (M 22 x5.toNatClampNeg) fun v29 => f_X10_average_119 N kh45 x1 x2 x4 x5 s0 x3 (v27 * v29) M)))
set_option maxHeartbeats 1000000 in
set_option maxRecDepth 20000 in
theorem t_X10_average_92 {N : Nat} {kh45 : Int32 → Int32 → Int32 → Int32 → Int32 → gq_M → Option (Int32 × gq_M)} {v9 : Int32} {M9 : gq_M} (hC : gq_C p s m args meth c D A cI cZ ad mtR RX10 cX10_average 7) (hr : meth.sig.returnType = (some .int)) (hk45 : ∀ (x1 : Int32) (x2 : Int32) (x3 : Int32) (x4 : Int32) (x5 : Int32) (M : gq_M), kh45 x1 x2 x3 x4 x5 M = some (v9, M9) → gq_W p l e (gq_rm 2) s m args below meth c D A cI cZ ad mtR 7 (MQ below (gq_Qi D cI cZ ad mtR v9 M9 A) args s 0 0 A) 45 [(0, .ref (ad 0)), (1, .int x1), (2, .int x2), (3, .int x3), (4, .int x4), (5, .int x5)] [] M 0 0)  : ∀ (x1 : Int32) (x2 : Int32) (x3 : Int32) (x4 : Int32) (x5 : Int32) (s0 : Int32) (M : gq_M), f_X10_average_92 N kh45 x1 x2 x3 x4 x5 s0 M = some (v9, M9) → gq_W p l e (gq_rm 2) s m args below meth c D A cI cZ ad mtR 7 (MQ below (gq_Qi D cI cZ ad mtR v9 M9 A) args s 0 0 A) 92 [(0, .ref (ad 0)), (1, .int x1), (2, .int x2), (3, .int x3), (4, .int x4), (5, .int x5)] [.int s0] M 0 0 := by
  intro x1 x2 x3 x4 x5 s0 M h
  unfold f_X10_average_92 at h
  refine g_istore (L2 := [(6, .int s0), (0, .ref (ad 0)), (1, .int x1), (2, .int x2), (3, .int x3), (4, .int x4), (5, .int x5)]) hC (by decide) rfl dX10_average_92 ?_
  refine g_iload_n hC 4 rfl rfl dX10_average_94 ?_
  refine g_iload hC 0 rfl dX10_average_95 ?_
  refine g_if_eq (tgt := 118) hC (by decide) dX10_average_97 (fun c25 => ?_) (fun c25 => ?_)
  · replace h := gq_t c25 h
    refine g_iconst (v := 0) hC (by decide) dX10_average_118 ?_
    exact g_weak [1, 2, 3, 5, 6, 0] rfl (t_X10_average_119 hC hr hk45 x1 x2 x4 x5 s0 x3 0 M h)
  · replace h := gq_f c25 h
    refine g_aload_n hC 1 rfl rfl dX10_average_100 ?_
    refine g_getR hC fF_X10_63 lkR_0_21 dX10_average_101 ?_
    refine g_iload hC 6 rfl dX10_average_104 ?_
    obtain ⟨g26, h⟩ := gq_g_i h
    refine g_iald hC arR_17 (gq_in_i g26) dX10_average_106 ?_
    refine g_topi (fun v27 hv27 => ?_)
    replace h := gq_l_i hv27 h
    refine g_aload_n hC 1 rfl rfl dX10_average_107 ?_
    refine g_getR hC fF_X10_78 lkR_0_26 dX10_average_108 ?_
    refine g_iload hC 6 rfl dX10_average_111 ?_
    obtain ⟨g28, h⟩ := gq_g_i h
    refine g_iald hC arR_22 (gq_in_i g28) dX10_average_113 ?_
    refine g_topi (fun v29 hv29 => ?_)
    replace h := gq_l_i hv29 h
    refine g_imul hC dX10_average_114 ?_
    refine g_goto (tgt := 119) hC (by decide) dX10_average_115 ?_
    exact g_weak [1, 2, 3, 5, 6, 0] rfl (t_X10_average_119 hC hr hk45 x1 x2 x4 x5 s0 x3 (v27 * v29) M h)
def f_X10_average_91 (N : Nat) (kh45 : Int32 → Int32 → Int32 → Int32 → Int32 → gq_M → Option (Int32 × gq_M)) (x1 : Int32) (x2 : Int32) (x3 : Int32) (x4 : Int32) (x5 : Int32) (M : gq_M) : Option (Int32 × gq_M) :=
  f_X10_average_92 N kh45 x1 x2 x3 x4 x5 0 M
set_option maxHeartbeats 1000000 in
set_option maxRecDepth 20000 in
theorem t_X10_average_91 {N : Nat} {kh45 : Int32 → Int32 → Int32 → Int32 → Int32 → gq_M → Option (Int32 × gq_M)} {v9 : Int32} {M9 : gq_M} (hC : gq_C p s m args meth c D A cI cZ ad mtR RX10 cX10_average 7) (hr : meth.sig.returnType = (some .int)) (hk45 : ∀ (x1 : Int32) (x2 : Int32) (x3 : Int32) (x4 : Int32) (x5 : Int32) (M : gq_M), kh45 x1 x2 x3 x4 x5 M = some (v9, M9) → gq_W p l e (gq_rm 2) s m args below meth c D A cI cZ ad mtR 7 (MQ below (gq_Qi D cI cZ ad mtR v9 M9 A) args s 0 0 A) 45 [(0, .ref (ad 0)), (1, .int x1), (2, .int x2), (3, .int x3), (4, .int x4), (5, .int x5)] [] M 0 0)  : ∀ (x1 : Int32) (x2 : Int32) (x3 : Int32) (x4 : Int32) (x5 : Int32) (M : gq_M), f_X10_average_91 N kh45 x1 x2 x3 x4 x5 M = some (v9, M9) → gq_W p l e (gq_rm 2) s m args below meth c D A cI cZ ad mtR 7 (MQ below (gq_Qi D cI cZ ad mtR v9 M9 A) args s 0 0 A) 91 [(0, .ref (ad 0)), (1, .int x1), (2, .int x2), (3, .int x3), (4, .int x4), (5, .int x5)] [] M 0 0 := by
  intro x1 x2 x3 x4 x5 M h
  unfold f_X10_average_91 at h
  refine g_iconst (v := 0) hC (by decide) dX10_average_91 ?_
  exact g_weak [0, 1, 2, 3, 4, 5] rfl (t_X10_average_92 hC hr hk45 x1 x2 x3 x4 x5 0 M h)
def f_X10_average_45_b (N : Nat) (kh45 : Int32 → Int32 → Int32 → Int32 → Int32 → gq_M → Option (Int32 × gq_M)) (x1 : Int32) (x2 : Int32) (x3 : Int32) (x4 : Int32) (x5 : Int32) (M : gq_M) : Option (Int32 × gq_M) :=
  if (M 0 16) ≤ x5 then (if x4 = 0 then (f_X10_average_161 N  (-1) M) else (gq_g (gq_nz x4) (f_X10_average_161 N  (x3 / x4) M))) else (gq_g (gq_in x5 150) (gq_l (M 14 x5.toNatClampNeg) fun v17 => if v17 = x1 then (gq_g (gq_in x5 150) (gq_l (M 21 x5.toNatClampNeg) fun v20 => if v20 = (-1) then (f_X10_average_91 N kh45 x1 x2 x3 x4 x5 M) else (gq_g (gq_in x5 150) (gq_l (M 24 x5.toNatClampNeg) fun v23 => if v23 = x2 then (f_X10_average_92 N kh45 x1 x2 x3 x4 x5 1 M) else (f_X10_average_91 N kh45 x1 x2 x3 x4 x5 M))))) else (f_X10_average_91 N kh45 x1 x2 x3 x4 x5 M)))
def f_X10_average_45 (N : Nat) : Nat → Int32 → Int32 → Int32 → Int32 → Int32 → gq_M → Option (Int32 × gq_M)
  | 0 => fun _ _ _ _ _ _ => none
  | n9 + 1 => f_X10_average_45_b N  (f_X10_average_45 N  n9)
set_option maxHeartbeats 1000000 in
set_option maxRecDepth 20000 in
theorem t_X10_average_45_b {N : Nat} {kh45 : Int32 → Int32 → Int32 → Int32 → Int32 → gq_M → Option (Int32 × gq_M)} {v9 : Int32} {M9 : gq_M} (hC : gq_C p s m args meth c D A cI cZ ad mtR RX10 cX10_average 7) (hr : meth.sig.returnType = (some .int))  (hk45 : ∀ (x1 : Int32) (x2 : Int32) (x3 : Int32) (x4 : Int32) (x5 : Int32) (M : gq_M), kh45 x1 x2 x3 x4 x5 M = some (v9, M9) → gq_W p l e (gq_rm 2) s m args below meth c D A cI cZ ad mtR 7 (MQ below (gq_Qi D cI cZ ad mtR v9 M9 A) args s 0 0 A) 45 [(0, .ref (ad 0)), (1, .int x1), (2, .int x2), (3, .int x3), (4, .int x4), (5, .int x5)] [] M 0 0) : ∀ (x1 : Int32) (x2 : Int32) (x3 : Int32) (x4 : Int32) (x5 : Int32) (M : gq_M), f_X10_average_45_b N  kh45 x1 x2 x3 x4 x5 M = some (v9, M9) → gq_W p l e (gq_rm 2) s m args below meth c D A cI cZ ad mtR 7 (MQ below (gq_Qi D cI cZ ad mtR v9 M9 A) args s 0 0 A) 45 [(0, .ref (ad 0)), (1, .int x1), (2, .int x2), (3, .int x3), (4, .int x4), (5, .int x5)] [] M 0 0 := by
  intro x1 x2 x3 x4 x5 M h
  unfold f_X10_average_45_b at h
  refine g_iload hC 5 rfl dX10_average_45 ?_
  refine g_aload_n hC 0 rfl rfl dX10_average_47 ?_
  refine g_getI hC fF_X10_167 lkR_0_16 dX10_average_48 ?_
  refine g_icmp_ge (tgt := 148) hC (by decide) dX10_average_51 (fun c13 => ?_) (fun c13 => ?_)
  · replace h := gq_t c13 h
    refine g_iload hC 4 rfl dX10_average_148 ?_
    refine g_if_ne (tgt := 157) hC (by decide) dX10_average_150 (fun c14 => ?_) (fun c14 => ?_)
    · replace h := gq_f c14 h
      refine g_iload_n hC 3 rfl rfl dX10_average_157 ?_
      refine g_iload hC 4 rfl dX10_average_158 ?_
      obtain ⟨g15, h⟩ := gq_g_i h
      refine g_idiv hC (gq_nz_i g15) dX10_average_160 ?_
      exact g_weak [] rfl (t_X10_average_161 hC hr  (x3 / x4) M h)
    · replace h := gq_t c14 h
      refine g_iconst (v := (-1)) hC (by decide) dX10_average_153 ?_
      refine g_goto (tgt := 161) hC (by decide) dX10_average_154 ?_
      exact g_weak [] rfl (t_X10_average_161 hC hr  (-1) M h)
  · replace h := gq_f c13 h
    refine g_aload_n hC 0 rfl rfl dX10_average_54 ?_
    refine g_getR hC fF_X10_54 lkR_0_18 dX10_average_55 ?_
    refine g_iload hC 5 rfl dX10_average_58 ?_
    obtain ⟨g16, h⟩ := gq_g_i h
    refine g_iald hC arR_14 (gq_in_i g16) dX10_average_60 ?_
    refine g_topi (fun v17 hv17 => ?_)
    replace h := gq_l_i hv17 h
    refine g_iload_n hC 1 rfl rfl dX10_average_61 ?_
    refine g_icmp_ne (tgt := 91) hC (by decide) dX10_average_62 (fun c18 => ?_) (fun c18 => ?_)
    · replace h := gq_f c18 h
      exact g_weak [0, 1, 2, 3, 4, 5] rfl (t_X10_average_91 hC hr hk45 x1 x2 x3 x4 x5 M h)
    · replace h := gq_t c18 h
      refine g_aload_n hC 0 rfl rfl dX10_average_65 ?_
      refine g_getR hC fF_X10_75 lkR_0_25 dX10_average_66 ?_
      refine g_iload hC 5 rfl dX10_average_69 ?_
      obtain ⟨g19, h⟩ := gq_g_i h
      refine g_iald hC arR_21 (gq_in_i g19) dX10_average_71 ?_
      refine g_topi (fun v20 hv20 => ?_)
      replace h := gq_l_i hv20 h
      refine g_iconst (v := (-1)) hC (by decide) dX10_average_72 ?_
      refine g_icmp_eq (tgt := 91) hC (by decide) dX10_average_73 (fun c21 => ?_) (fun c21 => ?_)
      · replace h := gq_t c21 h
        exact g_weak [0, 1, 2, 3, 4, 5] rfl (t_X10_average_91 hC hr hk45 x1 x2 x3 x4 x5 M h)
      · replace h := gq_f c21 h
        refine g_aload_n hC 0 rfl rfl dX10_average_76 ?_
        refine g_getR hC fF_X10_84 lkR_0_28 dX10_average_77 ?_
        refine g_iload hC 5 rfl dX10_average_80 ?_
        obtain ⟨g22, h⟩ := gq_g_i h
        refine g_iald hC arR_24 (gq_in_i g22) dX10_average_82 ?_
        refine g_topi (fun v23 hv23 => ?_)
        replace h := gq_l_i hv23 h
        refine g_iload_n hC 2 rfl rfl dX10_average_83 ?_
        refine g_icmp_ne (tgt := 91) hC (by decide) dX10_average_84 (fun c24 => ?_) (fun c24 => ?_)
        · replace h := gq_f c24 h
          exact g_weak [0, 1, 2, 3, 4, 5] rfl (t_X10_average_91 hC hr hk45 x1 x2 x3 x4 x5 M h)
        · replace h := gq_t c24 h
          refine g_iconst (v := 1) hC (by decide) dX10_average_87 ?_
          refine g_goto (tgt := 92) hC (by decide) dX10_average_88 ?_
          exact g_weak [0, 1, 2, 3, 4, 5] rfl (t_X10_average_92 hC hr hk45 x1 x2 x3 x4 x5 1 M h)
theorem t_X10_average_45 {N : Nat} {v9 : Int32} {M9 : gq_M} (hC : gq_C p s m args meth c D A cI cZ ad mtR RX10 cX10_average 7) (hr : meth.sig.returnType = (some .int))  : ∀ (n9 : Nat) (x1 : Int32) (x2 : Int32) (x3 : Int32) (x4 : Int32) (x5 : Int32) (M : gq_M), f_X10_average_45 N  n9 x1 x2 x3 x4 x5 M = some (v9, M9) → gq_W p l e (gq_rm 2) s m args below meth c D A cI cZ ad mtR 7 (MQ below (gq_Qi D cI cZ ad mtR v9 M9 A) args s 0 0 A) 45 [(0, .ref (ad 0)), (1, .int x1), (2, .int x2), (3, .int x3), (4, .int x4), (5, .int x5)] [] M 0 0 := by
  intro n9
  induction n9 with
  | zero => intro x1 x2 x3 x4 x5 M h; cases h
  | succ n9 ih => intro x1 x2 x3 x4 x5 M h; exact t_X10_average_45_b hC hr  ih x1 x2 x3 x4 x5 M h
def f_X10_average_29 (N : Nat) (x1 : Int32) (x2 : Int32) (s1 : Int32) (M : gq_M) : Option (Int32 × gq_M) :=
  gq_b (f_X10_fails N s1 M) fun v9 M10 => if v9 = 0 then (f_X10_average_45 N  N x1 x2 0 0 0 M10) else (some (0, M10))
set_option maxHeartbeats 1000000 in
set_option maxRecDepth 20000 in
theorem t_X10_average_29 {N : Nat} {v9 : Int32} {M9 : gq_M} (hC : gq_C p s m args meth c D A cI cZ ad mtR RX10 cX10_average 7) (hr : meth.sig.returnType = (some .int))   : ∀ (x1 : Int32) (x2 : Int32) (s1 : Int32) (M : gq_M), f_X10_average_29 N  x1 x2 s1 M = some (v9, M9) → gq_W p l e (gq_rm 2) s m args below meth c D A cI cZ ad mtR 7 (MQ below (gq_Qi D cI cZ ad mtR v9 M9 A) args s 0 0 A) 29 [(0, .ref (ad 0)), (1, .int x1), (2, .int x2)] [.int s1, .ref (ad 0)] M 0 0 := by
  intro x1 x2 s1 M h
  unfold f_X10_average_29 at h
  obtain ⟨v9, M10, c11, h⟩ := gq_b_i h
  refine g_Vi (as := [.int s1]) hC (t_X10_fails N _ _ _ _ c11) mV_X10_fails  wm_X10_178 obR_0 rfl rfl (Nat.le_of_ble_eq_true rfl) ⟨by decide, by decide⟩ ⟨by decide, by decide⟩ dX10_average_29 ?_
  refine g_if_eq (tgt := 37) hC (by decide) dX10_average_32 (fun c12 => ?_) (fun c12 => ?_)
  · replace h := gq_t c12 h
    refine g_iconst (v := 0) hC (by decide) dX10_average_37 ?_
    refine g_istore_n (L2 := [(3, .int 0), (0, .ref (ad 0)), (1, .int x1), (2, .int x2)]) hC rfl (by decide) rfl dX10_average_38 ?_
    refine g_iconst (v := 0) hC (by decide) dX10_average_39 ?_
    refine g_istore (L2 := [(4, .int 0), (3, .int 0), (0, .ref (ad 0)), (1, .int x1), (2, .int x2)]) hC (by decide) rfl dX10_average_40 ?_
    refine g_iconst (v := 0) hC (by decide) dX10_average_42 ?_
    refine g_istore (L2 := [(5, .int 0), (4, .int 0), (3, .int 0), (0, .ref (ad 0)), (1, .int x1), (2, .int x2)]) hC (by decide) rfl dX10_average_43 ?_
    exact g_weak [3, 4, 5, 2, 1, 0] rfl (t_X10_average_45 hC hr  N x1 x2 0 0 0 M10 h)
  · replace h := gq_f c12 h
    refine g_iconst (v := 0) hC (by decide) dX10_average_35 ?_
    exact g_irets hC hr h dX10_average_36
def f_X10_average (N : Nat) (a1 : Int32) (a2 : Int32) (M : gq_M) : Option (Int32 × gq_M) :=
  gq_b (f_X10_isKind N a1 M) fun v1 M2 => if v1 = 0 then (f_X10_average_29 N  a1 a2 1 M2) else (gq_b (f_X10_isIn N a2 0 (M2 0 1) M2) fun v5 M6 => if v5 = 0 then (f_X10_average_29 N  a1 a2 2 M6) else (f_X10_average_29 N  a1 a2 0 M6))
set_option maxHeartbeats 1000000 in
set_option maxRecDepth 20000 in
theorem t_X10_average {l : Launch} {D : va_G} {cI cZ : ClassId} {ad : Nat → Nat} (N : Nat) (a1 : Int32) (a2 : Int32) (M : gq_M) (v9 : Int32) (M9 : gq_M) (h : f_X10_average N a1 a2 M = some (v9, M9)) : gq_Ci l D cI cZ ad mtR yX10_average cX10_average 7 (some .int) 2 [.ref (ad 0), .int a1, .int a2] M v9 M9 := by
  refine gq_introI (own := RX10) (by decide) rfl (Nat.le_of_ble_eq_true rfl) ?_
  intro p e s m below meth c hC hr
  refine g_cast (L2 := [(0, .ref (ad 0)), (1, .int a1), (2, .int a2)]) ?_ rfl rfl rfl rfl
  unfold f_X10_average at h
  refine g_aload_n hC 0 rfl rfl dX10_average_0 ?_
  refine g_iload_n hC 1 rfl rfl dX10_average_1 ?_
  obtain ⟨v1, M2, c3, h⟩ := gq_b_i h
  refine g_Si (as := [.int a1]) hC (t_X10_isKind N _ _ _ _ c3) mS_X10_isKind wm_X10_174 rfl rfl (Nat.le_of_ble_eq_true rfl) ⟨by decide, by decide⟩ ⟨by decide, by decide⟩ dX10_average_2 ?_
  refine g_if_ne (tgt := 12) hC (by decide) dX10_average_5 (fun c4 => ?_) (fun c4 => ?_)
  · replace h := gq_f c4 h
    refine g_iload_n hC 2 rfl rfl dX10_average_12 ?_
    refine g_iconst (v := 0) hC (by decide) dX10_average_13 ?_
    refine g_aload_n hC 0 rfl rfl dX10_average_14 ?_
    refine g_getI hC fF_X10_221 lkR_0_1 dX10_average_15 ?_
    obtain ⟨v5, M6, c7, h⟩ := gq_b_i h
    refine g_Si (as := [.int a2, .int 0, .int (M2 0 1)]) hC (t_X10_isIn N _ _ _ _ _ _ c7) mS_X10_isIn wm_X10_163 rfl rfl (Nat.le_of_ble_eq_true rfl) ⟨by decide, by decide⟩ ⟨by decide, by decide⟩ dX10_average_18 ?_
    refine g_if_eq (tgt := 28) hC (by decide) dX10_average_21 (fun c8 => ?_) (fun c8 => ?_)
    · replace h := gq_t c8 h
      refine g_iconst (v := 2) hC (by decide) dX10_average_28 ?_
      exact g_weak [0, 1, 2] rfl (t_X10_average_29 hC hr  a1 a2 2 M6 h)
    · replace h := gq_f c8 h
      refine g_iconst (v := 0) hC (by decide) dX10_average_24 ?_
      refine g_goto (tgt := 29) hC (by decide) dX10_average_25 ?_
      exact g_weak [0, 1, 2] rfl (t_X10_average_29 hC hr  a1 a2 0 M6 h)
  · replace h := gq_t c4 h
    refine g_iconst (v := 1) hC (by decide) dX10_average_8 ?_
    refine g_goto (tgt := 29) hC (by decide) dX10_average_9 ?_
    exact g_weak [0, 1, 2] rfl (t_X10_average_29 hC hr  a1 a2 1 M2 h)
def f_X10_loaded_36 (N : Nat) (s0 : Int32) (M : gq_M) : Option (Int32 × gq_M) :=
  some (s0, M)
set_option maxHeartbeats 1000000 in
set_option maxRecDepth 20000 in
theorem t_X10_loaded_36 {N : Nat} {v9 : Int32} {M9 : gq_M} (hC : gq_C p s m args meth c D A cI cZ ad mtR RX10 cX10_loaded 2) (hr : meth.sig.returnType = (some .int))   : ∀ (s0 : Int32) (M : gq_M), f_X10_loaded_36 N  s0 M = some (v9, M9) → gq_W p l e (gq_rm 1) s m args below meth c D A cI cZ ad mtR 2 (MQ below (gq_Qi D cI cZ ad mtR v9 M9 A) args s 0 0 A) 36 [] [.int s0] M 0 0 := by
  intro s0 M h
  unfold f_X10_loaded_36 at h
  exact g_irets hC hr h dX10_loaded_36
def f_X10_loaded_20 (N : Nat) (x1 : Int32) (s1 : Int32) (M : gq_M) : Option (Int32 × gq_M) :=
  gq_b (f_X10_fails N s1 M) fun v5 M6 => if v5 = 0 then (gq_g (gq_in x1 20) (gq_l (M6 47 x1.toNatClampNeg) fun v10 => f_X10_loaded_36 N  v10 M6)) else (f_X10_loaded_36 N  0 M6)
set_option maxHeartbeats 1000000 in
set_option maxRecDepth 20000 in
theorem t_X10_loaded_20 {N : Nat} {v9 : Int32} {M9 : gq_M} (hC : gq_C p s m args meth c D A cI cZ ad mtR RX10 cX10_loaded 2) (hr : meth.sig.returnType = (some .int))   : ∀ (x1 : Int32) (s1 : Int32) (M : gq_M), f_X10_loaded_20 N  x1 s1 M = some (v9, M9) → gq_W p l e (gq_rm 1) s m args below meth c D A cI cZ ad mtR 2 (MQ below (gq_Qi D cI cZ ad mtR v9 M9 A) args s 0 0 A) 20 [(0, .ref (ad 0)), (1, .int x1)] [.int s1, .ref (ad 0)] M 0 0 := by
  intro x1 s1 M h
  unfold f_X10_loaded_20 at h
  obtain ⟨v5, M6, c7, h⟩ := gq_b_i h
  refine g_Vi (as := [.int s1]) hC (t_X10_fails N _ _ _ _ c7) mV_X10_fails  wm_X10_178 obR_0 rfl rfl (Nat.le_of_ble_eq_true rfl) ⟨by decide, by decide⟩ ⟨by decide, by decide⟩ dX10_loaded_20 ?_
  refine g_if_eq (tgt := 30) hC (by decide) dX10_loaded_23 (fun c8 => ?_) (fun c8 => ?_)
  · replace h := gq_t c8 h
    refine g_aload_n hC 0 rfl rfl dX10_loaded_30 ?_
    refine g_getR hC fF_X10_153 lkR_0_53 dX10_loaded_31 ?_
    refine g_iload_n hC 1 rfl rfl dX10_loaded_34 ?_
    obtain ⟨g9, h⟩ := gq_g_i h
    refine g_iald hC arR_47 (gq_in_i g9) dX10_loaded_35 ?_
    refine g_topi (fun v10 hv10 => ?_)
    replace h := gq_l_i hv10 h
    exact g_weak [] rfl (t_X10_loaded_36 hC hr  v10 M6 h)
  · replace h := gq_f c8 h
    refine g_iconst (v := 0) hC (by decide) dX10_loaded_26 ?_
    refine g_goto (tgt := 36) hC (by decide) dX10_loaded_27 ?_
    exact g_weak [] rfl (t_X10_loaded_36 hC hr  0 M6 h)
def f_X10_loaded (N : Nat) (a1 : Int32) (M : gq_M) : Option (Int32 × gq_M) :=
  gq_b (f_X10_isIn N a1 0 ((M 0 49) - 1) M) fun v1 M2 => if v1 = 0 then (f_X10_loaded_20 N  a1 1 M2) else (f_X10_loaded_20 N  a1 0 M2)
set_option maxHeartbeats 1000000 in
set_option maxRecDepth 20000 in
theorem t_X10_loaded {l : Launch} {D : va_G} {cI cZ : ClassId} {ad : Nat → Nat} (N : Nat) (a1 : Int32) (M : gq_M) (v9 : Int32) (M9 : gq_M) (h : f_X10_loaded N a1 M = some (v9, M9)) : gq_Ci l D cI cZ ad mtR yX10_loaded cX10_loaded 2 (some .int) 1 [.ref (ad 0), .int a1] M v9 M9 := by
  refine gq_introI (own := RX10) (by decide) rfl (Nat.le_of_ble_eq_true rfl) ?_
  intro p e s m below meth c hC hr
  refine g_cast (L2 := [(0, .ref (ad 0)), (1, .int a1)]) ?_ rfl rfl rfl rfl
  unfold f_X10_loaded at h
  refine g_aload_n hC 0 rfl rfl dX10_loaded_0 ?_
  refine g_iload_n hC 1 rfl rfl dX10_loaded_1 ?_
  refine g_iconst (v := 0) hC (by decide) dX10_loaded_2 ?_
  refine g_aload_n hC 0 rfl rfl dX10_loaded_3 ?_
  refine g_getI hC fF_X10_267 lkR_0_49 dX10_loaded_4 ?_
  refine g_iconst (v := 1) hC (by decide) dX10_loaded_7 ?_
  refine g_isub hC dX10_loaded_8 ?_
  obtain ⟨v1, M2, c3, h⟩ := gq_b_i h
  refine g_Si (as := [.int a1, .int 0, .int ((M 0 49) - 1)]) hC (t_X10_isIn N _ _ _ _ _ _ c3) mS_X10_isIn wm_X10_163 rfl rfl (Nat.le_of_ble_eq_true rfl) ⟨by decide, by decide⟩ ⟨by decide, by decide⟩ dX10_loaded_9 ?_
  refine g_if_eq (tgt := 19) hC (by decide) dX10_loaded_12 (fun c4 => ?_) (fun c4 => ?_)
  · replace h := gq_t c4 h
    refine g_iconst (v := 1) hC (by decide) dX10_loaded_19 ?_
    exact g_weak [0, 1] rfl (t_X10_loaded_20 hC hr  a1 1 M2 h)
  · replace h := gq_f c4 h
    refine g_iconst (v := 0) hC (by decide) dX10_loaded_15 ?_
    refine g_goto (tgt := 20) hC (by decide) dX10_loaded_16 ?_
    exact g_weak [0, 1] rfl (t_X10_loaded_20 hC hr  a1 0 M2 h)
end
