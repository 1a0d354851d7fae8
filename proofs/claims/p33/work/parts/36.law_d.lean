section
variable {p : Program} {l : Launch} {e : Env} {s : State} {m : MethodId} {args : Array Value} {below : List Frame} {meth : Method} {c : Code} {Q : State → Prop} {D : va_G} {A : Nat → Prop} {cI cZ : ClassId} {ad : Nat → Nat}
def f_L_isTold_1712 (N : Nat) (s0 : Int32) (M : gq_M) : Option (Int32 × gq_M) :=
  gq_g (gq_bb s0) (some (s0, M))
set_option maxHeartbeats 1000000 in
set_option maxRecDepth 20000 in
theorem t_L_isTold_1712 {N : Nat} {v9 : Int32} {M9 : gq_M} (hl9 : l.stackTraces = false) (hZ : gq_Zn A s) (hC : gq_C p s m args meth c D A cI cZ ad mtL RL cL_isTold 23) (hr : meth.sig.returnType = (some .boolean))   : ∀ (s0 : Int32) (M : gq_M), f_L_isTold_1712 N  s0 M = some (v9, M9) → gq_W p l e (gq_rl 10 1 6) s m args below meth c D A cI cZ ad mtL 23 (gq_NQ below D cI cZ ad mtL v9 M9 args s 1 6 A) 1712 [] [.int s0] M 1 6 := by
  intro s0 M h
  unfold f_L_isTold_1712 at h
  obtain ⟨g239, h⟩ := gq_g_i h
  exact g_zretsN hC (by decide) (by decide) hr (gq_bb_i g239) h dL_isTold_1712
def f_L_isTold_1704 (N : Nat) (s0 : Int32) (s1 : Int32) (M : gq_M) : Option (Int32 × gq_M) :=
  if s0 = s1 then (f_L_isTold_1712 N  1 M) else (f_L_isTold_1712 N  0 M)
set_option maxHeartbeats 1000000 in
set_option maxRecDepth 20000 in
theorem t_L_isTold_1704 {N : Nat} {v9 : Int32} {M9 : gq_M} (hl9 : l.stackTraces = false) (hZ : gq_Zn A s) (hC : gq_C p s m args meth c D A cI cZ ad mtL RL cL_isTold 23) (hr : meth.sig.returnType = (some .boolean))   : ∀ (s0 : Int32) (s1 : Int32) (M : gq_M), f_L_isTold_1704 N  s0 s1 M = some (v9, M9) → gq_W p l e (gq_rl 10 1 6) s m args below meth c D A cI cZ ad mtL 23 (gq_NQ below D cI cZ ad mtL v9 M9 args s 1 6 A) 1704 [] [.int s1, .int s0] M 1 6 := by
  intro s0 s1 M h
  unfold f_L_isTold_1704 at h
  refine g_icmp_ne (tgt := 1711) hC (by decide) dL_isTold_1704 (fun c238 => ?_) (fun c238 => ?_)
  · replace h := gq_f c238 h
    refine g_iconst (v := 0) hC (by decide) dL_isTold_1711 ?_
    exact g_weak [] rfl (t_L_isTold_1712 hl9 hZ hC hr  0 M h)
  · replace h := gq_t c238 h
    refine g_iconst (v := 1) hC (by decide) dL_isTold_1707 ?_
    refine g_goto (tgt := 1712) hC (by decide) dL_isTold_1708 ?_
    exact g_weak [] rfl (t_L_isTold_1712 hl9 hZ hC hr  1 M h)
def f_L_isTold_1667 (N : Nat) (x12 : Int32) (x13 : Int32) (x15 : Int32) (x16 : Int32) (x17 : Int32) (x18 : Int32) (M : gq_M) : Option (Int32 × gq_M) :=
  gq_b (f_L_does N 15 x12 x15 x16 0 0 0 M) fun v233 M235 => if x13 = 0 then (f_L_isTold_1704 N  v233 (-300000000) M235) else (if x17 = 0 then (f_L_isTold_1704 N  v233 (-200000000) M235) else (f_L_isTold_1704 N  v233 x18 M235))
set_option maxHeartbeats 1000000 in
set_option maxRecDepth 20000 in
theorem t_L_isTold_1667 {N : Nat} {v9 : Int32} {M9 : gq_M} (hl9 : l.stackTraces = false) (hZ : gq_Zn A s) (hC : gq_C p s m args meth c D A cI cZ ad mtL RL cL_isTold 23) (hr : meth.sig.returnType = (some .boolean))   : ∀ (x12 : Int32) (x13 : Int32) (x15 : Int32) (x16 : Int32) (x17 : Int32) (x18 : Int32) (M : gq_M), f_L_isTold_1667 N  x12 x13 x15 x16 x17 x18 M = some (v9, M9) → gq_W p l e (gq_rl 10 1 6) s m args below meth c D A cI cZ ad mtL 23 (gq_NQ below D cI cZ ad mtL v9 M9 args s 1 6 A) 1667 [(0, .ref (ad 0)), (12, .int x12), (13, .int x13), (15, .int x15), (16, .int x16), (17, .int x17), (18, .int x18)] [] M 0 0 := by
  intro x12 x13 x15 x16 x17 x18 M h
  unfold f_L_isTold_1667 at h
  refine g_aload_n hC 0 rfl rfl dL_isTold_1667 ?_
  refine g_bipush (v := 15) hC (by decide) dL_isTold_1668 ?_
  refine g_iload hC 1 rfl dL_isTold_1670 ?_
  refine g_iload hC 3 rfl dL_isTold_1672 ?_
  refine g_iload hC 4 rfl dL_isTold_1674 ?_
  refine g_iconst (v := 0) hC (by decide) dL_isTold_1676 ?_
  refine g_iconst (v := 0) hC (by decide) dL_isTold_1677 ?_
  refine g_iconst (v := 0) hC (by decide) dL_isTold_1678 ?_
  obtain ⟨v233, M235, c234, h⟩ := gq_b_i h
  refine g_LNH (as := [.ref (ad 0), .int 15, .int x12, .int x15, .int x16, .int 0, .int 0, .int 0]) hC hZ (t_L_does hl9 N _ _ _ _ _ _ _ _ _ _ c234) mH_L_does wm_L_183 rfl rfl (Nat.le_of_ble_eq_true rfl) ⟨Nat.le_of_ble_eq_true rfl, Nat.le_of_ble_eq_true rfl⟩ ⟨Nat.le_of_ble_eq_true rfl, Nat.le_of_ble_eq_true rfl⟩ dL_isTold_1679 ?_
  refine g_iload hC 2 rfl dL_isTold_1682 ?_
  refine g_if_ne (tgt := 1692) hC (by decide) dL_isTold_1684 (fun c236 => ?_) (fun c236 => ?_)
  · replace h := gq_f c236 h
    refine g_iload hC 5 rfl dL_isTold_1692 ?_
    refine g_if_eq (tgt := 1702) hC (by decide) dL_isTold_1694 (fun c237 => ?_) (fun c237 => ?_)
    · replace h := gq_t c237 h
      refine g_ldc (v := (-200000000)) hC wk_L_87 dL_isTold_1702 ?_
      exact g_weak [] rfl (t_L_isTold_1704 hl9 hZ hC hr  v233 (-200000000) M235 h)
    · replace h := gq_f c237 h
      refine g_iload hC 6 rfl dL_isTold_1697 ?_
      refine g_goto (tgt := 1704) hC (by decide) dL_isTold_1699 ?_
      exact g_weak [] rfl (t_L_isTold_1704 hl9 hZ hC hr  v233 x18 M235 h)
  · replace h := gq_t c236 h
    refine g_ldc (v := (-300000000)) hC wk_L_84 dL_isTold_1687 ?_
    refine g_goto (tgt := 1704) hC (by decide) dL_isTold_1689 ?_
    exact g_weak [] rfl (t_L_isTold_1704 hl9 hZ hC hr  v233 (-300000000) M235 h)
def f_L_isTold_1656 (N : Nat) (x12 : Int32) (x13 : Int32) (x15 : Int32) (x16 : Int32) (x17 : Int32) (s0 : Int32) (M : gq_M) : Option (Int32 × gq_M) :=
  gq_g (gq_in (16 + x12) 24) (gq_l (gq_up M 121 ((16 + x12) : Int32).toNatClampNeg 0) fun M232 => f_L_isTold_1667 N  x12 x13 x15 x16 x17 s0 M232)
set_option maxHeartbeats 1000000 in
set_option maxRecDepth 20000 in
theorem t_L_isTold_1656 {N : Nat} {v9 : Int32} {M9 : gq_M} (hl9 : l.stackTraces = false) (hZ : gq_Zn A s) (hC : gq_C p s m args meth c D A cI cZ ad mtL RL cL_isTold 23) (hr : meth.sig.returnType = (some .boolean))   : ∀ (x12 : Int32) (x13 : Int32) (x15 : Int32) (x16 : Int32) (x17 : Int32) (s0 : Int32) (M : gq_M), f_L_isTold_1656 N  x12 x13 x15 x16 x17 s0 M = some (v9, M9) → gq_W p l e (gq_rl 10 1 6) s m args below meth c D A cI cZ ad mtL 23 (gq_NQ below D cI cZ ad mtL v9 M9 args s 1 6 A) 1656 [(0, .ref (ad 0)), (8, .ref (ad 121)), (12, .int x12), (13, .int x13), (15, .int x15), (16, .int x16), (17, .int x17)] [.int s0] M 0 0 := by
  intro x12 x13 x15 x16 x17 s0 M h
  unfold f_L_isTold_1656 at h
  refine g_istore (L2 := [(18, .int s0), (0, .ref (ad 0)), (8, .ref (ad 121)), (12, .int x12), (13, .int x13), (15, .int x15), (16, .int x16), (17, .int x17)]) hC (by decide) rfl dL_isTold_1656 ?_
  refine g_aload hC 2 rfl dL_isTold_1658 ?_
  refine g_bipush (v := 16) hC (by decide) dL_isTold_1660 ?_
  refine g_iload hC 3 rfl dL_isTold_1662 ?_
  refine g_iadd hC dL_isTold_1664 ?_
  refine g_iconst (v := 0) hC (by decide) dL_isTold_1665 ?_
  obtain ⟨g231, h⟩ := gq_g_i h
  refine g_iast hC arL_121 (gq_in_i g231) dL_isTold_1666 ?_
  refine g_topM (fun M232 hM232 => ?_)
  replace h := gq_l_i hM232 h
  exact g_weak [1, 3, 4, 5, 6, 7, 0] rfl (t_L_isTold_1667 hl9 hZ hC hr  x12 x13 x15 x16 x17 s0 M232 h)
def f_L_isTold_1631 (N : Nat) (x12 : Int32) (x13 : Int32) (x15 : Int32) (x16 : Int32) (x17 : Int32) (s0 : Int64) (s1 : Int64) (M : gq_M) : Option (Int32 × gq_M) :=
  if (lg_cmp (s0 - s1) 0) ≤ 0 then (f_L_isTold_1656 N  x12 x13 x15 x16 x17 0 M) else (gq_l ((((s0 - s1) * (x16 : Int32).toInt64) / 100) : Int64).toInt32 fun v230 => f_L_isTold_1656 N  x12 x13 x15 x16 x17 v230 M)
set_option maxHeartbeats 1000000 in
set_option maxRecDepth 20000 in
theorem t_L_isTold_1631 {N : Nat} {v9 : Int32} {M9 : gq_M} (hl9 : l.stackTraces = false) (hZ : gq_Zn A s) (hC : gq_C p s m args meth c D A cI cZ ad mtL RL cL_isTold 23) (hr : meth.sig.returnType = (some .boolean))   : ∀ (x12 : Int32) (x13 : Int32) (x15 : Int32) (x16 : Int32) (x17 : Int32) (s0 : Int64) (s1 : Int64) (M : gq_M), f_L_isTold_1631 N  x12 x13 x15 x16 x17 s0 s1 M = some (v9, M9) → gq_W p l e (gq_rl 10 1 6) s m args below meth c D A cI cZ ad mtL 23 (gq_NQ below D cI cZ ad mtL v9 M9 args s 1 6 A) 1631 [(0, .ref (ad 0)), (8, .ref (ad 121)), (12, .int x12), (13, .int x13), (15, .int x15), (16, .int x16), (17, .int x17)] [.long s1, .long s0] M 0 0 := by
  intro x12 x13 x15 x16 x17 s0 s1 M h
  unfold f_L_isTold_1631 at h
  refine g_lsub hC dL_isTold_1631 ?_
  refine g_lstore (L2 := [(21, .long (s0 - s1)), (0, .ref (ad 0)), (8, .ref (ad 121)), (12, .int x12), (13, .int x13), (15, .int x15), (16, .int x16), (17, .int x17)]) hC (by decide) rfl dL_isTold_1632 ?_
  refine g_lload hC 0 rfl dL_isTold_1634 ?_
  refine g_lconst (v := 0) hC (by decide) dL_isTold_1636 ?_
  refine g_lcmp hC dL_isTold_1637 ?_
  refine g_if_le (tgt := 1655) hC (by decide) dL_isTold_1638 (fun c229 => ?_) (fun c229 => ?_)
  · replace h := gq_t c229 h
    refine g_iconst (v := 0) hC (by decide) dL_isTold_1655 ?_
    exact g_weak [1, 2, 3, 4, 5, 6, 7] rfl (t_L_isTold_1656 hl9 hZ hC hr  x12 x13 x15 x16 x17 0 M h)
  · replace h := gq_f c229 h
    refine g_lload hC 0 rfl dL_isTold_1641 ?_
    refine g_iload hC 6 rfl dL_isTold_1643 ?_
    refine g_i2l hC dL_isTold_1645 ?_
    refine g_lmul hC dL_isTold_1646 ?_
    refine g_ldc2 (v := 100) hC wk_L_201 dL_isTold_1647 ?_
    refine g_ldiv hC (by decide) dL_isTold_1650 ?_
    refine g_l2i hC dL_isTold_1651 ?_
    refine g_topi (fun v230 hv230 => ?_)
    replace h := gq_l_i hv230 h
    refine g_goto (tgt := 1656) hC (by decide) dL_isTold_1652 ?_
    exact g_weak [1, 2, 3, 4, 5, 6, 7] rfl (t_L_isTold_1656 hl9 hZ hC hr  x12 x13 x15 x16 x17 v230 M h)
def f_L_isTold_1578 (N : Nat) (x12 : Int32) (x13 : Int32) (x15 : Int32) (x16 : Int32) (s0 : Int32) (M : gq_M) : Option (Int32 × gq_M) :=
  if x13 = 0 then (f_L_isTold_1667 N  x12 x13 x15 x16 s0 0 M) else (if s0 = 0 then (f_L_isTold_1667 N  x12 x13 x15 x16 s0 0 M) else (gq_g (gq_in (16 + x12) 24) (gq_l (M 121 ((16 + x12) : Int32).toNatClampNeg) fun v226 => gq_l ((v226 : Int32).toInt64 - (x15 : Int32).toInt64) fun v227 => if (lg_cmp (v226 : Int32).toInt64 0) ≤ 0 then (f_L_isTold_1631 N  x12 x13 x15 x16 s0 v227 0 M) else (f_L_isTold_1631 N  x12 x13 x15 x16 s0 v227 (((v226 : Int32).toInt64 * 3) / 100) M))))
set_option maxHeartbeats 1000000 in
set_option maxRecDepth 20000 in
theorem t_L_isTold_1578 {N : Nat} {v9 : Int32} {M9 : gq_M} (hl9 : l.stackTraces = false) (hZ : gq_Zn A s) (hC : gq_C p s m args meth c D A cI cZ ad mtL RL cL_isTold 23) (hr : meth.sig.returnType = (some .boolean))   : ∀ (x12 : Int32) (x13 : Int32) (x15 : Int32) (x16 : Int32) (s0 : Int32) (M : gq_M), f_L_isTold_1578 N  x12 x13 x15 x16 s0 M = some (v9, M9) → gq_W p l e (gq_rl 10 1 6) s m args below meth c D A cI cZ ad mtL 23 (gq_NQ below D cI cZ ad mtL v9 M9 args s 1 6 A) 1578 [(0, .ref (ad 0)), (8, .ref (ad 121)), (12, .int x12), (13, .int x13), (15, .int x15), (16, .int x16)] [.int s0] M 0 0 := by
  intro x12 x13 x15 x16 s0 M h
  unfold f_L_isTold_1578 at h
  refine g_istore (L2 := [(17, .int s0), (0, .ref (ad 0)), (8, .ref (ad 121)), (12, .int x12), (13, .int x13), (15, .int x15), (16, .int x16)]) hC (by decide) rfl dL_isTold_1578 ?_
  refine g_iconst (v := 0) hC (by decide) dL_isTold_1580 ?_
  refine g_istore (L2 := [(18, .int 0), (17, .int s0), (0, .ref (ad 0)), (8, .ref (ad 121)), (12, .int x12), (13, .int x13), (15, .int x15), (16, .int x16)]) hC (by decide) rfl dL_isTold_1581 ?_
  refine g_iload hC 5 rfl dL_isTold_1583 ?_
  refine g_if_eq (tgt := 1667) hC (by decide) dL_isTold_1585 (fun c223 => ?_) (fun c223 => ?_)
  · replace h := gq_t c223 h
    exact g_weak [2, 4, 5, 6, 7, 1, 0] rfl (t_L_isTold_1667 hl9 hZ hC hr  x12 x13 x15 x16 s0 0 M h)
  · replace h := gq_f c223 h
    refine g_iload hC 1 rfl dL_isTold_1588 ?_
    refine g_if_eq (tgt := 1667) hC (by decide) dL_isTold_1590 (fun c224 => ?_) (fun c224 => ?_)
    · replace h := gq_t c224 h
      exact g_weak [2, 4, 5, 6, 7, 1, 0] rfl (t_L_isTold_1667 hl9 hZ hC hr  x12 x13 x15 x16 s0 0 M h)
    · replace h := gq_f c224 h
      refine g_aload hC 3 rfl dL_isTold_1593 ?_
      refine g_bipush (v := 16) hC (by decide) dL_isTold_1595 ?_
      refine g_iload hC 4 rfl dL_isTold_1597 ?_
      refine g_iadd hC dL_isTold_1599 ?_
      obtain ⟨g225, h⟩ := gq_g_i h
      refine g_iald hC arL_121 (gq_in_i g225) dL_isTold_1600 ?_
      refine g_topi (fun v226 hv226 => ?_)
      replace h := gq_l_i hv226 h
      refine g_i2l hC dL_isTold_1601 ?_
      refine g_lstore (L2 := [(19, .long (v226 : Int32).toInt64), (18, .int 0), (17, .int s0), (0, .ref (ad 0)), (8, .ref (ad 121)), (12, .int x12), (13, .int x13), (15, .int x15), (16, .int x16)]) hC (by decide) rfl dL_isTold_1602 ?_
      refine g_lload hC 0 rfl dL_isTold_1604 ?_
      refine g_iload hC 7 rfl dL_isTold_1606 ?_
      refine g_i2l hC dL_isTold_1608 ?_
      refine g_lsub hC dL_isTold_1609 ?_
      refine g_topl (fun v227 hv227 => ?_)
      replace h := gq_l_i hv227 h
      refine g_lload hC 0 rfl dL_isTold_1610 ?_
      refine g_lconst (v := 0) hC (by decide) dL_isTold_1612 ?_
      refine g_lcmp hC dL_isTold_1613 ?_
      refine g_if_le (tgt := 1630) hC (by decide) dL_isTold_1614 (fun c228 => ?_) (fun c228 => ?_)
      · replace h := gq_t c228 h
        refine g_lconst (v := 0) hC (by decide) dL_isTold_1630 ?_
        exact g_weak [3, 4, 5, 6, 7, 8, 2] rfl (t_L_isTold_1631 hl9 hZ hC hr  x12 x13 x15 x16 s0 v227 0 M h)
      · replace h := gq_f c228 h
        refine g_lload hC 0 rfl dL_isTold_1617 ?_
        refine g_ldc2 (v := 3) hC wk_L_199 dL_isTold_1619 ?_
        refine g_lmul hC dL_isTold_1622 ?_
        refine g_ldc2 (v := 100) hC wk_L_201 dL_isTold_1623 ?_
        refine g_ldiv hC (by decide) dL_isTold_1626 ?_
        refine g_goto (tgt := 1631) hC (by decide) dL_isTold_1627 ?_
        exact g_weak [3, 4, 5, 6, 7, 8, 2] rfl (t_L_isTold_1631 hl9 hZ hC hr  x12 x13 x15 x16 s0 v227 (((v226 : Int32).toInt64 * 3) / 100) M h)
def f_L_isTold_1577 (N : Nat) (x12 : Int32) (x13 : Int32) (x15 : Int32) (x16 : Int32) (M : gq_M) : Option (Int32 × gq_M) :=
  f_L_isTold_1578 N  x12 x13 x15 x16 0 M
set_option maxHeartbeats 1000000 in
set_option maxRecDepth 20000 in
theorem t_L_isTold_1577 {N : Nat} {v9 : Int32} {M9 : gq_M} (hl9 : l.stackTraces = false) (hZ : gq_Zn A s) (hC : gq_C p s m args meth c D A cI cZ ad mtL RL cL_isTold 23) (hr : meth.sig.returnType = (some .boolean))   : ∀ (x12 : Int32) (x13 : Int32) (x15 : Int32) (x16 : Int32) (M : gq_M), f_L_isTold_1577 N  x12 x13 x15 x16 M = some (v9, M9) → gq_W p l e (gq_rl 10 1 6) s m args below meth c D A cI cZ ad mtL 23 (gq_NQ below D cI cZ ad mtL v9 M9 args s 1 6 A) 1577 [(0, .ref (ad 0)), (8, .ref (ad 121)), (12, .int x12), (13, .int x13), (15, .int x15), (16, .int x16)] [] M 0 0 := by
  intro x12 x13 x15 x16 M h
  unfold f_L_isTold_1577 at h
  refine g_iconst (v := 0) hC (by decide) dL_isTold_1577 ?_
  exact g_weak [0, 1, 2, 3, 4, 5] rfl (t_L_isTold_1578 hl9 hZ hC hr  x12 x13 x15 x16 0 M h)
def f_L_isTold_1547 (N : Nat) (x10 : Int32) (x12 : Int32) (x13 : Int32) (s0 : Int32) (M : gq_M) : Option (Int32 × gq_M) :=
  if 10000001 ≤ s0 then (f_L_isTold_1577 N  x12 x13 s0 ((x10 / 9) - (x10 / 9) / 102 * 102) M) else (if 101 ≤ ((x10 / 9) - (x10 / 9) / 102 * 102) then (f_L_isTold_1577 N  x12 x13 s0 ((x10 / 9) - (x10 / 9) / 102 * 102) M) else (f_L_isTold_1578 N  x12 x13 s0 ((x10 / 9) - (x10 / 9) / 102 * 102) 1 M))
set_option maxHeartbeats 1000000 in
set_option maxRecDepth 20000 in
theorem t_L_isTold_1547 {N : Nat} {v9 : Int32} {M9 : gq_M} (hl9 : l.stackTraces = false) (hZ : gq_Zn A s) (hC : gq_C p s m args meth c D A cI cZ ad mtL RL cL_isTold 23) (hr : meth.sig.returnType = (some .boolean))   : ∀ (x10 : Int32) (x12 : Int32) (x13 : Int32) (s0 : Int32) (M : gq_M), f_L_isTold_1547 N  x10 x12 x13 s0 M = some (v9, M9) → gq_W p l e (gq_rl 10 1 6) s m args below meth c D A cI cZ ad mtL 23 (gq_NQ below D cI cZ ad mtL v9 M9 args s 1 6 A) 1547 [(0, .ref (ad 0)), (8, .ref (ad 121)), (10, .int x10), (12, .int x12), (13, .int x13)] [.int s0] M 0 0 := by
  intro x10 x12 x13 s0 M h
  unfold f_L_isTold_1547 at h
  refine g_istore (L2 := [(15, .int s0), (0, .ref (ad 0)), (8, .ref (ad 121)), (10, .int x10), (12, .int x12), (13, .int x13)]) hC (by decide) rfl dL_isTold_1547 ?_
  refine g_iload hC 3 rfl dL_isTold_1549 ?_
  refine g_bipush (v := 9) hC (by decide) dL_isTold_1551 ?_
  refine g_idiv hC (by decide) dL_isTold_1553 ?_
  refine g_bipush (v := 102) hC (by decide) dL_isTold_1554 ?_
  refine g_irem hC (by decide) dL_isTold_1556 ?_
  refine g_istore (L2 := [(16, .int ((x10 / 9) - (x10 / 9) / 102 * 102)), (15, .int s0), (0, .ref (ad 0)), (8, .ref (ad 121)), (10, .int x10), (12, .int x12), (13, .int x13)]) hC (by decide) rfl dL_isTold_1557 ?_
  refine g_iload hC 1 rfl dL_isTold_1559 ?_
  refine g_ldc (v := 10000001) hC wk_L_198 dL_isTold_1561 ?_
  refine g_icmp_ge (tgt := 1577) hC (by decide) dL_isTold_1563 (fun c221 => ?_) (fun c221 => ?_)
  · replace h := gq_t c221 h
    exact g_weak [2, 3, 5, 6, 1, 0] rfl (t_L_isTold_1577 hl9 hZ hC hr  x12 x13 s0 ((x10 / 9) - (x10 / 9) / 102 * 102) M h)
  · replace h := gq_f c221 h
    refine g_iload hC 0 rfl dL_isTold_1566 ?_
    refine g_bipush (v := 101) hC (by decide) dL_isTold_1568 ?_
    refine g_icmp_ge (tgt := 1577) hC (by decide) dL_isTold_1570 (fun c222 => ?_) (fun c222 => ?_)
    · replace h := gq_t c222 h
      exact g_weak [2, 3, 5, 6, 1, 0] rfl (t_L_isTold_1577 hl9 hZ hC hr  x12 x13 s0 ((x10 / 9) - (x10 / 9) / 102 * 102) M h)
    · replace h := gq_f c222 h
      refine g_iconst (v := 1) hC (by decide) dL_isTold_1573 ?_
      refine g_goto (tgt := 1578) hC (by decide) dL_isTold_1574 ?_
      exact g_weak [2, 3, 5, 6, 1, 0] rfl (t_L_isTold_1578 hl9 hZ hC hr  x12 x13 s0 ((x10 / 9) - (x10 / 9) / 102 * 102) 1 M h)
def f_L_isTold_1524 (N : Nat) (s0 : Int32) (M : gq_M) : Option (Int32 × gq_M) :=
  gq_g (gq_bb s0) (some (s0, M))
set_option maxHeartbeats 1000000 in
set_option maxRecDepth 20000 in
theorem t_L_isTold_1524 {N : Nat} {v9 : Int32} {M9 : gq_M} (hl9 : l.stackTraces = false) (hZ : gq_Zn A s) (hC : gq_C p s m args meth c D A cI cZ ad mtL RL cL_isTold 23) (hr : meth.sig.returnType = (some .boolean))   : ∀ (s0 : Int32) (M : gq_M), f_L_isTold_1524 N  s0 M = some (v9, M9) → gq_W p l e (gq_rl 10 1 6) s m args below meth c D A cI cZ ad mtL 23 (gq_NQ below D cI cZ ad mtL v9 M9 args s 1 6 A) 1524 [] [.int s0] M 1 6 := by
  intro s0 M h
  unfold f_L_isTold_1524 at h
  obtain ⟨g220, h⟩ := gq_g_i h
  exact g_zretsN hC (by decide) (by decide) hr (gq_bb_i g220) h dL_isTold_1524
def f_L_isTold_1516 (N : Nat) (s0 : Int32) (s1 : Int32) (M : gq_M) : Option (Int32 × gq_M) :=
  if s0 = s1 then (f_L_isTold_1524 N  1 M) else (f_L_isTold_1524 N  0 M)
set_option maxHeartbeats 1000000 in
set_option maxRecDepth 20000 in
theorem t_L_isTold_1516 {N : Nat} {v9 : Int32} {M9 : gq_M} (hl9 : l.stackTraces = false) (hZ : gq_Zn A s) (hC : gq_C p s m args meth c D A cI cZ ad mtL RL cL_isTold 23) (hr : meth.sig.returnType = (some .boolean))   : ∀ (s0 : Int32) (s1 : Int32) (M : gq_M), f_L_isTold_1516 N  s0 s1 M = some (v9, M9) → gq_W p l e (gq_rl 10 1 6) s m args below meth c D A cI cZ ad mtL 23 (gq_NQ below D cI cZ ad mtL v9 M9 args s 1 6 A) 1516 [] [.int s1, .int s0] M 1 6 := by
  intro s0 s1 M h
  unfold f_L_isTold_1516 at h
  refine g_icmp_ne (tgt := 1523) hC (by decide) dL_isTold_1516 (fun c219 => ?_) (fun c219 => ?_)
  · replace h := gq_f c219 h
    refine g_iconst (v := 0) hC (by decide) dL_isTold_1523 ?_
    exact g_weak [] rfl (t_L_isTold_1524 hl9 hZ hC hr  0 M h)
  · replace h := gq_t c219 h
    refine g_iconst (v := 1) hC (by decide) dL_isTold_1519 ?_
    refine g_goto (tgt := 1524) hC (by decide) dL_isTold_1520 ?_
    exact g_weak [] rfl (t_L_isTold_1524 hl9 hZ hC hr  1 M h)
def f_L_isTold_1480 (N : Nat) (x12 : Int32) (x15 : Int32) (x16 : Int32) (x17 : Int32) (x19 : Int32) (M : gq_M) : Option (Int32 × gq_M) :=
  gq_b (f_L_does N 14 x12 x15 0 0 0 0 M) fun v214 M216 => if x16 = 0 then (f_L_isTold_1516 N  v214 (-300000000) M216) else (if x17 = 0 then (f_L_isTold_1516 N  v214 (-100000000) M216) else (f_L_isTold_1516 N  v214 x19 M216))
set_option maxHeartbeats 1000000 in
set_option maxRecDepth 20000 in
theorem t_L_isTold_1480 {N : Nat} {v9 : Int32} {M9 : gq_M} (hl9 : l.stackTraces = false) (hZ : gq_Zn A s) (hC : gq_C p s m args meth c D A cI cZ ad mtL RL cL_isTold 23) (hr : meth.sig.returnType = (some .boolean))   : ∀ (x12 : Int32) (x15 : Int32) (x16 : Int32) (x17 : Int32) (x19 : Int32) (M : gq_M), f_L_isTold_1480 N  x12 x15 x16 x17 x19 M = some (v9, M9) → gq_W p l e (gq_rl 10 1 6) s m args below meth c D A cI cZ ad mtL 23 (gq_NQ below D cI cZ ad mtL v9 M9 args s 1 6 A) 1480 [(0, .ref (ad 0)), (12, .int x12), (15, .int x15), (16, .int x16), (17, .int x17), (19, .int x19)] [] M 0 0 := by
  intro x12 x15 x16 x17 x19 M h
  unfold f_L_isTold_1480 at h
  refine g_aload_n hC 0 rfl rfl dL_isTold_1480 ?_
  refine g_bipush (v := 14) hC (by decide) dL_isTold_1481 ?_
  refine g_iload hC 1 rfl dL_isTold_1483 ?_
  refine g_iload hC 2 rfl dL_isTold_1485 ?_
  refine g_iconst (v := 0) hC (by decide) dL_isTold_1487 ?_
  refine g_iconst (v := 0) hC (by decide) dL_isTold_1488 ?_
  refine g_iconst (v := 0) hC (by decide) dL_isTold_1489 ?_
  refine g_iconst (v := 0) hC (by decide) dL_isTold_1490 ?_
  obtain ⟨v214, M216, c215, h⟩ := gq_b_i h
  refine g_LNH (as := [.ref (ad 0), .int 14, .int x12, .int x15, .int 0, .int 0, .int 0, .int 0]) hC hZ (t_L_does hl9 N _ _ _ _ _ _ _ _ _ _ c215) mH_L_does wm_L_183 rfl rfl (Nat.le_of_ble_eq_true rfl) ⟨Nat.le_of_ble_eq_true rfl, Nat.le_of_ble_eq_true rfl⟩ ⟨Nat.le_of_ble_eq_true rfl, Nat.le_of_ble_eq_true rfl⟩ dL_isTold_1491 ?_
  refine g_iload hC 3 rfl dL_isTold_1494 ?_
  refine g_if_ne (tgt := 1504) hC (by decide) dL_isTold_1496 (fun c217 => ?_) (fun c217 => ?_)
  · replace h := gq_f c217 h
    refine g_iload hC 4 rfl dL_isTold_1504 ?_
    refine g_if_eq (tgt := 1514) hC (by decide) dL_isTold_1506 (fun c218 => ?_) (fun c218 => ?_)
    · replace h := gq_t c218 h
      refine g_ldc (v := (-100000000)) hC wk_L_90 dL_isTold_1514 ?_
      exact g_weak [] rfl (t_L_isTold_1516 hl9 hZ hC hr  v214 (-100000000) M216 h)
    · replace h := gq_f c218 h
      refine g_iload hC 5 rfl dL_isTold_1509 ?_
      refine g_goto (tgt := 1516) hC (by decide) dL_isTold_1511 ?_
      exact g_weak [] rfl (t_L_isTold_1516 hl9 hZ hC hr  v214 x19 M216 h)
  · replace h := gq_t c217 h
    refine g_ldc (v := (-300000000)) hC wk_L_84 dL_isTold_1499 ?_
    refine g_goto (tgt := 1516) hC (by decide) dL_isTold_1501 ?_
    exact g_weak [] rfl (t_L_isTold_1516 hl9 hZ hC hr  v214 (-300000000) M216 h)
def f_L_isTold_1433 (N : Nat) (x12 : Int32) (x15 : Int32) (x16 : Int32) (x17 : Int32) (s0 : Int32) (M : gq_M) : Option (Int32 × gq_M) :=
  if x17 = 0 then (f_L_isTold_1480 N  x12 x15 x16 x17 s0 M) else (gq_g (gq_in x15 40) (gq_l (M 109 x15.toNatClampNeg) fun v201 => gq_g (gq_in x15 40) (gq_l (gq_up M 109 x15.toNatClampNeg (v201 + 32768)) fun M203 => gq_g (gq_in (40 + x12) 56) (gq_l (M203 119 ((40 + x12) : Int32).toNatClampNeg) fun v205 => gq_g (gq_in (40 + x12) 56) (gq_l (gq_up M203 119 ((40 + x12) : Int32).toNatClampNeg (v205 - s0)) fun M207 => gq_g (gq_in x15 40) (gq_l (M207 109 x15.toNatClampNeg) fun v209 => gq_g (gq_in (16 + (v209 - v209 / 8 * 8)) 24) (gq_l (M207 121 ((16 + (v209 - v209 / 8 * 8)) : Int32).toNatClampNeg) fun v211 => gq_g (gq_in (16 + (v209 - v209 / 8 * 8)) 24) (gq_l (gq_up M207 121 ((16 + (v209 - v209 / 8 * 8)) : Int32).toNatClampNeg (v211 - s0)) fun M213 => f_L_isTold_1480 N  x12 x15 x16 x17 s0 M213))))))))
set_option maxHeartbeats 1000000 in
set_option maxRecDepth 20000 in
theorem t_L_isTold_1433 {N : Nat} {v9 : Int32} {M9 : gq_M} (hl9 : l.stackTraces = false) (hZ : gq_Zn A s) (hC : gq_C p s m args meth c D A cI cZ ad mtL RL cL_isTold 23) (hr : meth.sig.returnType = (some .boolean))   : ∀ (x12 : Int32) (x15 : Int32) (x16 : Int32) (x17 : Int32) (s0 : Int32) (M : gq_M), f_L_isTold_1433 N  x12 x15 x16 x17 s0 M = some (v9, M9) → gq_W p l e (gq_rl 10 1 6) s m args below meth c D A cI cZ ad mtL 23 (gq_NQ below D cI cZ ad mtL v9 M9 args s 1 6 A) 1433 [(0, .ref (ad 0)), (1, .ref (ad 109)), (6, .ref (ad 119)), (8, .ref (ad 121)), (12, .int x12), (15, .int x15), (16, .int x16), (17, .int x17)] [.int s0] M 0 0 := by
  intro x12 x15 x16 x17 s0 M h
  unfold f_L_isTold_1433 at h
  refine g_istore (L2 := [(19, .int s0), (0, .ref (ad 0)), (1, .ref (ad 109)), (6, .ref (ad 119)), (8, .ref (ad 121)), (12, .int x12), (15, .int x15), (16, .int x16), (17, .int x17)]) hC (by decide) rfl dL_isTold_1433 ?_
  refine g_iload hC 8 rfl dL_isTold_1435 ?_
  refine g_if_eq (tgt := 1480) hC (by decide) dL_isTold_1437 (fun c199 => ?_) (fun c199 => ?_)
  · replace h := gq_t c199 h
    exact g_weak [1, 5, 6, 7, 8, 0] rfl (t_L_isTold_1480 hl9 hZ hC hr  x12 x15 x16 x17 s0 M h)
  · replace h := gq_f c199 h
    refine g_aload_n hC 2 rfl rfl dL_isTold_1440 ?_
    refine g_iload hC 6 rfl dL_isTold_1441 ?_
    refine g_dup2 hC rfl rfl dL_isTold_1443 ?_
    obtain ⟨g200, h⟩ := gq_g_i h
    refine g_iald hC arL_109 (gq_in_i g200) dL_isTold_1444 ?_
    refine g_topi (fun v201 hv201 => ?_)
    replace h := gq_l_i hv201 h
    refine g_ldc (v := 32768) hC wk_L_194 dL_isTold_1445 ?_
    refine g_iadd hC dL_isTold_1447 ?_
    obtain ⟨g202, h⟩ := gq_g_i h
    refine g_iast hC arL_109 (gq_in_i g202) dL_isTold_1448 ?_
    refine g_topM (fun M203 hM203 => ?_)
    replace h := gq_l_i hM203 h
    refine g_aload hC 3 rfl dL_isTold_1449 ?_
    refine g_bipush (v := 40) hC (by decide) dL_isTold_1451 ?_
    refine g_iload hC 5 rfl dL_isTold_1453 ?_
    refine g_iadd hC dL_isTold_1455 ?_
    refine g_dup2 hC rfl rfl dL_isTold_1456 ?_
    obtain ⟨g204, h⟩ := gq_g_i h
    refine g_iald hC arL_119 (gq_in_i g204) dL_isTold_1457 ?_
    refine g_topi (fun v205 hv205 => ?_)
    replace h := gq_l_i hv205 h
    refine g_iload hC 0 rfl dL_isTold_1458 ?_
    refine g_isub hC dL_isTold_1460 ?_
    obtain ⟨g206, h⟩ := gq_g_i h
    refine g_iast hC arL_119 (gq_in_i g206) dL_isTold_1461 ?_
    refine g_topM (fun M207 hM207 => ?_)
    replace h := gq_l_i hM207 h
    refine g_aload hC 4 rfl dL_isTold_1462 ?_
    refine g_bipush (v := 16) hC (by decide) dL_isTold_1464 ?_
    refine g_aload_n hC 2 rfl rfl dL_isTold_1466 ?_
    refine g_iload hC 6 rfl dL_isTold_1467 ?_
    obtain ⟨g208, h⟩ := gq_g_i h
    refine g_iald hC arL_109 (gq_in_i g208) dL_isTold_1469 ?_
    refine g_topi (fun v209 hv209 => ?_)
    replace h := gq_l_i hv209 h
    refine g_bipush (v := 8) hC (by decide) dL_isTold_1470 ?_
    refine g_irem hC (by decide) dL_isTold_1472 ?_
    refine g_iadd hC dL_isTold_1473 ?_
    refine g_dup2 hC rfl rfl dL_isTold_1474 ?_
    obtain ⟨g210, h⟩ := gq_g_i h
    refine g_iald hC arL_121 (gq_in_i g210) dL_isTold_1475 ?_
    refine g_topi (fun v211 hv211 => ?_)
    replace h := gq_l_i hv211 h
    refine g_iload hC 0 rfl dL_isTold_1476 ?_
    refine g_isub hC dL_isTold_1478 ?_
    obtain ⟨g212, h⟩ := gq_g_i h
    refine g_iast hC arL_121 (gq_in_i g212) dL_isTold_1479 ?_
    refine g_topM (fun M213 hM213 => ?_)
    replace h := gq_l_i hM213 h
    exact g_weak [1, 5, 6, 7, 8, 0] rfl (t_L_isTold_1480 hl9 hZ hC hr  x12 x15 x16 x17 s0 M213 h)
def f_L_isTold_1432 (N : Nat) (x12 : Int32) (x15 : Int32) (x16 : Int32) (x17 : Int32) (M : gq_M) : Option (Int32 × gq_M) :=
  f_L_isTold_1433 N  x12 x15 x16 x17 0 M
set_option maxHeartbeats 1000000 in
set_option maxRecDepth 20000 in
theorem t_L_isTold_1432 {N : Nat} {v9 : Int32} {M9 : gq_M} (hl9 : l.stackTraces = false) (hZ : gq_Zn A s) (hC : gq_C p s m args meth c D A cI cZ ad mtL RL cL_isTold 23) (hr : meth.sig.returnType = (some .boolean))   : ∀ (x12 : Int32) (x15 : Int32) (x16 : Int32) (x17 : Int32) (M : gq_M), f_L_isTold_1432 N  x12 x15 x16 x17 M = some (v9, M9) → gq_W p l e (gq_rl 10 1 6) s m args below meth c D A cI cZ ad mtL 23 (gq_NQ below D cI cZ ad mtL v9 M9 args s 1 6 A) 1432 [(0, .ref (ad 0)), (1, .ref (ad 109)), (6, .ref (ad 119)), (8, .ref (ad 121)), (12, .int x12), (15, .int x15), (16, .int x16), (17, .int x17)] [] M 0 0 := by
  intro x12 x15 x16 x17 M h
  unfold f_L_isTold_1432 at h
  refine g_iconst (v := 0) hC (by decide) dL_isTold_1432 ?_
  exact g_weak [0, 1, 2, 3, 4, 5, 6, 7] rfl (t_L_isTold_1433 hl9 hZ hC hr  x12 x15 x16 x17 0 M h)
def f_L_isTold_1393 (N : Nat) (x12 : Int32) (x15 : Int32) (x16 : Int32) (x17 : Int32) (s0 : Int32) (M : gq_M) : Option (Int32 × gq_M) :=
  if x17 = 0 then (f_L_isTold_1432 N  x12 x15 x16 x17 M) else (gq_g (gq_in x15 40) (gq_l (M 110 x15.toNatClampNeg) fun v195 => if (100 * s0) ≤ (3 * (v195 - v195 / 128 * 128)) then (f_L_isTold_1432 N  x12 x15 x16 x17 M) else (gq_g (gq_in x15 40) (gq_l (M 112 x15.toNatClampNeg) fun v198 => f_L_isTold_1433 N  x12 x15 x16 x17 (s0 * (v198 / 16)) M))))
set_option maxHeartbeats 1000000 in
set_option maxRecDepth 20000 in
theorem t_L_isTold_1393 {N : Nat} {v9 : Int32} {M9 : gq_M} (hl9 : l.stackTraces = false) (hZ : gq_Zn A s) (hC : gq_C p s m args meth c D A cI cZ ad mtL RL cL_isTold 23) (hr : meth.sig.returnType = (some .boolean))   : ∀ (x12 : Int32) (x15 : Int32) (x16 : Int32) (x17 : Int32) (s0 : Int32) (M : gq_M), f_L_isTold_1393 N  x12 x15 x16 x17 s0 M = some (v9, M9) → gq_W p l e (gq_rl 10 1 6) s m args below meth c D A cI cZ ad mtL 23 (gq_NQ below D cI cZ ad mtL v9 M9 args s 1 6 A) 1393 [(0, .ref (ad 0)), (1, .ref (ad 109)), (2, .ref (ad 110)), (4, .ref (ad 112)), (6, .ref (ad 119)), (8, .ref (ad 121)), (12, .int x12), (15, .int x15), (16, .int x16), (17, .int x17)] [.int s0] M 0 0 := by
  intro x12 x15 x16 x17 s0 M h
  unfold f_L_isTold_1393 at h
  refine g_istore (L2 := [(18, .int s0), (0, .ref (ad 0)), (1, .ref (ad 109)), (2, .ref (ad 110)), (4, .ref (ad 112)), (6, .ref (ad 119)), (8, .ref (ad 121)), (12, .int x12), (15, .int x15), (16, .int x16), (17, .int x17)]) hC (by decide) rfl dL_isTold_1393 ?_
  refine g_iload hC 10 rfl dL_isTold_1395 ?_
  refine g_if_eq (tgt := 1432) hC (by decide) dL_isTold_1397 (fun c193 => ?_) (fun c193 => ?_)
  · replace h := gq_t c193 h
    exact g_weak [1, 2, 5, 6, 7, 8, 9, 10] rfl (t_L_isTold_1432 hl9 hZ hC hr  x12 x15 x16 x17 M h)
  · replace h := gq_f c193 h
    refine g_bipush (v := 100) hC (by decide) dL_isTold_1400 ?_
    refine g_iload hC 0 rfl dL_isTold_1402 ?_
    refine g_imul hC dL_isTold_1404 ?_
    refine g_iconst (v := 3) hC (by decide) dL_isTold_1405 ?_
    refine g_aload_n hC 3 rfl rfl dL_isTold_1406 ?_
    refine g_iload hC 8 rfl dL_isTold_1407 ?_
    obtain ⟨g194, h⟩ := gq_g_i h
    refine g_iald hC arL_110 (gq_in_i g194) dL_isTold_1409 ?_
    refine g_topi (fun v195 hv195 => ?_)
    replace h := gq_l_i hv195 h
    refine g_sipush (v := 128) hC (by decide) dL_isTold_1410 ?_
    refine g_irem hC (by decide) dL_isTold_1413 ?_
    refine g_imul hC dL_isTold_1414 ?_
    refine g_icmp_le (tgt := 1432) hC (by decide) dL_isTold_1415 (fun c196 => ?_) (fun c196 => ?_)
    · replace h := gq_t c196 h
      exact g_weak [1, 2, 5, 6, 7, 8, 9, 10] rfl (t_L_isTold_1432 hl9 hZ hC hr  x12 x15 x16 x17 M h)
    · replace h := gq_f c196 h
      refine g_iload hC 0 rfl dL_isTold_1418 ?_
      refine g_aload hC 4 rfl dL_isTold_1420 ?_
      refine g_iload hC 8 rfl dL_isTold_1422 ?_
      obtain ⟨g197, h⟩ := gq_g_i h
      refine g_iald hC arL_112 (gq_in_i g197) dL_isTold_1424 ?_
      refine g_topi (fun v198 hv198 => ?_)
      replace h := gq_l_i hv198 h
      refine g_bipush (v := 16) hC (by decide) dL_isTold_1425 ?_
      refine g_idiv hC (by decide) dL_isTold_1427 ?_
      refine g_imul hC dL_isTold_1428 ?_
      refine g_goto (tgt := 1433) hC (by decide) dL_isTold_1429 ?_
      exact g_weak [1, 2, 5, 6, 7, 8, 9, 10] rfl (t_L_isTold_1433 hl9 hZ hC hr  x12 x15 x16 x17 (s0 * (v198 / 16)) M h)
def f_L_isTold_1361 (N : Nat) (x12 : Int32) (x15 : Int32) (x16 : Int32) (s0 : Int32) (M : gq_M) : Option (Int32 × gq_M) :=
  if x16 = 0 then (f_L_isTold_1393 N  x12 x15 x16 s0 0 M) else (gq_g (gq_in x15 40) (gq_l (M 110 x15.toNatClampNeg) fun v189 => gq_g (gq_in x15 40) (gq_l (M 110 x15.toNatClampNeg) fun v191 => gq_l ((v189 - v189 / 128 * 128) - ((v191 / 128) - (v191 / 128) / 128 * 128)) fun v192 => f_L_isTold_1393 N  x12 x15 x16 s0 v192 M)))
set_option maxHeartbeats 1000000 in
set_option maxRecDepth 20000 in
theorem t_L_isTold_1361 {N : Nat} {v9 : Int32} {M9 : gq_M} (hl9 : l.stackTraces = false) (hZ : gq_Zn A s) (hC : gq_C p s m args meth c D A cI cZ ad mtL RL cL_isTold 23) (hr : meth.sig.returnType = (some .boolean))   : ∀ (x12 : Int32) (x15 : Int32) (x16 : Int32) (s0 : Int32) (M : gq_M), f_L_isTold_1361 N  x12 x15 x16 s0 M = some (v9, M9) → gq_W p l e (gq_rl 10 1 6) s m args below meth c D A cI cZ ad mtL 23 (gq_NQ below D cI cZ ad mtL v9 M9 args s 1 6 A) 1361 [(0, .ref (ad 0)), (1, .ref (ad 109)), (2, .ref (ad 110)), (4, .ref (ad 112)), (6, .ref (ad 119)), (8, .ref (ad 121)), (12, .int x12), (15, .int x15), (16, .int x16)] [.int s0] M 0 0 := by
  intro x12 x15 x16 s0 M h
  unfold f_L_isTold_1361 at h
  refine g_istore (L2 := [(17, .int s0), (0, .ref (ad 0)), (1, .ref (ad 109)), (2, .ref (ad 110)), (4, .ref (ad 112)), (6, .ref (ad 119)), (8, .ref (ad 121)), (12, .int x12), (15, .int x15), (16, .int x16)]) hC (by decide) rfl dL_isTold_1361 ?_
  refine g_iload hC 9 rfl dL_isTold_1363 ?_
  refine g_if_eq (tgt := 1392) hC (by decide) dL_isTold_1365 (fun c187 => ?_) (fun c187 => ?_)
  · replace h := gq_t c187 h
    refine g_iconst (v := 0) hC (by decide) dL_isTold_1392 ?_
    exact g_weak [1, 2, 3, 4, 5, 6, 7, 8, 9, 0] rfl (t_L_isTold_1393 hl9 hZ hC hr  x12 x15 x16 s0 0 M h)
  · replace h := gq_f c187 h
    refine g_aload_n hC 3 rfl rfl dL_isTold_1368 ?_
    refine g_iload hC 8 rfl dL_isTold_1369 ?_
    obtain ⟨g188, h⟩ := gq_g_i h
    refine g_iald hC arL_110 (gq_in_i g188) dL_isTold_1371 ?_
    refine g_topi (fun v189 hv189 => ?_)
    replace h := gq_l_i hv189 h
    refine g_sipush (v := 128) hC (by decide) dL_isTold_1372 ?_
    refine g_irem hC (by decide) dL_isTold_1375 ?_
    refine g_aload_n hC 3 rfl rfl dL_isTold_1376 ?_
    refine g_iload hC 8 rfl dL_isTold_1377 ?_
    obtain ⟨g190, h⟩ := gq_g_i h
    refine g_iald hC arL_110 (gq_in_i g190) dL_isTold_1379 ?_
    refine g_topi (fun v191 hv191 => ?_)
    replace h := gq_l_i hv191 h
    refine g_sipush (v := 128) hC (by decide) dL_isTold_1380 ?_
    refine g_idiv hC (by decide) dL_isTold_1383 ?_
    refine g_sipush (v := 128) hC (by decide) dL_isTold_1384 ?_
    refine g_irem hC (by decide) dL_isTold_1387 ?_
    refine g_isub hC dL_isTold_1388 ?_
    refine g_topi (fun v192 hv192 => ?_)
    replace h := gq_l_i hv192 h
    refine g_goto (tgt := 1393) hC (by decide) dL_isTold_1389 ?_
    exact g_weak [1, 2, 3, 4, 5, 6, 7, 8, 9, 0] rfl (t_L_isTold_1393 hl9 hZ hC hr  x12 x15 x16 s0 v192 M h)
def f_L_isTold_1360 (N : Nat) (x12 : Int32) (x15 : Int32) (x16 : Int32) (M : gq_M) : Option (Int32 × gq_M) :=
  f_L_isTold_1361 N  x12 x15 x16 0 M
set_option maxHeartbeats 1000000 in
set_option maxRecDepth 20000 in
theorem t_L_isTold_1360 {N : Nat} {v9 : Int32} {M9 : gq_M} (hl9 : l.stackTraces = false) (hZ : gq_Zn A s) (hC : gq_C p s m args meth c D A cI cZ ad mtL RL cL_isTold 23) (hr : meth.sig.returnType = (some .boolean))   : ∀ (x12 : Int32) (x15 : Int32) (x16 : Int32) (M : gq_M), f_L_isTold_1360 N  x12 x15 x16 M = some (v9, M9) → gq_W p l e (gq_rl 10 1 6) s m args below meth c D A cI cZ ad mtL 23 (gq_NQ below D cI cZ ad mtL v9 M9 args s 1 6 A) 1360 [(0, .ref (ad 0)), (1, .ref (ad 109)), (2, .ref (ad 110)), (4, .ref (ad 112)), (6, .ref (ad 119)), (8, .ref (ad 121)), (12, .int x12), (15, .int x15), (16, .int x16)] [] M 0 0 := by
  intro x12 x15 x16 M h
  unfold f_L_isTold_1360 at h
  refine g_iconst (v := 0) hC (by decide) dL_isTold_1360 ?_
  exact g_weak [0, 1, 2, 3, 4, 5, 6, 7, 8] rfl (t_L_isTold_1361 hl9 hZ hC hr  x12 x15 x16 0 M h)
def f_L_isTold_1307 (N : Nat) (x12 : Int32) (x15 : Int32) (s0 : Int32) (M : gq_M) : Option (Int32 × gq_M) :=
  if s0 = 0 then (f_L_isTold_1360 N  x12 x15 s0 M) else (gq_g (gq_in x15 40) (gq_l (M 112 x15.toNatClampNeg) fun v176 => if (v176 - v176 / 16 * 16) = (x12 + 1) then (gq_g (gq_in x15 40) (gq_l (M 109 x15.toNatClampNeg) fun v179 => if (v179 / 32768) = 0 then (gq_g (gq_in 0 56) (gq_l (M 119 (0 : Int32).toNatClampNeg) fun v182 => gq_b (f_L_sold N x15 M) fun v183 M185 => if (v183 + 240) < v182 then (f_L_isTold_1360 N  x12 x15 s0 M185) else (f_L_isTold_1361 N  x12 x15 s0 1 M185))) else (f_L_isTold_1360 N  x12 x15 s0 M))) else (f_L_isTold_1360 N  x12 x15 s0 M)))
set_option maxHeartbeats 1000000 in
set_option maxRecDepth 20000 in
theorem t_L_isTold_1307 {N : Nat} {v9 : Int32} {M9 : gq_M} (hl9 : l.stackTraces = false) (hZ : gq_Zn A s) (hC : gq_C p s m args meth c D A cI cZ ad mtL RL cL_isTold 23) (hr : meth.sig.returnType = (some .boolean))   : ∀ (x12 : Int32) (x15 : Int32) (s0 : Int32) (M : gq_M), f_L_isTold_1307 N  x12 x15 s0 M = some (v9, M9) → gq_W p l e (gq_rl 10 1 6) s m args below meth c D A cI cZ ad mtL 23 (gq_NQ below D cI cZ ad mtL v9 M9 args s 1 6 A) 1307 [(0, .ref (ad 0)), (1, .ref (ad 109)), (2, .ref (ad 110)), (4, .ref (ad 112)), (6, .ref (ad 119)), (8, .ref (ad 121)), (12, .int x12), (15, .int x15)] [.int s0] M 0 0 := by
  intro x12 x15 s0 M h
  unfold f_L_isTold_1307 at h
  refine g_istore (L2 := [(16, .int s0), (0, .ref (ad 0)), (1, .ref (ad 109)), (2, .ref (ad 110)), (4, .ref (ad 112)), (6, .ref (ad 119)), (8, .ref (ad 121)), (12, .int x12), (15, .int x15)]) hC (by decide) rfl dL_isTold_1307 ?_
  refine g_iload hC 0 rfl dL_isTold_1309 ?_
  refine g_if_eq (tgt := 1360) hC (by decide) dL_isTold_1311 (fun c174 => ?_) (fun c174 => ?_)
  · replace h := gq_t c174 h
    exact g_weak [1, 2, 3, 4, 5, 6, 7, 8, 0] rfl (t_L_isTold_1360 hl9 hZ hC hr  x12 x15 s0 M h)
  · replace h := gq_f c174 h
    refine g_aload hC 4 rfl dL_isTold_1314 ?_
    refine g_iload hC 8 rfl dL_isTold_1316 ?_
    obtain ⟨g175, h⟩ := gq_g_i h
    refine g_iald hC arL_112 (gq_in_i g175) dL_isTold_1318 ?_
    refine g_topi (fun v176 hv176 => ?_)
    replace h := gq_l_i hv176 h
    refine g_bipush (v := 16) hC (by decide) dL_isTold_1319 ?_
    refine g_irem hC (by decide) dL_isTold_1321 ?_
    refine g_iload hC 7 rfl dL_isTold_1322 ?_
    refine g_iconst (v := 1) hC (by decide) dL_isTold_1324 ?_
    refine g_iadd hC dL_isTold_1325 ?_
    refine g_icmp_ne (tgt := 1360) hC (by decide) dL_isTold_1326 (fun c177 => ?_) (fun c177 => ?_)
    · replace h := gq_f c177 h
      exact g_weak [1, 2, 3, 4, 5, 6, 7, 8, 0] rfl (t_L_isTold_1360 hl9 hZ hC hr  x12 x15 s0 M h)
    · replace h := gq_t c177 h
      refine g_aload_n hC 2 rfl rfl dL_isTold_1329 ?_
      refine g_iload hC 8 rfl dL_isTold_1330 ?_
      obtain ⟨g178, h⟩ := gq_g_i h
      refine g_iald hC arL_109 (gq_in_i g178) dL_isTold_1332 ?_
      refine g_topi (fun v179 hv179 => ?_)
      replace h := gq_l_i hv179 h
      refine g_ldc (v := 32768) hC wk_L_194 dL_isTold_1333 ?_
      refine g_idiv hC (by decide) dL_isTold_1335 ?_
      refine g_if_ne (tgt := 1360) hC (by decide) dL_isTold_1336 (fun c180 => ?_) (fun c180 => ?_)
      · replace h := gq_f c180 h
        exact g_weak [1, 2, 3, 4, 5, 6, 7, 8, 0] rfl (t_L_isTold_1360 hl9 hZ hC hr  x12 x15 s0 M h)
      · replace h := gq_t c180 h
        refine g_aload hC 5 rfl dL_isTold_1339 ?_
        refine g_iconst (v := 0) hC (by decide) dL_isTold_1341 ?_
        obtain ⟨g181, h⟩ := gq_g_i h
        refine g_iald hC arL_119 (gq_in_i g181) dL_isTold_1342 ?_
        refine g_topi (fun v182 hv182 => ?_)
        replace h := gq_l_i hv182 h
        refine g_aload_n hC 3 rfl rfl dL_isTold_1343 ?_
        refine g_iload hC 8 rfl dL_isTold_1344 ?_
        obtain ⟨v183, M185, c184, h⟩ := gq_b_i h
        refine g_Si (as := [.ref (ad 110), .int x15]) hC (t_L_sold N _ _ _ _ c184) mS_L_sold wm_L_195 rfl rfl (Nat.le_of_ble_eq_true rfl) ⟨Nat.le_of_ble_eq_true rfl, Nat.le_of_ble_eq_true rfl⟩ ⟨Nat.le_of_ble_eq_true rfl, Nat.le_of_ble_eq_true rfl⟩ dL_isTold_1346 ?_
        refine g_sipush (v := 240) hC (by decide) dL_isTold_1349 ?_
        refine g_iadd hC dL_isTold_1352 ?_
        refine g_icmp_gt (tgt := 1360) hC (by decide) dL_isTold_1353 (fun c186 => ?_) (fun c186 => ?_)
        · replace h := gq_t c186 h
          exact g_weak [1, 2, 3, 4, 5, 6, 7, 8, 0] rfl (t_L_isTold_1360 hl9 hZ hC hr  x12 x15 s0 M185 h)
        · replace h := gq_f c186 h
          refine g_iconst (v := 1) hC (by decide) dL_isTold_1356 ?_
          refine g_goto (tgt := 1361) hC (by decide) dL_isTold_1357 ?_
          exact g_weak [1, 2, 3, 4, 5, 6, 7, 8, 0] rfl (t_L_isTold_1361 hl9 hZ hC hr  x12 x15 s0 1 M185 h)
def f_L_isTold_1306 (N : Nat) (x12 : Int32) (x15 : Int32) (M : gq_M) : Option (Int32 × gq_M) :=
  f_L_isTold_1307 N  x12 x15 0 M
set_option maxHeartbeats 1000000 in
set_option maxRecDepth 20000 in
theorem t_L_isTold_1306 {N : Nat} {v9 : Int32} {M9 : gq_M} (hl9 : l.stackTraces = false) (hZ : gq_Zn A s) (hC : gq_C p s m args meth c D A cI cZ ad mtL RL cL_isTold 23) (hr : meth.sig.returnType = (some .boolean))   : ∀ (x12 : Int32) (x15 : Int32) (M : gq_M), f_L_isTold_1306 N  x12 x15 M = some (v9, M9) → gq_W p l e (gq_rl 10 1 6) s m args below meth c D A cI cZ ad mtL 23 (gq_NQ below D cI cZ ad mtL v9 M9 args s 1 6 A) 1306 [(0, .ref (ad 0)), (1, .ref (ad 109)), (2, .ref (ad 110)), (4, .ref (ad 112)), (6, .ref (ad 119)), (8, .ref (ad 121)), (12, .int x12), (15, .int x15)] [] M 0 0 := by
  intro x12 x15 M h
  unfold f_L_isTold_1306 at h
  refine g_iconst (v := 0) hC (by decide) dL_isTold_1306 ?_
  exact g_weak [0, 1, 2, 3, 4, 5, 6, 7] rfl (t_L_isTold_1307 hl9 hZ hC hr  x12 x15 0 M h)
def f_L_isTold_1269 (N : Nat) (s0 : Int32) (M : gq_M) : Option (Int32 × gq_M) :=
  gq_g (gq_bb s0) (some (s0, M))
set_option maxHeartbeats 1000000 in
set_option maxRecDepth 20000 in
theorem t_L_isTold_1269 {N : Nat} {v9 : Int32} {M9 : gq_M} (hl9 : l.stackTraces = false) (hZ : gq_Zn A s) (hC : gq_C p s m args meth c D A cI cZ ad mtL RL cL_isTold 23) (hr : meth.sig.returnType = (some .boolean))   : ∀ (s0 : Int32) (M : gq_M), f_L_isTold_1269 N  s0 M = some (v9, M9) → gq_W p l e (gq_rl 10 1 6) s m args below meth c D A cI cZ ad mtL 23 (gq_NQ below D cI cZ ad mtL v9 M9 args s 1 6 A) 1269 [] [.int s0] M 1 6 := by
  intro s0 M h
  unfold f_L_isTold_1269 at h
  obtain ⟨g173, h⟩ := gq_g_i h
  exact g_zretsN hC (by decide) (by decide) hr (gq_bb_i g173) h dL_isTold_1269
def f_L_isTold_1261 (N : Nat) (s0 : Int32) (s1 : Int32) (M : gq_M) : Option (Int32 × gq_M) :=
  if s0 = s1 then (f_L_isTold_1269 N  1 M) else (f_L_isTold_1269 N  0 M)
set_option maxHeartbeats 1000000 in
set_option maxRecDepth 20000 in
theorem t_L_isTold_1261 {N : Nat} {v9 : Int32} {M9 : gq_M} (hl9 : l.stackTraces = false) (hZ : gq_Zn A s) (hC : gq_C p s m args meth c D A cI cZ ad mtL RL cL_isTold 23) (hr : meth.sig.returnType = (some .boolean))   : ∀ (s0 : Int32) (s1 : Int32) (M : gq_M), f_L_isTold_1261 N  s0 s1 M = some (v9, M9) → gq_W p l e (gq_rl 10 1 6) s m args below meth c D A cI cZ ad mtL 23 (gq_NQ below D cI cZ ad mtL v9 M9 args s 1 6 A) 1261 [] [.int s1, .int s0] M 1 6 := by
  intro s0 s1 M h
  unfold f_L_isTold_1261 at h
  refine g_icmp_ne (tgt := 1268) hC (by decide) dL_isTold_1261 (fun c172 => ?_) (fun c172 => ?_)
  · replace h := gq_f c172 h
    refine g_iconst (v := 0) hC (by decide) dL_isTold_1268 ?_
    exact g_weak [] rfl (t_L_isTold_1269 hl9 hZ hC hr  0 M h)
  · replace h := gq_t c172 h
    refine g_iconst (v := 1) hC (by decide) dL_isTold_1264 ?_
    refine g_goto (tgt := 1269) hC (by decide) dL_isTold_1265 ?_
    exact g_weak [] rfl (t_L_isTold_1269 hl9 hZ hC hr  1 M h)
def f_L_isTold_1225 (N : Nat) (x12 : Int32) (x13 : Int32) (x14 : Int32) (x15 : Int32) (x17 : Int32) (M : gq_M) : Option (Int32 × gq_M) :=
  gq_b (f_L_does N 13 x12 x14 0 0 0 0 M) fun v167 M169 => if x13 = 0 then (f_L_isTold_1261 N  v167 (-300000000) M169) else (if x15 = 0 then (f_L_isTold_1261 N  v167 (-200000000) M169) else (f_L_isTold_1261 N  v167 x17 M169))
set_option maxHeartbeats 1000000 in
set_option maxRecDepth 20000 in
theorem t_L_isTold_1225 {N : Nat} {v9 : Int32} {M9 : gq_M} (hl9 : l.stackTraces = false) (hZ : gq_Zn A s) (hC : gq_C p s m args meth c D A cI cZ ad mtL RL cL_isTold 23) (hr : meth.sig.returnType = (some .boolean))   : ∀ (x12 : Int32) (x13 : Int32) (x14 : Int32) (x15 : Int32) (x17 : Int32) (M : gq_M), f_L_isTold_1225 N  x12 x13 x14 x15 x17 M = some (v9, M9) → gq_W p l e (gq_rl 10 1 6) s m args below meth c D A cI cZ ad mtL 23 (gq_NQ below D cI cZ ad mtL v9 M9 args s 1 6 A) 1225 [(0, .ref (ad 0)), (12, .int x12), (13, .int x13), (14, .int x14), (15, .int x15), (17, .int x17)] [] M 0 0 := by
  intro x12 x13 x14 x15 x17 M h
  unfold f_L_isTold_1225 at h
  refine g_aload_n hC 0 rfl rfl dL_isTold_1225 ?_
  refine g_bipush (v := 13) hC (by decide) dL_isTold_1226 ?_
  refine g_iload hC 1 rfl dL_isTold_1228 ?_
  refine g_iload hC 3 rfl dL_isTold_1230 ?_
  refine g_iconst (v := 0) hC (by decide) dL_isTold_1232 ?_
  refine g_iconst (v := 0) hC (by decide) dL_isTold_1233 ?_
  refine g_iconst (v := 0) hC (by decide) dL_isTold_1234 ?_
  refine g_iconst (v := 0) hC (by decide) dL_isTold_1235 ?_
  obtain ⟨v167, M169, c168, h⟩ := gq_b_i h
  refine g_LNH (as := [.ref (ad 0), .int 13, .int x12, .int x14, .int 0, .int 0, .int 0, .int 0]) hC hZ (t_L_does hl9 N _ _ _ _ _ _ _ _ _ _ c168) mH_L_does wm_L_183 rfl rfl (Nat.le_of_ble_eq_true rfl) ⟨Nat.le_of_ble_eq_true rfl, Nat.le_of_ble_eq_true rfl⟩ ⟨Nat.le_of_ble_eq_true rfl, Nat.le_of_ble_eq_true rfl⟩ dL_isTold_1236 ?_
  refine g_iload hC 2 rfl dL_isTold_1239 ?_
  refine g_if_ne (tgt := 1249) hC (by decide) dL_isTold_1241 (fun c170 => ?_) (fun c170 => ?_)
  · replace h := gq_f c170 h
    refine g_iload hC 4 rfl dL_isTold_1249 ?_
    refine g_if_eq (tgt := 1259) hC (by decide) dL_isTold_1251 (fun c171 => ?_) (fun c171 => ?_)
    · replace h := gq_t c171 h
      refine g_ldc (v := (-200000000)) hC wk_L_87 dL_isTold_1259 ?_
      exact g_weak [] rfl (t_L_isTold_1261 hl9 hZ hC hr  v167 (-200000000) M169 h)
    · replace h := gq_f c171 h
      refine g_iload hC 5 rfl dL_isTold_1254 ?_
      refine g_goto (tgt := 1261) hC (by decide) dL_isTold_1256 ?_
      exact g_weak [] rfl (t_L_isTold_1261 hl9 hZ hC hr  v167 x17 M169 h)
  · replace h := gq_t c170 h
    refine g_ldc (v := (-300000000)) hC wk_L_84 dL_isTold_1244 ?_
    refine g_goto (tgt := 1261) hC (by decide) dL_isTold_1246 ?_
    exact g_weak [] rfl (t_L_isTold_1261 hl9 hZ hC hr  v167 (-300000000) M169 h)
def f_L_isTold_1200 (N : Nat) (x12 : Int32) (x13 : Int32) (x14 : Int32) (x15 : Int32) (s0 : Int32) (M : gq_M) : Option (Int32 × gq_M) :=
  if x13 = 0 then (f_L_isTold_1225 N  x12 x13 x14 x15 s0 M) else (if x15 = 0 then (f_L_isTold_1225 N  x12 x13 x14 x15 s0 M) else (gq_g (gq_in (40 + x12) 56) (gq_l (M 119 ((40 + x12) : Int32).toNatClampNeg) fun v164 => gq_g (gq_in (40 + x12) 56) (gq_l (gq_up M 119 ((40 + x12) : Int32).toNatClampNeg (v164 - s0)) fun M166 => f_L_isTold_1225 N  x12 x13 x14 x15 s0 M166))))
set_option maxHeartbeats 1000000 in
set_option maxRecDepth 20000 in
theorem t_L_isTold_1200 {N : Nat} {v9 : Int32} {M9 : gq_M} (hl9 : l.stackTraces = false) (hZ : gq_Zn A s) (hC : gq_C p s m args meth c D A cI cZ ad mtL RL cL_isTold 23) (hr : meth.sig.returnType = (some .boolean))   : ∀ (x12 : Int32) (x13 : Int32) (x14 : Int32) (x15 : Int32) (s0 : Int32) (M : gq_M), f_L_isTold_1200 N  x12 x13 x14 x15 s0 M = some (v9, M9) → gq_W p l e (gq_rl 10 1 6) s m args below meth c D A cI cZ ad mtL 23 (gq_NQ below D cI cZ ad mtL v9 M9 args s 1 6 A) 1200 [(0, .ref (ad 0)), (6, .ref (ad 119)), (12, .int x12), (13, .int x13), (14, .int x14), (15, .int x15)] [.int s0] M 0 0 := by
  intro x12 x13 x14 x15 s0 M h
  unfold f_L_isTold_1200 at h
  refine g_istore (L2 := [(17, .int s0), (0, .ref (ad 0)), (6, .ref (ad 119)), (12, .int x12), (13, .int x13), (14, .int x14), (15, .int x15)]) hC (by decide) rfl dL_isTold_1200 ?_
  refine g_iload hC 4 rfl dL_isTold_1202 ?_
  refine g_if_eq (tgt := 1225) hC (by decide) dL_isTold_1204 (fun c161 => ?_) (fun c161 => ?_)
  · replace h := gq_t c161 h
    exact g_weak [1, 3, 4, 5, 6, 0] rfl (t_L_isTold_1225 hl9 hZ hC hr  x12 x13 x14 x15 s0 M h)
  · replace h := gq_f c161 h
    refine g_iload hC 6 rfl dL_isTold_1207 ?_
    refine g_if_eq (tgt := 1225) hC (by decide) dL_isTold_1209 (fun c162 => ?_) (fun c162 => ?_)
    · replace h := gq_t c162 h
      exact g_weak [1, 3, 4, 5, 6, 0] rfl (t_L_isTold_1225 hl9 hZ hC hr  x12 x13 x14 x15 s0 M h)
    · replace h := gq_f c162 h
      refine g_aload hC 2 rfl dL_isTold_1212 ?_
      refine g_bipush (v := 40) hC (by decide) dL_isTold_1214 ?_
      refine g_iload hC 3 rfl dL_isTold_1216 ?_
      refine g_iadd hC dL_isTold_1218 ?_
      refine g_dup2 hC rfl rfl dL_isTold_1219 ?_
      obtain ⟨g163, h⟩ := gq_g_i h
      refine g_iald hC arL_119 (gq_in_i g163) dL_isTold_1220 ?_
      refine g_topi (fun v164 hv164 => ?_)
      replace h := gq_l_i hv164 h
      refine g_iload hC 0 rfl dL_isTold_1221 ?_
      refine g_isub hC dL_isTold_1223 ?_
      obtain ⟨g165, h⟩ := gq_g_i h
      refine g_iast hC arL_119 (gq_in_i g165) dL_isTold_1224 ?_
      refine g_topM (fun M166 hM166 => ?_)
      replace h := gq_l_i hM166 h
      exact g_weak [1, 3, 4, 5, 6, 0] rfl (t_L_isTold_1225 hl9 hZ hC hr  x12 x13 x14 x15 s0 M166 h)
def f_L_isTold_1175 (N : Nat) (x12 : Int32) (x13 : Int32) (x14 : Int32) (x15 : Int32) (s0 : Int32) (M : gq_M) : Option (Int32 × gq_M) :=
  if 0 ≤ s0 then (if x14 ≤ s0 then (f_L_isTold_1200 N  x12 x13 x14 x15 x14 M) else (f_L_isTold_1200 N  x12 x13 x14 x15 s0 M)) else (f_L_isTold_1200 N  x12 x13 x14 x15 0 M)
set_option maxHeartbeats 1000000 in
set_option maxRecDepth 20000 in
theorem t_L_isTold_1175 {N : Nat} {v9 : Int32} {M9 : gq_M} (hl9 : l.stackTraces = false) (hZ : gq_Zn A s) (hC : gq_C p s m args meth c D A cI cZ ad mtL RL cL_isTold 23) (hr : meth.sig.returnType = (some .boolean))   : ∀ (x12 : Int32) (x13 : Int32) (x14 : Int32) (x15 : Int32) (s0 : Int32) (M : gq_M), f_L_isTold_1175 N  x12 x13 x14 x15 s0 M = some (v9, M9) → gq_W p l e (gq_rl 10 1 6) s m args below meth c D A cI cZ ad mtL 23 (gq_NQ below D cI cZ ad mtL v9 M9 args s 1 6 A) 1175 [(0, .ref (ad 0)), (6, .ref (ad 119)), (12, .int x12), (13, .int x13), (14, .int x14), (15, .int x15)] [.int s0] M 0 0 := by
  intro x12 x13 x14 x15 s0 M h
  unfold f_L_isTold_1175 at h
  refine g_istore (L2 := [(16, .int s0), (0, .ref (ad 0)), (6, .ref (ad 119)), (12, .int x12), (13, .int x13), (14, .int x14), (15, .int x15)]) hC (by decide) rfl dL_isTold_1175 ?_
  refine g_iload hC 0 rfl dL_isTold_1177 ?_
  refine g_if_ge (tgt := 1186) hC (by decide) dL_isTold_1179 (fun c159 => ?_) (fun c159 => ?_)
  · replace h := gq_t c159 h
    refine g_iload hC 0 rfl dL_isTold_1186 ?_
    refine g_iload hC 5 rfl dL_isTold_1188 ?_
    refine g_icmp_ge (tgt := 1198) hC (by decide) dL_isTold_1190 (fun c160 => ?_) (fun c160 => ?_)
    · replace h := gq_t c160 h
      refine g_iload hC 5 rfl dL_isTold_1198 ?_
      exact g_weak [1, 2, 3, 4, 5, 6] rfl (t_L_isTold_1200 hl9 hZ hC hr  x12 x13 x14 x15 x14 M h)
    · replace h := gq_f c160 h
      refine g_iload hC 0 rfl dL_isTold_1193 ?_
      refine g_goto (tgt := 1200) hC (by decide) dL_isTold_1195 ?_
      exact g_weak [1, 2, 3, 4, 5, 6] rfl (t_L_isTold_1200 hl9 hZ hC hr  x12 x13 x14 x15 s0 M h)
  · replace h := gq_f c159 h
    refine g_iconst (v := 0) hC (by decide) dL_isTold_1182 ?_
    refine g_goto (tgt := 1200) hC (by decide) dL_isTold_1183 ?_
    exact g_weak [1, 2, 3, 4, 5, 6] rfl (t_L_isTold_1200 hl9 hZ hC hr  x12 x13 x14 x15 0 M h)
def f_L_isTold_1156 (N : Nat) (x12 : Int32) (x13 : Int32) (x14 : Int32) (s0 : Int32) (M : gq_M) : Option (Int32 × gq_M) :=
  if x13 = 0 then (f_L_isTold_1175 N  x12 x13 x14 s0 0 M) else (gq_g (gq_in (40 + x12) 56) (gq_l (M 119 ((40 + x12) : Int32).toNatClampNeg) fun v158 => f_L_isTold_1175 N  x12 x13 x14 s0 v158 M))
set_option maxHeartbeats 1000000 in
set_option maxRecDepth 20000 in
theorem t_L_isTold_1156 {N : Nat} {v9 : Int32} {M9 : gq_M} (hl9 : l.stackTraces = false) (hZ : gq_Zn A s) (hC : gq_C p s m args meth c D A cI cZ ad mtL RL cL_isTold 23) (hr : meth.sig.returnType = (some .boolean))   : ∀ (x12 : Int32) (x13 : Int32) (x14 : Int32) (s0 : Int32) (M : gq_M), f_L_isTold_1156 N  x12 x13 x14 s0 M = some (v9, M9) → gq_W p l e (gq_rl 10 1 6) s m args below meth c D A cI cZ ad mtL 23 (gq_NQ below D cI cZ ad mtL v9 M9 args s 1 6 A) 1156 [(0, .ref (ad 0)), (6, .ref (ad 119)), (12, .int x12), (13, .int x13), (14, .int x14)] [.int s0] M 0 0 := by
  intro x12 x13 x14 s0 M h
  unfold f_L_isTold_1156 at h
  refine g_istore (L2 := [(15, .int s0), (0, .ref (ad 0)), (6, .ref (ad 119)), (12, .int x12), (13, .int x13), (14, .int x14)]) hC (by decide) rfl dL_isTold_1156 ?_
  refine g_iload hC 4 rfl dL_isTold_1158 ?_
  refine g_if_eq (tgt := 1174) hC (by decide) dL_isTold_1160 (fun c156 => ?_) (fun c156 => ?_)
  · replace h := gq_t c156 h
    refine g_iconst (v := 0) hC (by decide) dL_isTold_1174 ?_
    exact g_weak [1, 2, 3, 4, 5, 0] rfl (t_L_isTold_1175 hl9 hZ hC hr  x12 x13 x14 s0 0 M h)
  · replace h := gq_f c156 h
    refine g_aload hC 2 rfl dL_isTold_1163 ?_
    refine g_bipush (v := 40) hC (by decide) dL_isTold_1165 ?_
    refine g_iload hC 3 rfl dL_isTold_1167 ?_
    refine g_iadd hC dL_isTold_1169 ?_
    obtain ⟨g157, h⟩ := gq_g_i h
    refine g_iald hC arL_119 (gq_in_i g157) dL_isTold_1170 ?_
    refine g_topi (fun v158 hv158 => ?_)
    replace h := gq_l_i hv158 h
    refine g_goto (tgt := 1175) hC (by decide) dL_isTold_1171 ?_
    exact g_weak [1, 2, 3, 4, 5, 0] rfl (t_L_isTold_1175 hl9 hZ hC hr  x12 x13 x14 s0 v158 M h)
def f_L_isTold_1155 (N : Nat) (x12 : Int32) (x13 : Int32) (x14 : Int32) (M : gq_M) : Option (Int32 × gq_M) :=
  f_L_isTold_1156 N  x12 x13 x14 0 M
set_option maxHeartbeats 1000000 in
set_option maxRecDepth 20000 in
theorem t_L_isTold_1155 {N : Nat} {v9 : Int32} {M9 : gq_M} (hl9 : l.stackTraces = false) (hZ : gq_Zn A s) (hC : gq_C p s m args meth c D A cI cZ ad mtL RL cL_isTold 23) (hr : meth.sig.returnType = (some .boolean))   : ∀ (x12 : Int32) (x13 : Int32) (x14 : Int32) (M : gq_M), f_L_isTold_1155 N  x12 x13 x14 M = some (v9, M9) → gq_W p l e (gq_rl 10 1 6) s m args below meth c D A cI cZ ad mtL 23 (gq_NQ below D cI cZ ad mtL v9 M9 args s 1 6 A) 1155 [(0, .ref (ad 0)), (6, .ref (ad 119)), (12, .int x12), (13, .int x13), (14, .int x14)] [] M 0 0 := by
  intro x12 x13 x14 M h
  unfold f_L_isTold_1155 at h
  refine g_iconst (v := 0) hC (by decide) dL_isTold_1155 ?_
  exact g_weak [0, 1, 2, 3, 4] rfl (t_L_isTold_1156 hl9 hZ hC hr  x12 x13 x14 0 M h)
def f_L_isTold_1130 (N : Nat) (x9 : Int32) (x10 : Int32) (x11 : Int32) (x12 : Int32) (x13 : Int32) (s0 : Int32) (M : gq_M) : Option (Int32 × gq_M) :=
  if x9 = 8 then (if s0 ≤ 0 then (f_L_isTold_1155 N  x12 x13 s0 M) else (if 100000001 ≤ s0 then (f_L_isTold_1155 N  x12 x13 s0 M) else (f_L_isTold_1156 N  x12 x13 s0 1 M))) else (if x9 = 9 then (gq_g (gq_in 4 56) (gq_l (M 119 (4 : Int32).toNatClampNeg) fun v148 => gq_g (gq_nz (v148 + 1)) (if x13 = 0 then (f_L_isTold_1306 N  x12 (x11 - x11 / (v148 + 1) * (v148 + 1)) M) else (gq_g (gq_in 4 56) (gq_l (M 119 (4 : Int32).toNatClampNeg) fun v152 => if v152 ≤ (x11 - x11 / (v148 + 1) * (v148 + 1)) then (f_L_isTold_1306 N  x12 (x11 - x11 / (v148 + 1) * (v148 + 1)) M) else (f_L_isTold_1307 N  x12 (x11 - x11 / (v148 + 1) * (v148 + 1)) 1 M)))))) else (if (x11 - x11 / 3 * 3) = 0 then (f_L_isTold_1547 N  x10 x12 x13 (x11 * 167) M) else (f_L_isTold_1547 N  x10 x12 x13 (x11 - x11 / 3000 * 3000) M)))
set_option maxHeartbeats 1000000 in
set_option maxRecDepth 20000 in
theorem t_L_isTold_1130 {N : Nat} {v9 : Int32} {M9 : gq_M} (hl9 : l.stackTraces = false) (hZ : gq_Zn A s) (hC : gq_C p s m args meth c D A cI cZ ad mtL RL cL_isTold 23) (hr : meth.sig.returnType = (some .boolean))   : ∀ (x9 : Int32) (x10 : Int32) (x11 : Int32) (x12 : Int32) (x13 : Int32) (s0 : Int32) (M : gq_M), f_L_isTold_1130 N  x9 x10 x11 x12 x13 s0 M = some (v9, M9) → gq_W p l e (gq_rl 10 1 6) s m args below meth c D A cI cZ ad mtL 23 (gq_NQ below D cI cZ ad mtL v9 M9 args s 1 6 A) 1130 [(0, .ref (ad 0)), (1, .ref (ad 109)), (2, .ref (ad 110)), (4, .ref (ad 112)), (6, .ref (ad 119)), (8, .ref (ad 121)), (9, .int x9), (10, .int x10), (11, .int x11), (12, .int x12), (13, .int x13)] [.int s0] M 0 0 := by
  intro x9 x10 x11 x12 x13 s0 M h
  unfold f_L_isTold_1130 at h
  refine g_istore (L2 := [(14, .int s0), (0, .ref (ad 0)), (1, .ref (ad 109)), (2, .ref (ad 110)), (4, .ref (ad 112)), (6, .ref (ad 119)), (8, .ref (ad 121)), (9, .int x9), (10, .int x10), (11, .int x11), (12, .int x12), (13, .int x13)]) hC (by decide) rfl dL_isTold_1130 ?_
  refine g_iload hC 7 rfl dL_isTold_1132 ?_
  refine g_bipush (v := 8) hC (by decide) dL_isTold_1134 ?_
  refine g_icmp_ne (tgt := 1270) hC (by decide) dL_isTold_1136 (fun c144 => ?_) (fun c144 => ?_)
  · replace h := gq_f c144 h
    refine g_iload hC 7 rfl dL_isTold_1270 ?_
    refine g_bipush (v := 9) hC (by decide) dL_isTold_1272 ?_
    refine g_icmp_ne (tgt := 1525) hC (by decide) dL_isTold_1274 (fun c145 => ?_) (fun c145 => ?_)
    · replace h := gq_f c145 h
      refine g_iload hC 9 rfl dL_isTold_1525 ?_
      refine g_iconst (v := 3) hC (by decide) dL_isTold_1527 ?_
      refine g_irem hC (by decide) dL_isTold_1528 ?_
      refine g_if_ne (tgt := 1541) hC (by decide) dL_isTold_1529 (fun c146 => ?_) (fun c146 => ?_)
      · replace h := gq_f c146 h
        refine g_iload hC 9 rfl dL_isTold_1541 ?_
        refine g_sipush (v := 3000) hC (by decide) dL_isTold_1543 ?_
        refine g_irem hC (by decide) dL_isTold_1546 ?_
        exact g_weak [1, 6, 8, 10, 11] rfl (t_L_isTold_1547 hl9 hZ hC hr  x10 x12 x13 (x11 - x11 / 3000 * 3000) M h)
      · replace h := gq_t c146 h
        refine g_iload hC 9 rfl dL_isTold_1532 ?_
        refine g_sipush (v := 167) hC (by decide) dL_isTold_1534 ?_
        refine g_imul hC dL_isTold_1537 ?_
        refine g_goto (tgt := 1547) hC (by decide) dL_isTold_1538 ?_
        exact g_weak [1, 6, 8, 10, 11] rfl (t_L_isTold_1547 hl9 hZ hC hr  x10 x12 x13 (x11 * 167) M h)
    · replace h := gq_t c145 h
      refine g_iload hC 9 rfl dL_isTold_1277 ?_
      refine g_aload hC 5 rfl dL_isTold_1279 ?_
      refine g_iconst (v := 4) hC (by decide) dL_isTold_1281 ?_
      obtain ⟨g147, h⟩ := gq_g_i h
      refine g_iald hC arL_119 (gq_in_i g147) dL_isTold_1282 ?_
      refine g_topi (fun v148 hv148 => ?_)
      replace h := gq_l_i hv148 h
      refine g_iconst (v := 1) hC (by decide) dL_isTold_1283 ?_
      refine g_iadd hC dL_isTold_1284 ?_
      obtain ⟨g149, h⟩ := gq_g_i h
      refine g_irem hC (gq_nz_i g149) dL_isTold_1285 ?_
      refine g_istore (L2 := [(15, .int (x11 - x11 / (v148 + 1) * (v148 + 1))), (14, .int s0), (0, .ref (ad 0)), (1, .ref (ad 109)), (2, .ref (ad 110)), (4, .ref (ad 112)), (6, .ref (ad 119)), (8, .ref (ad 121)), (9, .int x9), (10, .int x10), (11, .int x11), (12, .int x12), (13, .int x13)]) hC (by decide) rfl dL_isTold_1286 ?_
      refine g_iload hC 12 rfl dL_isTold_1288 ?_
      refine g_if_eq (tgt := 1306) hC (by decide) dL_isTold_1290 (fun c150 => ?_) (fun c150 => ?_)
      · replace h := gq_t c150 h
        exact g_weak [2, 3, 4, 5, 6, 7, 11, 0] rfl (t_L_isTold_1306 hl9 hZ hC hr  x12 (x11 - x11 / (v148 + 1) * (v148 + 1)) M h)
      · replace h := gq_f c150 h
        refine g_iload hC 0 rfl dL_isTold_1293 ?_
        refine g_aload hC 6 rfl dL_isTold_1295 ?_
        refine g_iconst (v := 4) hC (by decide) dL_isTold_1297 ?_
        obtain ⟨g151, h⟩ := gq_g_i h
        refine g_iald hC arL_119 (gq_in_i g151) dL_isTold_1298 ?_
        refine g_topi (fun v152 hv152 => ?_)
        replace h := gq_l_i hv152 h
        refine g_icmp_ge (tgt := 1306) hC (by decide) dL_isTold_1299 (fun c153 => ?_) (fun c153 => ?_)
        · replace h := gq_t c153 h
          exact g_weak [2, 3, 4, 5, 6, 7, 11, 0] rfl (t_L_isTold_1306 hl9 hZ hC hr  x12 (x11 - x11 / (v148 + 1) * (v148 + 1)) M h)
        · replace h := gq_f c153 h
          refine g_iconst (v := 1) hC (by decide) dL_isTold_1302 ?_
          refine g_goto (tgt := 1307) hC (by decide) dL_isTold_1303 ?_
          exact g_weak [2, 3, 4, 5, 6, 7, 11, 0] rfl (t_L_isTold_1307 hl9 hZ hC hr  x12 (x11 - x11 / (v148 + 1) * (v148 + 1)) 1 M h)
  · replace h := gq_t c144 h
    refine g_iload hC 0 rfl dL_isTold_1139 ?_
    refine g_if_le (tgt := 1155) hC (by decide) dL_isTold_1141 (fun c154 => ?_) (fun c154 => ?_)
    · replace h := gq_t c154 h
      exact g_weak [1, 5, 10, 11, 0] rfl (t_L_isTold_1155 hl9 hZ hC hr  x12 x13 s0 M h)
    · replace h := gq_f c154 h
      refine g_iload hC 0 rfl dL_isTold_1144 ?_
      refine g_ldc (v := 100000001) hC wk_L_189 dL_isTold_1146 ?_
      refine g_icmp_ge (tgt := 1155) hC (by decide) dL_isTold_1148 (fun c155 => ?_) (fun c155 => ?_)
      · replace h := gq_t c155 h
        exact g_weak [1, 5, 10, 11, 0] rfl (t_L_isTold_1155 hl9 hZ hC hr  x12 x13 s0 M h)
      · replace h := gq_f c155 h
        refine g_iconst (v := 1) hC (by decide) dL_isTold_1151 ?_
        refine g_goto (tgt := 1156) hC (by decide) dL_isTold_1152 ?_
        exact g_weak [1, 5, 10, 11, 0] rfl (t_L_isTold_1156 hl9 hZ hC hr  x12 x13 s0 1 M h)
def f_L_isTold_1107 (N : Nat) (s0 : Int32) (M : gq_M) : Option (Int32 × gq_M) :=
  gq_g (gq_bb s0) (some (s0, M))
set_option maxHeartbeats 1000000 in
set_option maxRecDepth 20000 in
theorem t_L_isTold_1107 {N : Nat} {v9 : Int32} {M9 : gq_M} (hl9 : l.stackTraces = false) (hZ : gq_Zn A s) (hC : gq_C p s m args meth c D A cI cZ ad mtL RL cL_isTold 23) (hr : meth.sig.returnType = (some .boolean))   : ∀ (s0 : Int32) (M : gq_M), f_L_isTold_1107 N  s0 M = some (v9, M9) → gq_W p l e (gq_rl 10 1 6) s m args below meth c D A cI cZ ad mtL 23 (gq_NQ below D cI cZ ad mtL v9 M9 args s 1 6 A) 1107 [] [.int s0] M 0 0 := by
  intro s0 M h
  unfold f_L_isTold_1107 at h
  obtain ⟨g143, h⟩ := gq_g_i h
  exact g_zretsN hC (by decide) (by decide) hr (gq_bb_i g143) h dL_isTold_1107
def f_L_isTold_1063 (N : Nat) (s0 : Int32) (M : gq_M) : Option (Int32 × gq_M) :=
  gq_g (gq_bb s0) (some (s0, M))
set_option maxHeartbeats 1000000 in
set_option maxRecDepth 20000 in
theorem t_L_isTold_1063 {N : Nat} {v9 : Int32} {M9 : gq_M} (hl9 : l.stackTraces = false) (hZ : gq_Zn A s) (hC : gq_C p s m args meth c D A cI cZ ad mtL RL cL_isTold 23) (hr : meth.sig.returnType = (some .boolean))   : ∀ (s0 : Int32) (M : gq_M), f_L_isTold_1063 N  s0 M = some (v9, M9) → gq_W p l e (gq_rl 10 1 6) s m args below meth c D A cI cZ ad mtL 23 (gq_NQ below D cI cZ ad mtL v9 M9 args s 1 6 A) 1063 [] [.int s0] M 1 6 := by
  intro s0 M h
  unfold f_L_isTold_1063 at h
  obtain ⟨g142, h⟩ := gq_g_i h
  exact g_zretsN hC (by decide) (by decide) hr (gq_bb_i g142) h dL_isTold_1063
def f_L_isTold_1055 (N : Nat) (s0 : Int32) (s1 : Int32) (M : gq_M) : Option (Int32 × gq_M) :=
  if s0 = s1 then (f_L_isTold_1063 N  1 M) else (f_L_isTold_1063 N  0 M)
set_option maxHeartbeats 1000000 in
set_option maxRecDepth 20000 in
theorem t_L_isTold_1055 {N : Nat} {v9 : Int32} {M9 : gq_M} (hl9 : l.stackTraces = false) (hZ : gq_Zn A s) (hC : gq_C p s m args meth c D A cI cZ ad mtL RL cL_isTold 23) (hr : meth.sig.returnType = (some .boolean))   : ∀ (s0 : Int32) (s1 : Int32) (M : gq_M), f_L_isTold_1055 N  s0 s1 M = some (v9, M9) → gq_W p l e (gq_rl 10 1 6) s m args below meth c D A cI cZ ad mtL 23 (gq_NQ below D cI cZ ad mtL v9 M9 args s 1 6 A) 1055 [] [.int s1, .int s0] M 1 6 := by
  intro s0 s1 M h
  unfold f_L_isTold_1055 at h
  refine g_icmp_ne (tgt := 1062) hC (by decide) dL_isTold_1055 (fun c141 => ?_) (fun c141 => ?_)
  · replace h := gq_f c141 h
    refine g_iconst (v := 0) hC (by decide) dL_isTold_1062 ?_
    exact g_weak [] rfl (t_L_isTold_1063 hl9 hZ hC hr  0 M h)
  · replace h := gq_t c141 h
    refine g_iconst (v := 1) hC (by decide) dL_isTold_1058 ?_
    refine g_goto (tgt := 1063) hC (by decide) dL_isTold_1059 ?_
    exact g_weak [] rfl (t_L_isTold_1063 hl9 hZ hC hr  1 M h)
def f_L_isTold_1036 (N : Nat) (x13 : Int32) (x14 : Int32) (s1 : Int32) (s2 : Int32) (s3 : Int32) (M : gq_M) : Option (Int32 × gq_M) :=
  gq_b (f_L_does N s1 s2 s3 0 0 0 0 M) fun v137 M139 => if x13 = 0 then (f_L_isTold_1055 N  v137 (-300000000) M139) else (f_L_isTold_1055 N  v137 x14 M139)
set_option maxHeartbeats 1000000 in
set_option maxRecDepth 20000 in
theorem t_L_isTold_1036 {N : Nat} {v9 : Int32} {M9 : gq_M} (hl9 : l.stackTraces = false) (hZ : gq_Zn A s) (hC : gq_C p s m args meth c D A cI cZ ad mtL RL cL_isTold 23) (hr : meth.sig.returnType = (some .boolean))   : ∀ (x13 : Int32) (x14 : Int32) (s1 : Int32) (s2 : Int32) (s3 : Int32) (M : gq_M), f_L_isTold_1036 N  x13 x14 s1 s2 s3 M = some (v9, M9) → gq_W p l e (gq_rl 10 1 6) s m args below meth c D A cI cZ ad mtL 23 (gq_NQ below D cI cZ ad mtL v9 M9 args s 1 6 A) 1036 [(13, .int x13), (14, .int x14)] [.int s3, .int s2, .int s1, .ref (ad 0)] M 0 0 := by
  intro x13 x14 s1 s2 s3 M h
  unfold f_L_isTold_1036 at h
  refine g_iconst (v := 0) hC (by decide) dL_isTold_1036 ?_
  refine g_iconst (v := 0) hC (by decide) dL_isTold_1037 ?_
  refine g_iconst (v := 0) hC (by decide) dL_isTold_1038 ?_
  refine g_iconst (v := 0) hC (by decide) dL_isTold_1039 ?_
  obtain ⟨v137, M139, c138, h⟩ := gq_b_i h
  refine g_LNH (as := [.ref (ad 0), .int s1, .int s2, .int s3, .int 0, .int 0, .int 0, .int 0]) hC hZ (t_L_does hl9 N _ _ _ _ _ _ _ _ _ _ c138) mH_L_does wm_L_183 rfl rfl (Nat.le_of_ble_eq_true rfl) ⟨Nat.le_of_ble_eq_true rfl, Nat.le_of_ble_eq_true rfl⟩ ⟨Nat.le_of_ble_eq_true rfl, Nat.le_of_ble_eq_true rfl⟩ dL_isTold_1040 ?_
  refine g_iload hC 0 rfl dL_isTold_1043 ?_
  refine g_if_eq (tgt := 1053) hC (by decide) dL_isTold_1045 (fun c140 => ?_) (fun c140 => ?_)
  · replace h := gq_t c140 h
    refine g_ldc (v := (-300000000)) hC wk_L_84 dL_isTold_1053 ?_
    exact g_weak [] rfl (t_L_isTold_1055 hl9 hZ hC hr  v137 (-300000000) M139 h)
  · replace h := gq_f c140 h
    refine g_iload hC 1 rfl dL_isTold_1048 ?_
    refine g_goto (tgt := 1055) hC (by decide) dL_isTold_1050 ?_
    exact g_weak [] rfl (t_L_isTold_1055 hl9 hZ hC hr  v137 x14 M139 h)
def f_L_isTold_1018 (N : Nat) (x11 : Int32) (x12 : Int32) (x13 : Int32) (x14 : Int32) (s1 : Int32) (s2 : Int32) (M : gq_M) : Option (Int32 × gq_M) :=
  gq_g (gq_in s1 56) (gq_l (gq_up M 119 s1.toNatClampNeg s2) fun M135 => if (x11 - x11 / 3 * 3) ≤ 0 then (f_L_isTold_1036 N  x13 x14 6 x12 0 M135) else (f_L_isTold_1036 N  x13 x14 6 x12 1 M135))
set_option maxHeartbeats 1000000 in
set_option maxRecDepth 20000 in
theorem t_L_isTold_1018 {N : Nat} {v9 : Int32} {M9 : gq_M} (hl9 : l.stackTraces = false) (hZ : gq_Zn A s) (hC : gq_C p s m args meth c D A cI cZ ad mtL RL cL_isTold 23) (hr : meth.sig.returnType = (some .boolean))   : ∀ (x11 : Int32) (x12 : Int32) (x13 : Int32) (x14 : Int32) (s1 : Int32) (s2 : Int32) (M : gq_M), f_L_isTold_1018 N  x11 x12 x13 x14 s1 s2 M = some (v9, M9) → gq_W p l e (gq_rl 10 1 6) s m args below meth c D A cI cZ ad mtL 23 (gq_NQ below D cI cZ ad mtL v9 M9 args s 1 6 A) 1018 [(0, .ref (ad 0)), (11, .int x11), (12, .int x12), (13, .int x13), (14, .int x14)] [.int s2, .int s1, .ref (ad 119)] M 0 0 := by
  intro x11 x12 x13 x14 s1 s2 M h
  unfold f_L_isTold_1018 at h
  obtain ⟨g134, h⟩ := gq_g_i h
  refine g_iast hC arL_119 (gq_in_i g134) dL_isTold_1018 ?_
  refine g_topM (fun M135 hM135 => ?_)
  replace h := gq_l_i hM135 h
  refine g_aload_n hC 0 rfl rfl dL_isTold_1019 ?_
  refine g_bipush (v := 6) hC (by decide) dL_isTold_1020 ?_
  refine g_iload hC 2 rfl dL_isTold_1022 ?_
  refine g_iload hC 1 rfl dL_isTold_1024 ?_
  refine g_iconst (v := 3) hC (by decide) dL_isTold_1026 ?_
  refine g_irem hC (by decide) dL_isTold_1027 ?_
  refine g_if_le (tgt := 1035) hC (by decide) dL_isTold_1028 (fun c136 => ?_) (fun c136 => ?_)
  · replace h := gq_t c136 h
    refine g_iconst (v := 0) hC (by decide) dL_isTold_1035 ?_
    exact g_weak [3, 4] rfl (t_L_isTold_1036 hl9 hZ hC hr  x13 x14 6 x12 0 M135 h)
  · replace h := gq_f c136 h
    refine g_iconst (v := 1) hC (by decide) dL_isTold_1031 ?_
    refine g_goto (tgt := 1036) hC (by decide) dL_isTold_1032 ?_
    exact g_weak [3, 4] rfl (t_L_isTold_1036 hl9 hZ hC hr  x13 x14 6 x12 1 M135 h)
def f_L_isTold_1006 (N : Nat) (x11 : Int32) (x12 : Int32) (x13 : Int32) (x14 : Int32) (s1 : Int32) (M : gq_M) : Option (Int32 × gq_M) :=
  if (x11 - x11 / 3 * 3) ≤ 0 then (f_L_isTold_1018 N  x11 x12 x13 x14 s1 0 M) else (f_L_isTold_1018 N  x11 x12 x13 x14 s1 1 M)
set_option maxHeartbeats 1000000 in
set_option maxRecDepth 20000 in
theorem t_L_isTold_1006 {N : Nat} {v9 : Int32} {M9 : gq_M} (hl9 : l.stackTraces = false) (hZ : gq_Zn A s) (hC : gq_C p s m args meth c D A cI cZ ad mtL RL cL_isTold 23) (hr : meth.sig.returnType = (some .boolean))   : ∀ (x11 : Int32) (x12 : Int32) (x13 : Int32) (x14 : Int32) (s1 : Int32) (M : gq_M), f_L_isTold_1006 N  x11 x12 x13 x14 s1 M = some (v9, M9) → gq_W p l e (gq_rl 10 1 6) s m args below meth c D A cI cZ ad mtL 23 (gq_NQ below D cI cZ ad mtL v9 M9 args s 1 6 A) 1006 [(0, .ref (ad 0)), (11, .int x11), (12, .int x12), (13, .int x13), (14, .int x14)] [.int s1, .ref (ad 119)] M 0 0 := by
  intro x11 x12 x13 x14 s1 M h
  unfold f_L_isTold_1006 at h
  refine g_iload hC 1 rfl dL_isTold_1006 ?_
  refine g_iconst (v := 3) hC (by decide) dL_isTold_1008 ?_
  refine g_irem hC (by decide) dL_isTold_1009 ?_
  refine g_if_le (tgt := 1017) hC (by decide) dL_isTold_1010 (fun c133 => ?_) (fun c133 => ?_)
  · replace h := gq_t c133 h
    refine g_iconst (v := 0) hC (by decide) dL_isTold_1017 ?_
    exact g_weak [0, 1, 2, 3, 4] rfl (t_L_isTold_1018 hl9 hZ hC hr  x11 x12 x13 x14 s1 0 M h)
  · replace h := gq_f c133 h
    refine g_iconst (v := 1) hC (by decide) dL_isTold_1013 ?_
    refine g_goto (tgt := 1018) hC (by decide) dL_isTold_1014 ?_
    exact g_weak [0, 1, 2, 3, 4] rfl (t_L_isTold_1018 hl9 hZ hC hr  x11 x12 x13 x14 s1 1 M h)
def f_L_isTold_987 (N : Nat) (x11 : Int32) (x12 : Int32) (x13 : Int32) (s0 : Int32) (M : gq_M) : Option (Int32 × gq_M) :=
  if x13 = 0 then (f_L_isTold_1006 N  x11 x12 x13 s0 7 M) else (f_L_isTold_1006 N  x11 x12 x13 s0 (48 + x12) M)
set_option maxHeartbeats 1000000 in
set_option maxRecDepth 20000 in
theorem t_L_isTold_987 {N : Nat} {v9 : Int32} {M9 : gq_M} (hl9 : l.stackTraces = false) (hZ : gq_Zn A s) (hC : gq_C p s m args meth c D A cI cZ ad mtL RL cL_isTold 23) (hr : meth.sig.returnType = (some .boolean))   : ∀ (x11 : Int32) (x12 : Int32) (x13 : Int32) (s0 : Int32) (M : gq_M), f_L_isTold_987 N  x11 x12 x13 s0 M = some (v9, M9) → gq_W p l e (gq_rl 10 1 6) s m args below meth c D A cI cZ ad mtL 23 (gq_NQ below D cI cZ ad mtL v9 M9 args s 1 6 A) 987 [(0, .ref (ad 0)), (6, .ref (ad 119)), (11, .int x11), (12, .int x12), (13, .int x13)] [.int s0] M 0 0 := by
  intro x11 x12 x13 s0 M h
  unfold f_L_isTold_987 at h
  refine g_istore (L2 := [(14, .int s0), (0, .ref (ad 0)), (6, .ref (ad 119)), (11, .int x11), (12, .int x12), (13, .int x13)]) hC (by decide) rfl dL_isTold_987 ?_
  refine g_aload hC 2 rfl dL_isTold_989 ?_
  refine g_iload hC 5 rfl dL_isTold_991 ?_
  refine g_if_eq (tgt := 1004) hC (by decide) dL_isTold_993 (fun c132 => ?_) (fun c132 => ?_)
  · replace h := gq_t c132 h
    refine g_bipush (v := 7) hC (by decide) dL_isTold_1004 ?_
    exact g_weak [1, 3, 4, 5, 0] rfl (t_L_isTold_1006 hl9 hZ hC hr  x11 x12 x13 s0 7 M h)
  · replace h := gq_f c132 h
    refine g_bipush (v := 48) hC (by decide) dL_isTold_996 ?_
    refine g_iload hC 4 rfl dL_isTold_998 ?_
    refine g_iadd hC dL_isTold_1000 ?_
    refine g_goto (tgt := 1006) hC (by decide) dL_isTold_1001 ?_
    exact g_weak [1, 3, 4, 5, 0] rfl (t_L_isTold_1006 hl9 hZ hC hr  x11 x12 x13 s0 (48 + x12) M h)
def f_L_isTold_962 (N : Nat) (s0 : Int32) (M : gq_M) : Option (Int32 × gq_M) :=
  gq_g (gq_bb s0) (some (s0, M))
set_option maxHeartbeats 1000000 in
set_option maxRecDepth 20000 in
theorem t_L_isTold_962 {N : Nat} {v9 : Int32} {M9 : gq_M} (hl9 : l.stackTraces = false) (hZ : gq_Zn A s) (hC : gq_C p s m args meth c D A cI cZ ad mtL RL cL_isTold 23) (hr : meth.sig.returnType = (some .boolean))   : ∀ (s0 : Int32) (M : gq_M), f_L_isTold_962 N  s0 M = some (v9, M9) → gq_W p l e (gq_rl 10 1 6) s m args below meth c D A cI cZ ad mtL 23 (gq_NQ below D cI cZ ad mtL v9 M9 args s 1 6 A) 962 [] [.int s0] M 1 6 := by
  intro s0 M h
  unfold f_L_isTold_962 at h
  obtain ⟨g131, h⟩ := gq_g_i h
  exact g_zretsN hC (by decide) (by decide) hr (gq_bb_i g131) h dL_isTold_962
def f_L_isTold_954 (N : Nat) (s0 : Int32) (s1 : Int32) (M : gq_M) : Option (Int32 × gq_M) :=
  if s0 = s1 then (f_L_isTold_962 N  1 M) else (f_L_isTold_962 N  0 M)
set_option maxHeartbeats 1000000 in
set_option maxRecDepth 20000 in
theorem t_L_isTold_954 {N : Nat} {v9 : Int32} {M9 : gq_M} (hl9 : l.stackTraces = false) (hZ : gq_Zn A s) (hC : gq_C p s m args meth c D A cI cZ ad mtL RL cL_isTold 23) (hr : meth.sig.returnType = (some .boolean))   : ∀ (s0 : Int32) (s1 : Int32) (M : gq_M), f_L_isTold_954 N  s0 s1 M = some (v9, M9) → gq_W p l e (gq_rl 10 1 6) s m args below meth c D A cI cZ ad mtL 23 (gq_NQ below D cI cZ ad mtL v9 M9 args s 1 6 A) 954 [] [.int s1, .int s0] M 1 6 := by
  intro s0 s1 M h
  unfold f_L_isTold_954 at h
  refine g_icmp_ne (tgt := 961) hC (by decide) dL_isTold_954 (fun c130 => ?_) (fun c130 => ?_)
  · replace h := gq_f c130 h
    refine g_iconst (v := 0) hC (by decide) dL_isTold_961 ?_
    exact g_weak [] rfl (t_L_isTold_962 hl9 hZ hC hr  0 M h)
  · replace h := gq_t c130 h
    refine g_iconst (v := 1) hC (by decide) dL_isTold_957 ?_
    refine g_goto (tgt := 962) hC (by decide) dL_isTold_958 ?_
    exact g_weak [] rfl (t_L_isTold_962 hl9 hZ hC hr  1 M h)
def f_L_isTold_925 (N : Nat) (x14 : Int32) (x15 : Int32) (x16 : Int32) (s1 : Int32) (M : gq_M) : Option (Int32 × gq_M) :=
  gq_g (gq_in s1 24) (gq_l (gq_up M 115 s1.toNatClampNeg x15) fun M125 => gq_b (f_L_does N 5 x14 x15 0 0 0 0 M125) fun v126 M128 => if x14 = 3 then (f_L_isTold_954 N  v126 (-300000000) M128) else (f_L_isTold_954 N  v126 x16 M128))
set_option maxHeartbeats 1000000 in
set_option maxRecDepth 20000 in
theorem t_L_isTold_925 {N : Nat} {v9 : Int32} {M9 : gq_M} (hl9 : l.stackTraces = false) (hZ : gq_Zn A s) (hC : gq_C p s m args meth c D A cI cZ ad mtL RL cL_isTold 23) (hr : meth.sig.returnType = (some .boolean))   : ∀ (x14 : Int32) (x15 : Int32) (x16 : Int32) (s1 : Int32) (M : gq_M), f_L_isTold_925 N  x14 x15 x16 s1 M = some (v9, M9) → gq_W p l e (gq_rl 10 1 6) s m args below meth c D A cI cZ ad mtL 23 (gq_NQ below D cI cZ ad mtL v9 M9 args s 1 6 A) 925 [(0, .ref (ad 0)), (14, .int x14), (15, .int x15), (16, .int x16)] [.int s1, .ref (ad 115)] M 0 0 := by
  intro x14 x15 x16 s1 M h
  unfold f_L_isTold_925 at h
  refine g_iload hC 2 rfl dL_isTold_925 ?_
  obtain ⟨g124, h⟩ := gq_g_i h
  refine g_iast hC arL_115 (gq_in_i g124) dL_isTold_927 ?_
  refine g_topM (fun M125 hM125 => ?_)
  replace h := gq_l_i hM125 h
  refine g_aload_n hC 0 rfl rfl dL_isTold_928 ?_
  refine g_iconst (v := 5) hC (by decide) dL_isTold_929 ?_
  refine g_iload hC 1 rfl dL_isTold_930 ?_
  refine g_iload hC 2 rfl dL_isTold_932 ?_
  refine g_iconst (v := 0) hC (by decide) dL_isTold_934 ?_
  refine g_iconst (v := 0) hC (by decide) dL_isTold_935 ?_
  refine g_iconst (v := 0) hC (by decide) dL_isTold_936 ?_
  refine g_iconst (v := 0) hC (by decide) dL_isTold_937 ?_
  obtain ⟨v126, M128, c127, h⟩ := gq_b_i h
  refine g_LNH (as := [.ref (ad 0), .int 5, .int x14, .int x15, .int 0, .int 0, .int 0, .int 0]) hC hZ (t_L_does hl9 N _ _ _ _ _ _ _ _ _ _ c127) mH_L_does wm_L_183 rfl rfl (Nat.le_of_ble_eq_true rfl) ⟨Nat.le_of_ble_eq_true rfl, Nat.le_of_ble_eq_true rfl⟩ ⟨Nat.le_of_ble_eq_true rfl, Nat.le_of_ble_eq_true rfl⟩ dL_isTold_938 ?_
  refine g_iload hC 1 rfl dL_isTold_941 ?_
  refine g_iconst (v := 3) hC (by decide) dL_isTold_943 ?_
  refine g_icmp_ne (tgt := 952) hC (by decide) dL_isTold_944 (fun c129 => ?_) (fun c129 => ?_)
  · replace h := gq_f c129 h
    refine g_iload hC 3 rfl dL_isTold_952 ?_
    exact g_weak [] rfl (t_L_isTold_954 hl9 hZ hC hr  v126 x16 M128 h)
  · replace h := gq_t c129 h
    refine g_ldc (v := (-300000000)) hC wk_L_84 dL_isTold_947 ?_
    refine g_goto (tgt := 954) hC (by decide) dL_isTold_949 ?_
    exact g_weak [] rfl (t_L_isTold_954 hl9 hZ hC hr  v126 (-300000000) M128 h)
def f_L_isTold_902 (N : Nat) (x14 : Int32) (x15 : Int32) (s0 : Int32) (M : gq_M) : Option (Int32 × gq_M) :=
  if 3 ≤ x14 then (f_L_isTold_925 N  x14 x15 s0 7 M) else (f_L_isTold_925 N  x14 x15 s0 ((8 * x14) + 6) M)
set_option maxHeartbeats 1000000 in
set_option maxRecDepth 20000 in
theorem t_L_isTold_902 {N : Nat} {v9 : Int32} {M9 : gq_M} (hl9 : l.stackTraces = false) (hZ : gq_Zn A s) (hC : gq_C p s m args meth c D A cI cZ ad mtL RL cL_isTold 23) (hr : meth.sig.returnType = (some .boolean))   : ∀ (x14 : Int32) (x15 : Int32) (s0 : Int32) (M : gq_M), f_L_isTold_902 N  x14 x15 s0 M = some (v9, M9) → gq_W p l e (gq_rl 10 1 6) s m args below meth c D A cI cZ ad mtL 23 (gq_NQ below D cI cZ ad mtL v9 M9 args s 1 6 A) 902 [(0, .ref (ad 0)), (5, .ref (ad 115)), (14, .int x14), (15, .int x15)] [.int s0] M 0 0 := by
  intro x14 x15 s0 M h
  unfold f_L_isTold_902 at h
  refine g_istore (L2 := [(16, .int s0), (0, .ref (ad 0)), (5, .ref (ad 115)), (14, .int x14), (15, .int x15)]) hC (by decide) rfl dL_isTold_902 ?_
  refine g_aload hC 2 rfl dL_isTold_904 ?_
  refine g_iload hC 3 rfl dL_isTold_906 ?_
  refine g_iconst (v := 3) hC (by decide) dL_isTold_908 ?_
  refine g_icmp_ge (tgt := 923) hC (by decide) dL_isTold_909 (fun c123 => ?_) (fun c123 => ?_)
  · replace h := gq_t c123 h
    refine g_bipush (v := 7) hC (by decide) dL_isTold_923 ?_
    exact g_weak [1, 3, 4, 0] rfl (t_L_isTold_925 hl9 hZ hC hr  x14 x15 s0 7 M h)
  · replace h := gq_f c123 h
    refine g_bipush (v := 8) hC (by decide) dL_isTold_912 ?_
    refine g_iload hC 3 rfl dL_isTold_914 ?_
    refine g_imul hC dL_isTold_916 ?_
    refine g_bipush (v := 6) hC (by decide) dL_isTold_917 ?_
    refine g_iadd hC dL_isTold_919 ?_
    refine g_goto (tgt := 925) hC (by decide) dL_isTold_920 ?_
    exact g_weak [1, 3, 4, 0] rfl (t_L_isTold_925 hl9 hZ hC hr  x14 x15 s0 ((8 * x14) + 6) M h)
def f_L_isTold_879 (N : Nat) (x14 : Int32) (s0 : Int32) (M : gq_M) : Option (Int32 × gq_M) :=
  if 3 ≤ x14 then (f_L_isTold_902 N  x14 s0 0 M) else (gq_g (gq_in ((8 * x14) + 6) 24) (gq_l (M 115 (((8 * x14) + 6) : Int32).toNatClampNeg) fun v122 => f_L_isTold_902 N  x14 s0 v122 M))
set_option maxHeartbeats 1000000 in
set_option maxRecDepth 20000 in
theorem t_L_isTold_879 {N : Nat} {v9 : Int32} {M9 : gq_M} (hl9 : l.stackTraces = false) (hZ : gq_Zn A s) (hC : gq_C p s m args meth c D A cI cZ ad mtL RL cL_isTold 23) (hr : meth.sig.returnType = (some .boolean))   : ∀ (x14 : Int32) (s0 : Int32) (M : gq_M), f_L_isTold_879 N  x14 s0 M = some (v9, M9) → gq_W p l e (gq_rl 10 1 6) s m args below meth c D A cI cZ ad mtL 23 (gq_NQ below D cI cZ ad mtL v9 M9 args s 1 6 A) 879 [(0, .ref (ad 0)), (5, .ref (ad 115)), (14, .int x14)] [.int s0] M 0 0 := by
  intro x14 s0 M h
  unfold f_L_isTold_879 at h
  refine g_istore (L2 := [(15, .int s0), (0, .ref (ad 0)), (5, .ref (ad 115)), (14, .int x14)]) hC (by decide) rfl dL_isTold_879 ?_
  refine g_iload hC 3 rfl dL_isTold_881 ?_
  refine g_iconst (v := 3) hC (by decide) dL_isTold_883 ?_
  refine g_icmp_ge (tgt := 901) hC (by decide) dL_isTold_884 (fun c120 => ?_) (fun c120 => ?_)
  · replace h := gq_t c120 h
    refine g_iconst (v := 0) hC (by decide) dL_isTold_901 ?_
    exact g_weak [1, 2, 3, 0] rfl (t_L_isTold_902 hl9 hZ hC hr  x14 s0 0 M h)
  · replace h := gq_f c120 h
    refine g_aload hC 2 rfl dL_isTold_887 ?_
    refine g_bipush (v := 8) hC (by decide) dL_isTold_889 ?_
    refine g_iload hC 3 rfl dL_isTold_891 ?_
    refine g_imul hC dL_isTold_893 ?_
    refine g_bipush (v := 6) hC (by decide) dL_isTold_894 ?_
    refine g_iadd hC dL_isTold_896 ?_
    obtain ⟨g121, h⟩ := gq_g_i h
    refine g_iald hC arL_115 (gq_in_i g121) dL_isTold_897 ?_
    refine g_topi (fun v122 hv122 => ?_)
    replace h := gq_l_i hv122 h
    refine g_goto (tgt := 902) hC (by decide) dL_isTold_898 ?_
    exact g_weak [1, 2, 3, 0] rfl (t_L_isTold_902 hl9 hZ hC hr  x14 s0 v122 M h)
def f_L_isTold_854 (N : Nat) (s0 : Int32) (M : gq_M) : Option (Int32 × gq_M) :=
  gq_g (gq_bb s0) (some (s0, M))
set_option maxHeartbeats 1000000 in
set_option maxRecDepth 20000 in
theorem t_L_isTold_854 {N : Nat} {v9 : Int32} {M9 : gq_M} (hl9 : l.stackTraces = false) (hZ : gq_Zn A s) (hC : gq_C p s m args meth c D A cI cZ ad mtL RL cL_isTold 23) (hr : meth.sig.returnType = (some .boolean))   : ∀ (s0 : Int32) (M : gq_M), f_L_isTold_854 N  s0 M = some (v9, M9) → gq_W p l e (gq_rl 10 1 6) s m args below meth c D A cI cZ ad mtL 23 (gq_NQ below D cI cZ ad mtL v9 M9 args s 1 6 A) 854 [] [.int s0] M 1 6 := by
  intro s0 M h
  unfold f_L_isTold_854 at h
  obtain ⟨g119, h⟩ := gq_g_i h
  exact g_zretsN hC (by decide) (by decide) hr (gq_bb_i g119) h dL_isTold_854
def f_L_isTold_846 (N : Nat) (s0 : Int32) (s1 : Int32) (M : gq_M) : Option (Int32 × gq_M) :=
  if s0 = s1 then (f_L_isTold_854 N  1 M) else (f_L_isTold_854 N  0 M)
set_option maxHeartbeats 1000000 in
set_option maxRecDepth 20000 in
theorem t_L_isTold_846 {N : Nat} {v9 : Int32} {M9 : gq_M} (hl9 : l.stackTraces = false) (hZ : gq_Zn A s) (hC : gq_C p s m args meth c D A cI cZ ad mtL RL cL_isTold 23) (hr : meth.sig.returnType = (some .boolean))   : ∀ (s0 : Int32) (s1 : Int32) (M : gq_M), f_L_isTold_846 N  s0 s1 M = some (v9, M9) → gq_W p l e (gq_rl 10 1 6) s m args below meth c D A cI cZ ad mtL 23 (gq_NQ below D cI cZ ad mtL v9 M9 args s 1 6 A) 846 [] [.int s1, .int s0] M 1 6 := by
  intro s0 s1 M h
  unfold f_L_isTold_846 at h
  refine g_icmp_ne (tgt := 853) hC (by decide) dL_isTold_846 (fun c118 => ?_) (fun c118 => ?_)
  · replace h := gq_f c118 h
    refine g_iconst (v := 0) hC (by decide) dL_isTold_853 ?_
    exact g_weak [] rfl (t_L_isTold_854 hl9 hZ hC hr  0 M h)
  · replace h := gq_t c118 h
    refine g_iconst (v := 1) hC (by decide) dL_isTold_849 ?_
    refine g_goto (tgt := 854) hC (by decide) dL_isTold_850 ?_
    exact g_weak [] rfl (t_L_isTold_854 hl9 hZ hC hr  1 M h)
def f_L_isTold_810 (N : Nat) (x12 : Int32) (x13 : Int32) (x14 : Int32) (x15 : Int32) (x16 : Int32) (x17 : Int32) (M : gq_M) : Option (Int32 × gq_M) :=
  gq_b (f_L_does N 4 x12 x14 x15 0 0 0 M) fun v113 M115 => if x13 = 0 then (f_L_isTold_846 N  v113 (-300000000) M115) else (if x16 = 0 then (f_L_isTold_846 N  v113 (-200000000) M115) else (f_L_isTold_846 N  v113 x17 M115))
set_option maxHeartbeats 1000000 in
set_option maxRecDepth 20000 in
theorem t_L_isTold_810 {N : Nat} {v9 : Int32} {M9 : gq_M} (hl9 : l.stackTraces = false) (hZ : gq_Zn A s) (hC : gq_C p s m args meth c D A cI cZ ad mtL RL cL_isTold 23) (hr : meth.sig.returnType = (some .boolean))   : ∀ (x12 : Int32) (x13 : Int32) (x14 : Int32) (x15 : Int32) (x16 : Int32) (x17 : Int32) (M : gq_M), f_L_isTold_810 N  x12 x13 x14 x15 x16 x17 M = some (v9, M9) → gq_W p l e (gq_rl 10 1 6) s m args below meth c D A cI cZ ad mtL 23 (gq_NQ below D cI cZ ad mtL v9 M9 args s 1 6 A) 810 [(0, .ref (ad 0)), (12, .int x12), (13, .int x13), (14, .int x14), (15, .int x15), (16, .int x16), (17, .int x17)] [] M 0 0 := by
  intro x12 x13 x14 x15 x16 x17 M h
  unfold f_L_isTold_810 at h
  refine g_aload_n hC 0 rfl rfl dL_isTold_810 ?_
  refine g_iconst (v := 4) hC (by decide) dL_isTold_811 ?_
  refine g_iload hC 1 rfl dL_isTold_812 ?_
  refine g_iload hC 3 rfl dL_isTold_814 ?_
  refine g_iload hC 4 rfl dL_isTold_816 ?_
  refine g_iconst (v := 0) hC (by decide) dL_isTold_818 ?_
  refine g_iconst (v := 0) hC (by decide) dL_isTold_819 ?_
  refine g_iconst (v := 0) hC (by decide) dL_isTold_820 ?_
  obtain ⟨v113, M115, c114, h⟩ := gq_b_i h
  refine g_LNH (as := [.ref (ad 0), .int 4, .int x12, .int x14, .int x15, .int 0, .int 0, .int 0]) hC hZ (t_L_does hl9 N _ _ _ _ _ _ _ _ _ _ c114) mH_L_does wm_L_183 rfl rfl (Nat.le_of_ble_eq_true rfl) ⟨Nat.le_of_ble_eq_true rfl, Nat.le_of_ble_eq_true rfl⟩ ⟨Nat.le_of_ble_eq_true rfl, Nat.le_of_ble_eq_true rfl⟩ dL_isTold_821 ?_
  refine g_iload hC 2 rfl dL_isTold_824 ?_
  refine g_if_ne (tgt := 834) hC (by decide) dL_isTold_826 (fun c116 => ?_) (fun c116 => ?_)
  · replace h := gq_f c116 h
    refine g_iload hC 5 rfl dL_isTold_834 ?_
    refine g_if_eq (tgt := 844) hC (by decide) dL_isTold_836 (fun c117 => ?_) (fun c117 => ?_)
    · replace h := gq_t c117 h
      refine g_ldc (v := (-200000000)) hC wk_L_87 dL_isTold_844 ?_
      exact g_weak [] rfl (t_L_isTold_846 hl9 hZ hC hr  v113 (-200000000) M115 h)
    · replace h := gq_f c117 h
      refine g_iload hC 6 rfl dL_isTold_839 ?_
      refine g_goto (tgt := 846) hC (by decide) dL_isTold_841 ?_
      exact g_weak [] rfl (t_L_isTold_846 hl9 hZ hC hr  v113 x17 M115 h)
  · replace h := gq_t c116 h
    refine g_ldc (v := (-300000000)) hC wk_L_84 dL_isTold_829 ?_
    refine g_goto (tgt := 846) hC (by decide) dL_isTold_831 ?_
    exact g_weak [] rfl (t_L_isTold_846 hl9 hZ hC hr  v113 (-300000000) M115 h)
def f_L_isTold_778 (N : Nat) (x12 : Int32) (x13 : Int32) (x14 : Int32) (x15 : Int32) (x16 : Int32) (s0 : Int32) (M : gq_M) : Option (Int32 × gq_M) :=
  if x13 = 0 then (f_L_isTold_810 N  x12 x13 x14 x15 x16 s0 M) else (if x16 = 0 then (f_L_isTold_810 N  x12 x13 x14 x15 x16 s0 M) else (gq_g (gq_in (24 + x12) 56) (gq_l (gq_up M 119 ((24 + x12) : Int32).toNatClampNeg x14) fun M110 => gq_g (gq_in (32 + x12) 56) (gq_l (gq_up M110 119 ((32 + x12) : Int32).toNatClampNeg x15) fun M112 => f_L_isTold_810 N  x12 x13 x14 x15 x16 s0 M112))))
set_option maxHeartbeats 1000000 in
set_option maxRecDepth 20000 in
theorem t_L_isTold_778 {N : Nat} {v9 : Int32} {M9 : gq_M} (hl9 : l.stackTraces = false) (hZ : gq_Zn A s) (hC : gq_C p s m args meth c D A cI cZ ad mtL RL cL_isTold 23) (hr : meth.sig.returnType = (some .boolean))   : ∀ (x12 : Int32) (x13 : Int32) (x14 : Int32) (x15 : Int32) (x16 : Int32) (s0 : Int32) (M : gq_M), f_L_isTold_778 N  x12 x13 x14 x15 x16 s0 M = some (v9, M9) → gq_W p l e (gq_rl 10 1 6) s m args below meth c D A cI cZ ad mtL 23 (gq_NQ below D cI cZ ad mtL v9 M9 args s 1 6 A) 778 [(0, .ref (ad 0)), (6, .ref (ad 119)), (12, .int x12), (13, .int x13), (14, .int x14), (15, .int x15), (16, .int x16)] [.int s0] M 0 0 := by
  intro x12 x13 x14 x15 x16 s0 M h
  unfold f_L_isTold_778 at h
  refine g_istore (L2 := [(17, .int s0), (0, .ref (ad 0)), (6, .ref (ad 119)), (12, .int x12), (13, .int x13), (14, .int x14), (15, .int x15), (16, .int x16)]) hC (by decide) rfl dL_isTold_778 ?_
  refine g_iload hC 4 rfl dL_isTold_780 ?_
  refine g_if_eq (tgt := 810) hC (by decide) dL_isTold_782 (fun c107 => ?_) (fun c107 => ?_)
  · replace h := gq_t c107 h
    exact g_weak [1, 3, 4, 5, 6, 7, 0] rfl (t_L_isTold_810 hl9 hZ hC hr  x12 x13 x14 x15 x16 s0 M h)
  · replace h := gq_f c107 h
    refine g_iload hC 7 rfl dL_isTold_785 ?_
    refine g_if_eq (tgt := 810) hC (by decide) dL_isTold_787 (fun c108 => ?_) (fun c108 => ?_)
    · replace h := gq_t c108 h
      exact g_weak [1, 3, 4, 5, 6, 7, 0] rfl (t_L_isTold_810 hl9 hZ hC hr  x12 x13 x14 x15 x16 s0 M h)
    · replace h := gq_f c108 h
      refine g_aload hC 2 rfl dL_isTold_790 ?_
      refine g_bipush (v := 24) hC (by decide) dL_isTold_792 ?_
      refine g_iload hC 3 rfl dL_isTold_794 ?_
      refine g_iadd hC dL_isTold_796 ?_
      refine g_iload hC 5 rfl dL_isTold_797 ?_
      obtain ⟨g109, h⟩ := gq_g_i h
      refine g_iast hC arL_119 (gq_in_i g109) dL_isTold_799 ?_
      refine g_topM (fun M110 hM110 => ?_)
      replace h := gq_l_i hM110 h
      refine g_aload hC 2 rfl dL_isTold_800 ?_
      refine g_bipush (v := 32) hC (by decide) dL_isTold_802 ?_
      refine g_iload hC 3 rfl dL_isTold_804 ?_
      refine g_iadd hC dL_isTold_806 ?_
      refine g_iload hC 6 rfl dL_isTold_807 ?_
      obtain ⟨g111, h⟩ := gq_g_i h
      refine g_iast hC arL_119 (gq_in_i g111) dL_isTold_809 ?_
      refine g_topM (fun M112 hM112 => ?_)
      replace h := gq_l_i hM112 h
      exact g_weak [1, 3, 4, 5, 6, 7, 0] rfl (t_L_isTold_810 hl9 hZ hC hr  x12 x13 x14 x15 x16 s0 M112 h)
def f_L_isTold_759 (N : Nat) (x12 : Int32) (x13 : Int32) (x14 : Int32) (x15 : Int32) (s0 : Int32) (M : gq_M) : Option (Int32 × gq_M) :=
  if x13 = 0 then (f_L_isTold_778 N  x12 x13 x14 x15 s0 0 M) else (gq_g (gq_in (24 + x12) 56) (gq_l (M 119 ((24 + x12) : Int32).toNatClampNeg) fun v106 => f_L_isTold_778 N  x12 x13 x14 x15 s0 v106 M))
set_option maxHeartbeats 1000000 in
set_option maxRecDepth 20000 in
theorem t_L_isTold_759 {N : Nat} {v9 : Int32} {M9 : gq_M} (hl9 : l.stackTraces = false) (hZ : gq_Zn A s) (hC : gq_C p s m args meth c D A cI cZ ad mtL RL cL_isTold 23) (hr : meth.sig.returnType = (some .boolean))   : ∀ (x12 : Int32) (x13 : Int32) (x14 : Int32) (x15 : Int32) (s0 : Int32) (M : gq_M), f_L_isTold_759 N  x12 x13 x14 x15 s0 M = some (v9, M9) → gq_W p l e (gq_rl 10 1 6) s m args below meth c D A cI cZ ad mtL 23 (gq_NQ below D cI cZ ad mtL v9 M9 args s 1 6 A) 759 [(0, .ref (ad 0)), (6, .ref (ad 119)), (12, .int x12), (13, .int x13), (14, .int x14), (15, .int x15)] [.int s0] M 0 0 := by
  intro x12 x13 x14 x15 s0 M h
  unfold f_L_isTold_759 at h
  refine g_istore (L2 := [(16, .int s0), (0, .ref (ad 0)), (6, .ref (ad 119)), (12, .int x12), (13, .int x13), (14, .int x14), (15, .int x15)]) hC (by decide) rfl dL_isTold_759 ?_
  refine g_iload hC 4 rfl dL_isTold_761 ?_
  refine g_if_eq (tgt := 777) hC (by decide) dL_isTold_763 (fun c104 => ?_) (fun c104 => ?_)
  · replace h := gq_t c104 h
    refine g_iconst (v := 0) hC (by decide) dL_isTold_777 ?_
    exact g_weak [1, 2, 3, 4, 5, 6, 0] rfl (t_L_isTold_778 hl9 hZ hC hr  x12 x13 x14 x15 s0 0 M h)
  · replace h := gq_f c104 h
    refine g_aload hC 2 rfl dL_isTold_766 ?_
    refine g_bipush (v := 24) hC (by decide) dL_isTold_768 ?_
    refine g_iload hC 3 rfl dL_isTold_770 ?_
    refine g_iadd hC dL_isTold_772 ?_
    obtain ⟨g105, h⟩ := gq_g_i h
    refine g_iald hC arL_119 (gq_in_i g105) dL_isTold_773 ?_
    refine g_topi (fun v106 hv106 => ?_)
    replace h := gq_l_i hv106 h
    refine g_goto (tgt := 778) hC (by decide) dL_isTold_774 ?_
    exact g_weak [1, 2, 3, 4, 5, 6, 0] rfl (t_L_isTold_778 hl9 hZ hC hr  x12 x13 x14 x15 s0 v106 M h)
def f_L_isTold_758 (N : Nat) (x12 : Int32) (x13 : Int32) (x14 : Int32) (x15 : Int32) (M : gq_M) : Option (Int32 × gq_M) :=
  f_L_isTold_759 N  x12 x13 x14 x15 0 M
set_option maxHeartbeats 1000000 in
set_option maxRecDepth 20000 in
theorem t_L_isTold_758 {N : Nat} {v9 : Int32} {M9 : gq_M} (hl9 : l.stackTraces = false) (hZ : gq_Zn A s) (hC : gq_C p s m args meth c D A cI cZ ad mtL RL cL_isTold 23) (hr : meth.sig.returnType = (some .boolean))   : ∀ (x12 : Int32) (x13 : Int32) (x14 : Int32) (x15 : Int32) (M : gq_M), f_L_isTold_758 N  x12 x13 x14 x15 M = some (v9, M9) → gq_W p l e (gq_rl 10 1 6) s m args below meth c D A cI cZ ad mtL 23 (gq_NQ below D cI cZ ad mtL v9 M9 args s 1 6 A) 758 [(0, .ref (ad 0)), (6, .ref (ad 119)), (12, .int x12), (13, .int x13), (14, .int x14), (15, .int x15)] [] M 0 0 := by
  intro x12 x13 x14 x15 M h
  unfold f_L_isTold_758 at h
  refine g_iconst (v := 0) hC (by decide) dL_isTold_758 ?_
  exact g_weak [0, 1, 2, 3, 4, 5] rfl (t_L_isTold_759 hl9 hZ hC hr  x12 x13 x14 x15 0 M h)
def f_L_isTold_733 (N : Nat) (x12 : Int32) (x13 : Int32) (x14 : Int32) (s0 : Int32) (M : gq_M) : Option (Int32 × gq_M) :=
  if 100000001 ≤ x14 then (f_L_isTold_758 N  x12 x13 x14 s0 M) else (if s0 ≤ 0 then (f_L_isTold_758 N  x12 x13 x14 s0 M) else (if 10 ≤ s0 then (f_L_isTold_758 N  x12 x13 x14 s0 M) else (f_L_isTold_759 N  x12 x13 x14 s0 1 M)))
set_option maxHeartbeats 1000000 in
set_option maxRecDepth 20000 in
theorem t_L_isTold_733 {N : Nat} {v9 : Int32} {M9 : gq_M} (hl9 : l.stackTraces = false) (hZ : gq_Zn A s) (hC : gq_C p s m args meth c D A cI cZ ad mtL RL cL_isTold 23) (hr : meth.sig.returnType = (some .boolean))   : ∀ (x12 : Int32) (x13 : Int32) (x14 : Int32) (s0 : Int32) (M : gq_M), f_L_isTold_733 N  x12 x13 x14 s0 M = some (v9, M9) → gq_W p l e (gq_rl 10 1 6) s m args below meth c D A cI cZ ad mtL 23 (gq_NQ below D cI cZ ad mtL v9 M9 args s 1 6 A) 733 [(0, .ref (ad 0)), (6, .ref (ad 119)), (12, .int x12), (13, .int x13), (14, .int x14)] [.int s0] M 0 0 := by
  intro x12 x13 x14 s0 M h
  unfold f_L_isTold_733 at h
  refine g_istore (L2 := [(15, .int s0), (0, .ref (ad 0)), (6, .ref (ad 119)), (12, .int x12), (13, .int x13), (14, .int x14)]) hC (by decide) rfl dL_isTold_733 ?_
  refine g_iload hC 5 rfl dL_isTold_735 ?_
  refine g_ldc (v := 100000001) hC wk_L_189 dL_isTold_737 ?_
  refine g_icmp_ge (tgt := 758) hC (by decide) dL_isTold_739 (fun c101 => ?_) (fun c101 => ?_)
  · replace h := gq_t c101 h
    exact g_weak [1, 2, 3, 4, 5, 0] rfl (t_L_isTold_758 hl9 hZ hC hr  x12 x13 x14 s0 M h)
  · replace h := gq_f c101 h
    refine g_iload hC 0 rfl dL_isTold_742 ?_
    refine g_if_le (tgt := 758) hC (by decide) dL_isTold_744 (fun c102 => ?_) (fun c102 => ?_)
    · replace h := gq_t c102 h
      exact g_weak [1, 2, 3, 4, 5, 0] rfl (t_L_isTold_758 hl9 hZ hC hr  x12 x13 x14 s0 M h)
    · replace h := gq_f c102 h
      refine g_iload hC 0 rfl dL_isTold_747 ?_
      refine g_bipush (v := 10) hC (by decide) dL_isTold_749 ?_
      refine g_icmp_ge (tgt := 758) hC (by decide) dL_isTold_751 (fun c103 => ?_) (fun c103 => ?_)
      · replace h := gq_t c103 h
        exact g_weak [1, 2, 3, 4, 5, 0] rfl (t_L_isTold_758 hl9 hZ hC hr  x12 x13 x14 s0 M h)
      · replace h := gq_f c103 h
        refine g_iconst (v := 1) hC (by decide) dL_isTold_754 ?_
        refine g_goto (tgt := 759) hC (by decide) dL_isTold_755 ?_
        exact g_weak [1, 2, 3, 4, 5, 0] rfl (t_L_isTold_759 hl9 hZ hC hr  x12 x13 x14 s0 1 M h)
def f_L_isTold_701 (N : Nat) (x10 : Int32) (x12 : Int32) (x13 : Int32) (s0 : Int32) (M : gq_M) : Option (Int32 × gq_M) :=
  if ((x10 / 9) - (x10 / 9) / 5 * 5) = 0 then (f_L_isTold_733 N  x12 x13 s0 ((x10 / 45) - (x10 / 45) / 11 * 11) M) else (f_L_isTold_733 N  x12 x13 s0 (1 + ((x10 / 45) - (x10 / 45) / 3 * 3)) M)
set_option maxHeartbeats 1000000 in
set_option maxRecDepth 20000 in
theorem t_L_isTold_701 {N : Nat} {v9 : Int32} {M9 : gq_M} (hl9 : l.stackTraces = false) (hZ : gq_Zn A s) (hC : gq_C p s m args meth c D A cI cZ ad mtL RL cL_isTold 23) (hr : meth.sig.returnType = (some .boolean))   : ∀ (x10 : Int32) (x12 : Int32) (x13 : Int32) (s0 : Int32) (M : gq_M), f_L_isTold_701 N  x10 x12 x13 s0 M = some (v9, M9) → gq_W p l e (gq_rl 10 1 6) s m args below meth c D A cI cZ ad mtL 23 (gq_NQ below D cI cZ ad mtL v9 M9 args s 1 6 A) 701 [(0, .ref (ad 0)), (6, .ref (ad 119)), (10, .int x10), (12, .int x12), (13, .int x13)] [.int s0] M 0 0 := by
  intro x10 x12 x13 s0 M h
  unfold f_L_isTold_701 at h
  refine g_istore (L2 := [(14, .int s0), (0, .ref (ad 0)), (6, .ref (ad 119)), (10, .int x10), (12, .int x12), (13, .int x13)]) hC (by decide) rfl dL_isTold_701 ?_
  refine g_iload hC 3 rfl dL_isTold_703 ?_
  refine g_bipush (v := 9) hC (by decide) dL_isTold_705 ?_
  refine g_idiv hC (by decide) dL_isTold_707 ?_
  refine g_iconst (v := 5) hC (by decide) dL_isTold_708 ?_
  refine g_irem hC (by decide) dL_isTold_709 ?_
  refine g_if_ne (tgt := 724) hC (by decide) dL_isTold_710 (fun c100 => ?_) (fun c100 => ?_)
  · replace h := gq_f c100 h
    refine g_iconst (v := 1) hC (by decide) dL_isTold_724 ?_
    refine g_iload hC 3 rfl dL_isTold_725 ?_
    refine g_bipush (v := 45) hC (by decide) dL_isTold_727 ?_
    refine g_idiv hC (by decide) dL_isTold_729 ?_
    refine g_iconst (v := 3) hC (by decide) dL_isTold_730 ?_
    refine g_irem hC (by decide) dL_isTold_731 ?_
    refine g_iadd hC dL_isTold_732 ?_
    exact g_weak [1, 2, 4, 5, 0] rfl (t_L_isTold_733 hl9 hZ hC hr  x12 x13 s0 (1 + ((x10 / 45) - (x10 / 45) / 3 * 3)) M h)
  · replace h := gq_t c100 h
    refine g_iload hC 3 rfl dL_isTold_713 ?_
    refine g_bipush (v := 45) hC (by decide) dL_isTold_715 ?_
    refine g_idiv hC (by decide) dL_isTold_717 ?_
    refine g_bipush (v := 11) hC (by decide) dL_isTold_718 ?_
    refine g_irem hC (by decide) dL_isTold_720 ?_
    refine g_goto (tgt := 733) hC (by decide) dL_isTold_721 ?_
    exact g_weak [1, 2, 4, 5, 0] rfl (t_L_isTold_733 hl9 hZ hC hr  x12 x13 s0 ((x10 / 45) - (x10 / 45) / 11 * 11) M h)
def f_L_isTold_672 (N : Nat) (s0 : Int32) (M : gq_M) : Option (Int32 × gq_M) :=
  gq_g (gq_bb s0) (some (s0, M))
set_option maxHeartbeats 1000000 in
set_option maxRecDepth 20000 in
theorem t_L_isTold_672 {N : Nat} {v9 : Int32} {M9 : gq_M} (hl9 : l.stackTraces = false) (hZ : gq_Zn A s) (hC : gq_C p s m args meth c D A cI cZ ad mtL RL cL_isTold 23) (hr : meth.sig.returnType = (some .boolean))   : ∀ (s0 : Int32) (M : gq_M), f_L_isTold_672 N  s0 M = some (v9, M9) → gq_W p l e (gq_rl 10 1 6) s m args below meth c D A cI cZ ad mtL 23 (gq_NQ below D cI cZ ad mtL v9 M9 args s 1 6 A) 672 [] [.int s0] M 1 6 := by
  intro s0 M h
  unfold f_L_isTold_672 at h
  obtain ⟨g99, h⟩ := gq_g_i h
  exact g_zretsN hC (by decide) (by decide) hr (gq_bb_i g99) h dL_isTold_672
def f_L_isTold_664 (N : Nat) (s0 : Int32) (s1 : Int32) (M : gq_M) : Option (Int32 × gq_M) :=
  if s0 = s1 then (f_L_isTold_672 N  1 M) else (f_L_isTold_672 N  0 M)
set_option maxHeartbeats 1000000 in
set_option maxRecDepth 20000 in
theorem t_L_isTold_664 {N : Nat} {v9 : Int32} {M9 : gq_M} (hl9 : l.stackTraces = false) (hZ : gq_Zn A s) (hC : gq_C p s m args meth c D A cI cZ ad mtL RL cL_isTold 23) (hr : meth.sig.returnType = (some .boolean))   : ∀ (s0 : Int32) (s1 : Int32) (M : gq_M), f_L_isTold_664 N  s0 s1 M = some (v9, M9) → gq_W p l e (gq_rl 10 1 6) s m args below meth c D A cI cZ ad mtL 23 (gq_NQ below D cI cZ ad mtL v9 M9 args s 1 6 A) 664 [] [.int s1, .int s0] M 1 6 := by
  intro s0 s1 M h
  unfold f_L_isTold_664 at h
  refine g_icmp_ne (tgt := 671) hC (by decide) dL_isTold_664 (fun c98 => ?_) (fun c98 => ?_)
  · replace h := gq_f c98 h
    refine g_iconst (v := 0) hC (by decide) dL_isTold_671 ?_
    exact g_weak [] rfl (t_L_isTold_672 hl9 hZ hC hr  0 M h)
  · replace h := gq_t c98 h
    refine g_iconst (v := 1) hC (by decide) dL_isTold_667 ?_
    refine g_goto (tgt := 672) hC (by decide) dL_isTold_668 ?_
    exact g_weak [] rfl (t_L_isTold_672 hl9 hZ hC hr  1 M h)
def f_L_isTold_625 (N : Nat) (x14 : Int32) (x15 : Int32) (x16 : Int32) (x17 : Int32) (s1 : Int32) (M : gq_M) : Option (Int32 × gq_M) :=
  gq_g (gq_in s1 24) (gq_l (gq_up M 115 s1.toNatClampNeg x15) fun M92 => gq_b (f_L_does N 3 x14 x15 0 0 0 0 M92) fun v93 M95 => if x14 = 3 then (f_L_isTold_664 N  v93 (-300000000) M95) else (if x16 = 0 then (f_L_isTold_664 N  v93 (-200000000) M95) else (f_L_isTold_664 N  v93 x17 M95)))
set_option maxHeartbeats 1000000 in
set_option maxRecDepth 20000 in
theorem t_L_isTold_625 {N : Nat} {v9 : Int32} {M9 : gq_M} (hl9 : l.stackTraces = false) (hZ : gq_Zn A s) (hC : gq_C p s m args meth c D A cI cZ ad mtL RL cL_isTold 23) (hr : meth.sig.returnType = (some .boolean))   : ∀ (x14 : Int32) (x15 : Int32) (x16 : Int32) (x17 : Int32) (s1 : Int32) (M : gq_M), f_L_isTold_625 N  x14 x15 x16 x17 s1 M = some (v9, M9) → gq_W p l e (gq_rl 10 1 6) s m args below meth c D A cI cZ ad mtL 23 (gq_NQ below D cI cZ ad mtL v9 M9 args s 1 6 A) 625 [(0, .ref (ad 0)), (14, .int x14), (15, .int x15), (16, .int x16), (17, .int x17)] [.int s1, .ref (ad 115)] M 0 0 := by
  intro x14 x15 x16 x17 s1 M h
  unfold f_L_isTold_625 at h
  refine g_iload hC 2 rfl dL_isTold_625 ?_
  obtain ⟨g91, h⟩ := gq_g_i h
  refine g_iast hC arL_115 (gq_in_i g91) dL_isTold_627 ?_
  refine g_topM (fun M92 hM92 => ?_)
  replace h := gq_l_i hM92 h
  refine g_aload_n hC 0 rfl rfl dL_isTold_628 ?_
  refine g_iconst (v := 3) hC (by decide) dL_isTold_629 ?_
  refine g_iload hC 1 rfl dL_isTold_630 ?_
  refine g_iload hC 2 rfl dL_isTold_632 ?_
  refine g_iconst (v := 0) hC (by decide) dL_isTold_634 ?_
  refine g_iconst (v := 0) hC (by decide) dL_isTold_635 ?_
  refine g_iconst (v := 0) hC (by decide) dL_isTold_636 ?_
  refine g_iconst (v := 0) hC (by decide) dL_isTold_637 ?_
  obtain ⟨v93, M95, c94, h⟩ := gq_b_i h
  refine g_LNH (as := [.ref (ad 0), .int 3, .int x14, .int x15, .int 0, .int 0, .int 0, .int 0]) hC hZ (t_L_does hl9 N _ _ _ _ _ _ _ _ _ _ c94) mH_L_does wm_L_183 rfl rfl (Nat.le_of_ble_eq_true rfl) ⟨Nat.le_of_ble_eq_true rfl, Nat.le_of_ble_eq_true rfl⟩ ⟨Nat.le_of_ble_eq_true rfl, Nat.le_of_ble_eq_true rfl⟩ dL_isTold_638 ?_
  refine g_iload hC 1 rfl dL_isTold_641 ?_
  refine g_iconst (v := 3) hC (by decide) dL_isTold_643 ?_
  refine g_icmp_ne (tgt := 652) hC (by decide) dL_isTold_644 (fun c96 => ?_) (fun c96 => ?_)
  · replace h := gq_f c96 h
    refine g_iload hC 3 rfl dL_isTold_652 ?_
    refine g_if_eq (tgt := 662) hC (by decide) dL_isTold_654 (fun c97 => ?_) (fun c97 => ?_)
    · replace h := gq_t c97 h
      refine g_ldc (v := (-200000000)) hC wk_L_87 dL_isTold_662 ?_
      exact g_weak [] rfl (t_L_isTold_664 hl9 hZ hC hr  v93 (-200000000) M95 h)
    · replace h := gq_f c97 h
      refine g_iload hC 4 rfl dL_isTold_657 ?_
      refine g_goto (tgt := 664) hC (by decide) dL_isTold_659 ?_
      exact g_weak [] rfl (t_L_isTold_664 hl9 hZ hC hr  v93 x17 M95 h)
  · replace h := gq_t c96 h
    refine g_ldc (v := (-300000000)) hC wk_L_84 dL_isTold_647 ?_
    refine g_goto (tgt := 664) hC (by decide) dL_isTold_649 ?_
    exact g_weak [] rfl (t_L_isTold_664 hl9 hZ hC hr  v93 (-300000000) M95 h)
def f_L_isTold_623 (N : Nat) (x14 : Int32) (x15 : Int32) (x16 : Int32) (x17 : Int32) (M : gq_M) : Option (Int32 × gq_M) :=
  f_L_isTold_625 N  x14 x15 x16 x17 7 M
set_option maxHeartbeats 1000000 in
set_option maxRecDepth 20000 in
theorem t_L_isTold_623 {N : Nat} {v9 : Int32} {M9 : gq_M} (hl9 : l.stackTraces = false) (hZ : gq_Zn A s) (hC : gq_C p s m args meth c D A cI cZ ad mtL RL cL_isTold 23) (hr : meth.sig.returnType = (some .boolean))   : ∀ (x14 : Int32) (x15 : Int32) (x16 : Int32) (x17 : Int32) (M : gq_M), f_L_isTold_623 N  x14 x15 x16 x17 M = some (v9, M9) → gq_W p l e (gq_rl 10 1 6) s m args below meth c D A cI cZ ad mtL 23 (gq_NQ below D cI cZ ad mtL v9 M9 args s 1 6 A) 623 [(0, .ref (ad 0)), (14, .int x14), (15, .int x15), (16, .int x16), (17, .int x17)] [.ref (ad 115)] M 0 0 := by
  intro x14 x15 x16 x17 M h
  unfold f_L_isTold_623 at h
  refine g_bipush (v := 7) hC (by decide) dL_isTold_623 ?_
  exact g_weak [0, 1, 2, 3, 4] rfl (t_L_isTold_625 hl9 hZ hC hr  x14 x15 x16 x17 7 M h)
def f_L_isTold_598 (N : Nat) (x14 : Int32) (x15 : Int32) (x16 : Int32) (s0 : Int32) (M : gq_M) : Option (Int32 × gq_M) :=
  if 3 ≤ x14 then (f_L_isTold_623 N  x14 x15 x16 s0 M) else (if x16 = 0 then (f_L_isTold_623 N  x14 x15 x16 s0 M) else (f_L_isTold_625 N  x14 x15 x16 s0 ((8 * x14) + 5) M))
set_option maxHeartbeats 1000000 in
set_option maxRecDepth 20000 in
theorem t_L_isTold_598 {N : Nat} {v9 : Int32} {M9 : gq_M} (hl9 : l.stackTraces = false) (hZ : gq_Zn A s) (hC : gq_C p s m args meth c D A cI cZ ad mtL RL cL_isTold 23) (hr : meth.sig.returnType = (some .boolean))   : ∀ (x14 : Int32) (x15 : Int32) (x16 : Int32) (s0 : Int32) (M : gq_M), f_L_isTold_598 N  x14 x15 x16 s0 M = some (v9, M9) → gq_W p l e (gq_rl 10 1 6) s m args below meth c D A cI cZ ad mtL 23 (gq_NQ below D cI cZ ad mtL v9 M9 args s 1 6 A) 598 [(0, .ref (ad 0)), (5, .ref (ad 115)), (14, .int x14), (15, .int x15), (16, .int x16)] [.int s0] M 0 0 := by
  intro x14 x15 x16 s0 M h
  unfold f_L_isTold_598 at h
  refine g_istore (L2 := [(17, .int s0), (0, .ref (ad 0)), (5, .ref (ad 115)), (14, .int x14), (15, .int x15), (16, .int x16)]) hC (by decide) rfl dL_isTold_598 ?_
  refine g_aload hC 2 rfl dL_isTold_600 ?_
  refine g_iload hC 3 rfl dL_isTold_602 ?_
  refine g_iconst (v := 3) hC (by decide) dL_isTold_604 ?_
  refine g_icmp_ge (tgt := 623) hC (by decide) dL_isTold_605 (fun c89 => ?_) (fun c89 => ?_)
  · replace h := gq_t c89 h
    exact g_weak [1, 3, 4, 5, 0] rfl (t_L_isTold_623 hl9 hZ hC hr  x14 x15 x16 s0 M h)
  · replace h := gq_f c89 h
    refine g_iload hC 5 rfl dL_isTold_608 ?_
    refine g_if_eq (tgt := 623) hC (by decide) dL_isTold_610 (fun c90 => ?_) (fun c90 => ?_)
    · replace h := gq_t c90 h
      exact g_weak [1, 3, 4, 5, 0] rfl (t_L_isTold_623 hl9 hZ hC hr  x14 x15 x16 s0 M h)
    · replace h := gq_f c90 h
      refine g_bipush (v := 8) hC (by decide) dL_isTold_613 ?_
      refine g_iload hC 3 rfl dL_isTold_615 ?_
      refine g_imul hC dL_isTold_617 ?_
      refine g_iconst (v := 5) hC (by decide) dL_isTold_618 ?_
      refine g_iadd hC dL_isTold_619 ?_
      refine g_goto (tgt := 625) hC (by decide) dL_isTold_620 ?_
      exact g_weak [1, 3, 4, 5, 0] rfl (t_L_isTold_625 hl9 hZ hC hr  x14 x15 x16 s0 ((8 * x14) + 5) M h)
def f_L_isTold_576 (N : Nat) (x14 : Int32) (x15 : Int32) (s0 : Int32) (M : gq_M) : Option (Int32 × gq_M) :=
  if 3 ≤ x14 then (f_L_isTold_598 N  x14 x15 s0 0 M) else (gq_g (gq_in ((8 * x14) + 5) 24) (gq_l (M 115 (((8 * x14) + 5) : Int32).toNatClampNeg) fun v88 => f_L_isTold_598 N  x14 x15 s0 v88 M))
set_option maxHeartbeats 1000000 in
set_option maxRecDepth 20000 in
theorem t_L_isTold_576 {N : Nat} {v9 : Int32} {M9 : gq_M} (hl9 : l.stackTraces = false) (hZ : gq_Zn A s) (hC : gq_C p s m args meth c D A cI cZ ad mtL RL cL_isTold 23) (hr : meth.sig.returnType = (some .boolean))   : ∀ (x14 : Int32) (x15 : Int32) (s0 : Int32) (M : gq_M), f_L_isTold_576 N  x14 x15 s0 M = some (v9, M9) → gq_W p l e (gq_rl 10 1 6) s m args below meth c D A cI cZ ad mtL 23 (gq_NQ below D cI cZ ad mtL v9 M9 args s 1 6 A) 576 [(0, .ref (ad 0)), (5, .ref (ad 115)), (14, .int x14), (15, .int x15)] [.int s0] M 0 0 := by
  intro x14 x15 s0 M h
  unfold f_L_isTold_576 at h
  refine g_istore (L2 := [(16, .int s0), (0, .ref (ad 0)), (5, .ref (ad 115)), (14, .int x14), (15, .int x15)]) hC (by decide) rfl dL_isTold_576 ?_
  refine g_iload hC 3 rfl dL_isTold_578 ?_
  refine g_iconst (v := 3) hC (by decide) dL_isTold_580 ?_
  refine g_icmp_ge (tgt := 597) hC (by decide) dL_isTold_581 (fun c86 => ?_) (fun c86 => ?_)
  · replace h := gq_t c86 h
    refine g_iconst (v := 0) hC (by decide) dL_isTold_597 ?_
    exact g_weak [1, 2, 3, 4, 0] rfl (t_L_isTold_598 hl9 hZ hC hr  x14 x15 s0 0 M h)
  · replace h := gq_f c86 h
    refine g_aload hC 2 rfl dL_isTold_584 ?_
    refine g_bipush (v := 8) hC (by decide) dL_isTold_586 ?_
    refine g_iload hC 3 rfl dL_isTold_588 ?_
    refine g_imul hC dL_isTold_590 ?_
    refine g_iconst (v := 5) hC (by decide) dL_isTold_591 ?_
    refine g_iadd hC dL_isTold_592 ?_
    obtain ⟨g87, h⟩ := gq_g_i h
    refine g_iald hC arL_115 (gq_in_i g87) dL_isTold_593 ?_
    refine g_topi (fun v88 hv88 => ?_)
    replace h := gq_l_i hv88 h
    refine g_goto (tgt := 598) hC (by decide) dL_isTold_594 ?_
    exact g_weak [1, 2, 3, 4, 0] rfl (t_L_isTold_598 hl9 hZ hC hr  x14 x15 s0 v88 M h)
def f_L_isTold_575 (N : Nat) (x14 : Int32) (x15 : Int32) (M : gq_M) : Option (Int32 × gq_M) :=
  f_L_isTold_576 N  x14 x15 0 M
set_option maxHeartbeats 1000000 in
set_option maxRecDepth 20000 in
theorem t_L_isTold_575 {N : Nat} {v9 : Int32} {M9 : gq_M} (hl9 : l.stackTraces = false) (hZ : gq_Zn A s) (hC : gq_C p s m args meth c D A cI cZ ad mtL RL cL_isTold 23) (hr : meth.sig.returnType = (some .boolean))   : ∀ (x14 : Int32) (x15 : Int32) (M : gq_M), f_L_isTold_575 N  x14 x15 M = some (v9, M9) → gq_W p l e (gq_rl 10 1 6) s m args below meth c D A cI cZ ad mtL 23 (gq_NQ below D cI cZ ad mtL v9 M9 args s 1 6 A) 575 [(0, .ref (ad 0)), (5, .ref (ad 115)), (14, .int x14), (15, .int x15)] [] M 0 0 := by
  intro x14 x15 M h
  unfold f_L_isTold_575 at h
  refine g_iconst (v := 0) hC (by decide) dL_isTold_575 ?_
  exact g_weak [0, 1, 2, 3] rfl (t_L_isTold_576 hl9 hZ hC hr  x14 x15 0 M h)
def f_L_isTold_556 (N : Nat) (x14 : Int32) (s0 : Int32) (M : gq_M) : Option (Int32 × gq_M) :=
  if s0 ≤ 0 then (f_L_isTold_575 N  x14 s0 M) else (if 501 ≤ s0 then (f_L_isTold_575 N  x14 s0 M) else (f_L_isTold_576 N  x14 s0 1 M))
set_option maxHeartbeats 1000000 in
set_option maxRecDepth 20000 in
theorem t_L_isTold_556 {N : Nat} {v9 : Int32} {M9 : gq_M} (hl9 : l.stackTraces = false) (hZ : gq_Zn A s) (hC : gq_C p s m args meth c D A cI cZ ad mtL RL cL_isTold 23) (hr : meth.sig.returnType = (some .boolean))   : ∀ (x14 : Int32) (s0 : Int32) (M : gq_M), f_L_isTold_556 N  x14 s0 M = some (v9, M9) → gq_W p l e (gq_rl 10 1 6) s m args below meth c D A cI cZ ad mtL 23 (gq_NQ below D cI cZ ad mtL v9 M9 args s 1 6 A) 556 [(0, .ref (ad 0)), (5, .ref (ad 115)), (14, .int x14)] [.int s0] M 0 0 := by
  intro x14 s0 M h
  unfold f_L_isTold_556 at h
  refine g_istore (L2 := [(15, .int s0), (0, .ref (ad 0)), (5, .ref (ad 115)), (14, .int x14)]) hC (by decide) rfl dL_isTold_556 ?_
  refine g_iload hC 0 rfl dL_isTold_558 ?_
  refine g_if_le (tgt := 575) hC (by decide) dL_isTold_560 (fun c84 => ?_) (fun c84 => ?_)
  · replace h := gq_t c84 h
    exact g_weak [1, 2, 3, 0] rfl (t_L_isTold_575 hl9 hZ hC hr  x14 s0 M h)
  · replace h := gq_f c84 h
    refine g_iload hC 0 rfl dL_isTold_563 ?_
    refine g_sipush (v := 501) hC (by decide) dL_isTold_565 ?_
    refine g_icmp_ge (tgt := 575) hC (by decide) dL_isTold_568 (fun c85 => ?_) (fun c85 => ?_)
    · replace h := gq_t c85 h
      exact g_weak [1, 2, 3, 0] rfl (t_L_isTold_575 hl9 hZ hC hr  x14 s0 M h)
    · replace h := gq_f c85 h
      refine g_iconst (v := 1) hC (by decide) dL_isTold_571 ?_
      refine g_goto (tgt := 576) hC (by decide) dL_isTold_572 ?_
      exact g_weak [1, 2, 3, 0] rfl (t_L_isTold_576 hl9 hZ hC hr  x14 s0 1 M h)
def f_L_isTold_520 (N : Nat) (s0 : Int32) (M : gq_M) : Option (Int32 × gq_M) :=
  gq_g (gq_bb s0) (some (s0, M))
set_option maxHeartbeats 1000000 in
set_option maxRecDepth 20000 in
theorem t_L_isTold_520 {N : Nat} {v9 : Int32} {M9 : gq_M} (hl9 : l.stackTraces = false) (hZ : gq_Zn A s) (hC : gq_C p s m args meth c D A cI cZ ad mtL RL cL_isTold 23) (hr : meth.sig.returnType = (some .boolean))   : ∀ (s0 : Int32) (M : gq_M), f_L_isTold_520 N  s0 M = some (v9, M9) → gq_W p l e (gq_rl 10 1 6) s m args below meth c D A cI cZ ad mtL 23 (gq_NQ below D cI cZ ad mtL v9 M9 args s 1 6 A) 520 [] [.int s0] M 1 6 := by
  intro s0 M h
  unfold f_L_isTold_520 at h
  obtain ⟨g83, h⟩ := gq_g_i h
  exact g_zretsN hC (by decide) (by decide) hr (gq_bb_i g83) h dL_isTold_520
def f_L_isTold_512 (N : Nat) (s0 : Int32) (s1 : Int32) (M : gq_M) : Option (Int32 × gq_M) :=
  if s0 = s1 then (f_L_isTold_520 N  1 M) else (f_L_isTold_520 N  0 M)
set_option maxHeartbeats 1000000 in
set_option maxRecDepth 20000 in
theorem t_L_isTold_512 {N : Nat} {v9 : Int32} {M9 : gq_M} (hl9 : l.stackTraces = false) (hZ : gq_Zn A s) (hC : gq_C p s m args meth c D A cI cZ ad mtL RL cL_isTold 23) (hr : meth.sig.returnType = (some .boolean))   : ∀ (s0 : Int32) (s1 : Int32) (M : gq_M), f_L_isTold_512 N  s0 s1 M = some (v9, M9) → gq_W p l e (gq_rl 10 1 6) s m args below meth c D A cI cZ ad mtL 23 (gq_NQ below D cI cZ ad mtL v9 M9 args s 1 6 A) 512 [] [.int s1, .int s0] M 1 6 := by
  intro s0 s1 M h
  unfold f_L_isTold_512 at h
  refine g_icmp_ne (tgt := 519) hC (by decide) dL_isTold_512 (fun c82 => ?_) (fun c82 => ?_)
  · replace h := gq_f c82 h
    refine g_iconst (v := 0) hC (by decide) dL_isTold_519 ?_
    exact g_weak [] rfl (t_L_isTold_520 hl9 hZ hC hr  0 M h)
  · replace h := gq_t c82 h
    refine g_iconst (v := 1) hC (by decide) dL_isTold_515 ?_
    refine g_goto (tgt := 520) hC (by decide) dL_isTold_516 ?_
    exact g_weak [] rfl (t_L_isTold_520 hl9 hZ hC hr  1 M h)
def f_L_isTold_476 (N : Nat) (x14 : Int32) (x15 : Int32) (x16 : Int32) (x17 : Int32) (x18 : Int32) (x19 : Int32) (M : gq_M) : Option (Int32 × gq_M) :=
  gq_b (f_L_does N 2 x14 x15 x16 x17 0 0 M) fun v77 M79 => if x18 = 0 then (f_L_isTold_512 N  v77 (-300000000) M79) else (if x19 = 0 then (f_L_isTold_512 N  v77 (-200000000) M79) else (f_L_isTold_512 N  v77 0 M79))
set_option maxHeartbeats 1000000 in
set_option maxRecDepth 20000 in
theorem t_L_isTold_476 {N : Nat} {v9 : Int32} {M9 : gq_M} (hl9 : l.stackTraces = false) (hZ : gq_Zn A s) (hC : gq_C p s m args meth c D A cI cZ ad mtL RL cL_isTold 23) (hr : meth.sig.returnType = (some .boolean))   : ∀ (x14 : Int32) (x15 : Int32) (x16 : Int32) (x17 : Int32) (x18 : Int32) (x19 : Int32) (M : gq_M), f_L_isTold_476 N  x14 x15 x16 x17 x18 x19 M = some (v9, M9) → gq_W p l e (gq_rl 10 1 6) s m args below meth c D A cI cZ ad mtL 23 (gq_NQ below D cI cZ ad mtL v9 M9 args s 1 6 A) 476 [(0, .ref (ad 0)), (14, .int x14), (15, .int x15), (16, .int x16), (17, .int x17), (18, .int x18), (19, .int x19)] [] M 0 0 := by
  intro x14 x15 x16 x17 x18 x19 M h
  unfold f_L_isTold_476 at h
  refine g_aload_n hC 0 rfl rfl dL_isTold_476 ?_
  refine g_iconst (v := 2) hC (by decide) dL_isTold_477 ?_
  refine g_iload hC 1 rfl dL_isTold_478 ?_
  refine g_iload hC 2 rfl dL_isTold_480 ?_
  refine g_iload hC 3 rfl dL_isTold_482 ?_
  refine g_iload hC 4 rfl dL_isTold_484 ?_
  refine g_iconst (v := 0) hC (by decide) dL_isTold_486 ?_
  refine g_iconst (v := 0) hC (by decide) dL_isTold_487 ?_
  obtain ⟨v77, M79, c78, h⟩ := gq_b_i h
  refine g_LNH (as := [.ref (ad 0), .int 2, .int x14, .int x15, .int x16, .int x17, .int 0, .int 0]) hC hZ (t_L_does hl9 N _ _ _ _ _ _ _ _ _ _ c78) mH_L_does wm_L_183 rfl rfl (Nat.le_of_ble_eq_true rfl) ⟨Nat.le_of_ble_eq_true rfl, Nat.le_of_ble_eq_true rfl⟩ ⟨Nat.le_of_ble_eq_true rfl, Nat.le_of_ble_eq_true rfl⟩ dL_isTold_488 ?_
  refine g_iload hC 5 rfl dL_isTold_491 ?_
  refine g_if_ne (tgt := 501) hC (by decide) dL_isTold_493 (fun c80 => ?_) (fun c80 => ?_)
  · replace h := gq_f c80 h
    refine g_iload hC 6 rfl dL_isTold_501 ?_
    refine g_if_eq (tgt := 510) hC (by decide) dL_isTold_503 (fun c81 => ?_) (fun c81 => ?_)
    · replace h := gq_t c81 h
      refine g_ldc (v := (-200000000)) hC wk_L_87 dL_isTold_510 ?_
      exact g_weak [] rfl (t_L_isTold_512 hl9 hZ hC hr  v77 (-200000000) M79 h)
    · replace h := gq_f c81 h
      refine g_iconst (v := 0) hC (by decide) dL_isTold_506 ?_
      refine g_goto (tgt := 512) hC (by decide) dL_isTold_507 ?_
      exact g_weak [] rfl (t_L_isTold_512 hl9 hZ hC hr  v77 0 M79 h)
  · replace h := gq_t c80 h
    refine g_ldc (v := (-300000000)) hC wk_L_84 dL_isTold_496 ?_
    refine g_goto (tgt := 512) hC (by decide) dL_isTold_498 ?_
    exact g_weak [] rfl (t_L_isTold_512 hl9 hZ hC hr  v77 (-300000000) M79 h)
def f_L_isTold_434 (N : Nat) (x14 : Int32) (x15 : Int32) (x16 : Int32) (x17 : Int32) (x18 : Int32) (s0 : Int32) (M : gq_M) : Option (Int32 × gq_M) :=
  if x18 = 0 then (f_L_isTold_476 N  x14 x15 x16 x17 x18 s0 M) else (if s0 = 0 then (f_L_isTold_476 N  x14 x15 x16 x17 x18 s0 M) else (gq_g (gq_in (8 + x14) 56) (gq_l (gq_up M 119 ((8 + x14) : Int32).toNatClampNeg x15) fun M72 => gq_g (gq_in (12 + x14) 56) (gq_l (gq_up M72 119 ((12 + x14) : Int32).toNatClampNeg x16) fun M74 => gq_g (gq_in (16 + x14) 56) (gq_l (gq_up M74 119 ((16 + x14) : Int32).toNatClampNeg x17) fun M76 => f_L_isTold_476 N  x14 x15 x16 x17 x18 s0 M76)))))
set_option maxHeartbeats 1000000 in
set_option maxRecDepth 20000 in
theorem t_L_isTold_434 {N : Nat} {v9 : Int32} {M9 : gq_M} (hl9 : l.stackTraces = false) (hZ : gq_Zn A s) (hC : gq_C p s m args meth c D A cI cZ ad mtL RL cL_isTold 23) (hr : meth.sig.returnType = (some .boolean))   : ∀ (x14 : Int32) (x15 : Int32) (x16 : Int32) (x17 : Int32) (x18 : Int32) (s0 : Int32) (M : gq_M), f_L_isTold_434 N  x14 x15 x16 x17 x18 s0 M = some (v9, M9) → gq_W p l e (gq_rl 10 1 6) s m args below meth c D A cI cZ ad mtL 23 (gq_NQ below D cI cZ ad mtL v9 M9 args s 1 6 A) 434 [(0, .ref (ad 0)), (6, .ref (ad 119)), (14, .int x14), (15, .int x15), (16, .int x16), (17, .int x17), (18, .int x18)] [.int s0] M 0 0 := by
  intro x14 x15 x16 x17 x18 s0 M h
  unfold f_L_isTold_434 at h
  refine g_istore (L2 := [(19, .int s0), (0, .ref (ad 0)), (6, .ref (ad 119)), (14, .int x14), (15, .int x15), (16, .int x16), (17, .int x17), (18, .int x18)]) hC (by decide) rfl dL_isTold_434 ?_
  refine g_iload hC 7 rfl dL_isTold_436 ?_
  refine g_if_eq (tgt := 476) hC (by decide) dL_isTold_438 (fun c69 => ?_) (fun c69 => ?_)
  · replace h := gq_t c69 h
    exact g_weak [1, 3, 4, 5, 6, 7, 0] rfl (t_L_isTold_476 hl9 hZ hC hr  x14 x15 x16 x17 x18 s0 M h)
  · replace h := gq_f c69 h
    refine g_iload hC 0 rfl dL_isTold_441 ?_
    refine g_if_eq (tgt := 476) hC (by decide) dL_isTold_443 (fun c70 => ?_) (fun c70 => ?_)
    · replace h := gq_t c70 h
      exact g_weak [1, 3, 4, 5, 6, 7, 0] rfl (t_L_isTold_476 hl9 hZ hC hr  x14 x15 x16 x17 x18 s0 M h)
    · replace h := gq_f c70 h
      refine g_aload hC 2 rfl dL_isTold_446 ?_
      refine g_bipush (v := 8) hC (by decide) dL_isTold_448 ?_
      refine g_iload hC 3 rfl dL_isTold_450 ?_
      refine g_iadd hC dL_isTold_452 ?_
      refine g_iload hC 4 rfl dL_isTold_453 ?_
      obtain ⟨g71, h⟩ := gq_g_i h
      refine g_iast hC arL_119 (gq_in_i g71) dL_isTold_455 ?_
      refine g_topM (fun M72 hM72 => ?_)
      replace h := gq_l_i hM72 h
      refine g_aload hC 2 rfl dL_isTold_456 ?_
      refine g_bipush (v := 12) hC (by decide) dL_isTold_458 ?_
      refine g_iload hC 3 rfl dL_isTold_460 ?_
      refine g_iadd hC dL_isTold_462 ?_
      refine g_iload hC 5 rfl dL_isTold_463 ?_
      obtain ⟨g73, h⟩ := gq_g_i h
      refine g_iast hC arL_119 (gq_in_i g73) dL_isTold_465 ?_
      refine g_topM (fun M74 hM74 => ?_)
      replace h := gq_l_i hM74 h
      refine g_aload hC 2 rfl dL_isTold_466 ?_
      refine g_bipush (v := 16) hC (by decide) dL_isTold_468 ?_
      refine g_iload hC 3 rfl dL_isTold_470 ?_
      refine g_iadd hC dL_isTold_472 ?_
      refine g_iload hC 6 rfl dL_isTold_473 ?_
      obtain ⟨g75, h⟩ := gq_g_i h
      refine g_iast hC arL_119 (gq_in_i g75) dL_isTold_475 ?_
      refine g_topM (fun M76 hM76 => ?_)
      replace h := gq_l_i hM76 h
      exact g_weak [1, 3, 4, 5, 6, 7, 0] rfl (t_L_isTold_476 hl9 hZ hC hr  x14 x15 x16 x17 x18 s0 M76 h)
def f_L_isTold_433 (N : Nat) (x14 : Int32) (x15 : Int32) (x16 : Int32) (x17 : Int32) (x18 : Int32) (M : gq_M) : Option (Int32 × gq_M) :=
  f_L_isTold_434 N  x14 x15 x16 x17 x18 0 M
set_option maxHeartbeats 1000000 in
set_option maxRecDepth 20000 in
theorem t_L_isTold_433 {N : Nat} {v9 : Int32} {M9 : gq_M} (hl9 : l.stackTraces = false) (hZ : gq_Zn A s) (hC : gq_C p s m args meth c D A cI cZ ad mtL RL cL_isTold 23) (hr : meth.sig.returnType = (some .boolean))   : ∀ (x14 : Int32) (x15 : Int32) (x16 : Int32) (x17 : Int32) (x18 : Int32) (M : gq_M), f_L_isTold_433 N  x14 x15 x16 x17 x18 M = some (v9, M9) → gq_W p l e (gq_rl 10 1 6) s m args below meth c D A cI cZ ad mtL 23 (gq_NQ below D cI cZ ad mtL v9 M9 args s 1 6 A) 433 [(0, .ref (ad 0)), (6, .ref (ad 119)), (14, .int x14), (15, .int x15), (16, .int x16), (17, .int x17), (18, .int x18)] [] M 0 0 := by
  intro x14 x15 x16 x17 x18 M h
  unfold f_L_isTold_433 at h
  refine g_iconst (v := 0) hC (by decide) dL_isTold_433 ?_
  exact g_weak [0, 1, 2, 3, 4, 5, 6] rfl (t_L_isTold_434 hl9 hZ hC hr  x14 x15 x16 x17 x18 0 M h)
def f_L_isTold_401 (N : Nat) (x14 : Int32) (x15 : Int32) (x16 : Int32) (x17 : Int32) (s0 : Int32) (M : gq_M) : Option (Int32 × gq_M) :=
  if x15 ≤ 0 then (f_L_isTold_433 N  x14 x15 x16 x17 s0 M) else (if 10001 ≤ x15 then (f_L_isTold_433 N  x14 x15 x16 x17 s0 M) else (if x16 ≤ 0 then (f_L_isTold_433 N  x14 x15 x16 x17 s0 M) else (if 10001 ≤ x16 then (f_L_isTold_433 N  x14 x15 x16 x17 s0 M) else (f_L_isTold_434 N  x14 x15 x16 x17 s0 1 M))))
set_option maxHeartbeats 1000000 in
set_option maxRecDepth 20000 in
theorem t_L_isTold_401 {N : Nat} {v9 : Int32} {M9 : gq_M} (hl9 : l.stackTraces = false) (hZ : gq_Zn A s) (hC : gq_C p s m args meth c D A cI cZ ad mtL RL cL_isTold 23) (hr : meth.sig.returnType = (some .boolean))   : ∀ (x14 : Int32) (x15 : Int32) (x16 : Int32) (x17 : Int32) (s0 : Int32) (M : gq_M), f_L_isTold_401 N  x14 x15 x16 x17 s0 M = some (v9, M9) → gq_W p l e (gq_rl 10 1 6) s m args below meth c D A cI cZ ad mtL 23 (gq_NQ below D cI cZ ad mtL v9 M9 args s 1 6 A) 401 [(0, .ref (ad 0)), (6, .ref (ad 119)), (14, .int x14), (15, .int x15), (16, .int x16), (17, .int x17)] [.int s0] M 0 0 := by
  intro x14 x15 x16 x17 s0 M h
  unfold f_L_isTold_401 at h
  refine g_istore (L2 := [(18, .int s0), (0, .ref (ad 0)), (6, .ref (ad 119)), (14, .int x14), (15, .int x15), (16, .int x16), (17, .int x17)]) hC (by decide) rfl dL_isTold_401 ?_
  refine g_iload hC 4 rfl dL_isTold_403 ?_
  refine g_if_le (tgt := 433) hC (by decide) dL_isTold_405 (fun c65 => ?_) (fun c65 => ?_)
  · replace h := gq_t c65 h
    exact g_weak [1, 2, 3, 4, 5, 6, 0] rfl (t_L_isTold_433 hl9 hZ hC hr  x14 x15 x16 x17 s0 M h)
  · replace h := gq_f c65 h
    refine g_iload hC 4 rfl dL_isTold_408 ?_
    refine g_sipush (v := 10001) hC (by decide) dL_isTold_410 ?_
    refine g_icmp_ge (tgt := 433) hC (by decide) dL_isTold_413 (fun c66 => ?_) (fun c66 => ?_)
    · replace h := gq_t c66 h
      exact g_weak [1, 2, 3, 4, 5, 6, 0] rfl (t_L_isTold_433 hl9 hZ hC hr  x14 x15 x16 x17 s0 M h)
    · replace h := gq_f c66 h
      refine g_iload hC 5 rfl dL_isTold_416 ?_
      refine g_if_le (tgt := 433) hC (by decide) dL_isTold_418 (fun c67 => ?_) (fun c67 => ?_)
      · replace h := gq_t c67 h
        exact g_weak [1, 2, 3, 4, 5, 6, 0] rfl (t_L_isTold_433 hl9 hZ hC hr  x14 x15 x16 x17 s0 M h)
      · replace h := gq_f c67 h
        refine g_iload hC 5 rfl dL_isTold_421 ?_
        refine g_sipush (v := 10001) hC (by decide) dL_isTold_423 ?_
        refine g_icmp_ge (tgt := 433) hC (by decide) dL_isTold_426 (fun c68 => ?_) (fun c68 => ?_)
        · replace h := gq_t c68 h
          exact g_weak [1, 2, 3, 4, 5, 6, 0] rfl (t_L_isTold_433 hl9 hZ hC hr  x14 x15 x16 x17 s0 M h)
        · replace h := gq_f c68 h
          refine g_iconst (v := 1) hC (by decide) dL_isTold_429 ?_
          refine g_goto (tgt := 434) hC (by decide) dL_isTold_430 ?_
          exact g_weak [1, 2, 3, 4, 5, 6, 0] rfl (t_L_isTold_434 hl9 hZ hC hr  x14 x15 x16 x17 s0 1 M h)
def f_L_isTold_400 (N : Nat) (x14 : Int32) (x15 : Int32) (x16 : Int32) (x17 : Int32) (M : gq_M) : Option (Int32 × gq_M) :=
  f_L_isTold_401 N  x14 x15 x16 x17 0 M
set_option maxHeartbeats 1000000 in
set_option maxRecDepth 20000 in
theorem t_L_isTold_400 {N : Nat} {v9 : Int32} {M9 : gq_M} (hl9 : l.stackTraces = false) (hZ : gq_Zn A s) (hC : gq_C p s m args meth c D A cI cZ ad mtL RL cL_isTold 23) (hr : meth.sig.returnType = (some .boolean))   : ∀ (x14 : Int32) (x15 : Int32) (x16 : Int32) (x17 : Int32) (M : gq_M), f_L_isTold_400 N  x14 x15 x16 x17 M = some (v9, M9) → gq_W p l e (gq_rl 10 1 6) s m args below meth c D A cI cZ ad mtL 23 (gq_NQ below D cI cZ ad mtL v9 M9 args s 1 6 A) 400 [(0, .ref (ad 0)), (6, .ref (ad 119)), (14, .int x14), (15, .int x15), (16, .int x16), (17, .int x17)] [] M 0 0 := by
  intro x14 x15 x16 x17 M h
  unfold f_L_isTold_400 at h
  refine g_iconst (v := 0) hC (by decide) dL_isTold_400 ?_
  exact g_weak [0, 1, 2, 3, 4, 5] rfl (t_L_isTold_401 hl9 hZ hC hr  x14 x15 x16 x17 0 M h)
def f_L_isTold_374 (N : Nat) (x10 : Int32) (x14 : Int32) (x15 : Int32) (s0 : Int32) (M : gq_M) : Option (Int32 × gq_M) :=
  if 4 ≤ x14 then (f_L_isTold_400 N  x14 x15 s0 ((x10 / 5) - (x10 / 5) / 4 * 4) M) else (if 3 ≤ ((x10 / 5) - (x10 / 5) / 4 * 4) then (f_L_isTold_400 N  x14 x15 s0 ((x10 / 5) - (x10 / 5) / 4 * 4) M) else (f_L_isTold_401 N  x14 x15 s0 ((x10 / 5) - (x10 / 5) / 4 * 4) 1 M))
set_option maxHeartbeats 1000000 in
set_option maxRecDepth 20000 in
theorem t_L_isTold_374 {N : Nat} {v9 : Int32} {M9 : gq_M} (hl9 : l.stackTraces = false) (hZ : gq_Zn A s) (hC : gq_C p s m args meth c D A cI cZ ad mtL RL cL_isTold 23) (hr : meth.sig.returnType = (some .boolean))   : ∀ (x10 : Int32) (x14 : Int32) (x15 : Int32) (s0 : Int32) (M : gq_M), f_L_isTold_374 N  x10 x14 x15 s0 M = some (v9, M9) → gq_W p l e (gq_rl 10 1 6) s m args below meth c D A cI cZ ad mtL 23 (gq_NQ below D cI cZ ad mtL v9 M9 args s 1 6 A) 374 [(0, .ref (ad 0)), (6, .ref (ad 119)), (10, .int x10), (14, .int x14), (15, .int x15)] [.int s0] M 0 0 := by
  intro x10 x14 x15 s0 M h
  unfold f_L_isTold_374 at h
  refine g_istore (L2 := [(16, .int s0), (0, .ref (ad 0)), (6, .ref (ad 119)), (10, .int x10), (14, .int x14), (15, .int x15)]) hC (by decide) rfl dL_isTold_374 ?_
  refine g_iload hC 3 rfl dL_isTold_376 ?_
  refine g_iconst (v := 5) hC (by decide) dL_isTold_378 ?_
  refine g_idiv hC (by decide) dL_isTold_379 ?_
  refine g_iconst (v := 4) hC (by decide) dL_isTold_380 ?_
  refine g_irem hC (by decide) dL_isTold_381 ?_
  refine g_istore (L2 := [(17, .int ((x10 / 5) - (x10 / 5) / 4 * 4)), (16, .int s0), (0, .ref (ad 0)), (6, .ref (ad 119)), (10, .int x10), (14, .int x14), (15, .int x15)]) hC (by decide) rfl dL_isTold_382 ?_
  refine g_iload hC 5 rfl dL_isTold_384 ?_
  refine g_iconst (v := 4) hC (by decide) dL_isTold_386 ?_
  refine g_icmp_ge (tgt := 400) hC (by decide) dL_isTold_387 (fun c63 => ?_) (fun c63 => ?_)
  · replace h := gq_t c63 h
    exact g_weak [2, 3, 5, 6, 1, 0] rfl (t_L_isTold_400 hl9 hZ hC hr  x14 x15 s0 ((x10 / 5) - (x10 / 5) / 4 * 4) M h)
  · replace h := gq_f c63 h
    refine g_iload hC 0 rfl dL_isTold_390 ?_
    refine g_iconst (v := 3) hC (by decide) dL_isTold_392 ?_
    refine g_icmp_ge (tgt := 400) hC (by decide) dL_isTold_393 (fun c64 => ?_) (fun c64 => ?_)
    · replace h := gq_t c64 h
      exact g_weak [2, 3, 5, 6, 1, 0] rfl (t_L_isTold_400 hl9 hZ hC hr  x14 x15 s0 ((x10 / 5) - (x10 / 5) / 4 * 4) M h)
    · replace h := gq_f c64 h
      refine g_iconst (v := 1) hC (by decide) dL_isTold_396 ?_
      refine g_goto (tgt := 401) hC (by decide) dL_isTold_397 ?_
      exact g_weak [2, 3, 5, 6, 1, 0] rfl (t_L_isTold_401 hl9 hZ hC hr  x14 x15 s0 ((x10 / 5) - (x10 / 5) / 4 * 4) 1 M h)
def f_L_isTold_339 (N : Nat) (x10 : Int32) (x11 : Int32) (x14 : Int32) (s0 : Int32) (M : gq_M) : Option (Int32 × gq_M) :=
  if ((x11 / 7) - (x11 / 7) / 5 * 5) = 0 then (f_L_isTold_374 N  x10 x14 s0 ((x11 / 7) - (x11 / 7) / 10002 * 10002) M) else (f_L_isTold_374 N  x10 x14 s0 (60 + ((x11 / 7) - (x11 / 7) / 60 * 60)) M)
set_option maxHeartbeats 1000000 in
set_option maxRecDepth 20000 in
theorem t_L_isTold_339 {N : Nat} {v9 : Int32} {M9 : gq_M} (hl9 : l.stackTraces = false) (hZ : gq_Zn A s) (hC : gq_C p s m args meth c D A cI cZ ad mtL RL cL_isTold 23) (hr : meth.sig.returnType = (some .boolean))   : ∀ (x10 : Int32) (x11 : Int32) (x14 : Int32) (s0 : Int32) (M : gq_M), f_L_isTold_339 N  x10 x11 x14 s0 M = some (v9, M9) → gq_W p l e (gq_rl 10 1 6) s m args below meth c D A cI cZ ad mtL 23 (gq_NQ below D cI cZ ad mtL v9 M9 args s 1 6 A) 339 [(0, .ref (ad 0)), (6, .ref (ad 119)), (10, .int x10), (11, .int x11), (14, .int x14)] [.int s0] M 0 0 := by
  intro x10 x11 x14 s0 M h
  unfold f_L_isTold_339 at h
  refine g_istore (L2 := [(15, .int s0), (0, .ref (ad 0)), (6, .ref (ad 119)), (10, .int x10), (11, .int x11), (14, .int x14)]) hC (by decide) rfl dL_isTold_339 ?_
  refine g_iload hC 4 rfl dL_isTold_341 ?_
  refine g_bipush (v := 7) hC (by decide) dL_isTold_343 ?_
  refine g_idiv hC (by decide) dL_isTold_345 ?_
  refine g_iconst (v := 5) hC (by decide) dL_isTold_346 ?_
  refine g_irem hC (by decide) dL_isTold_347 ?_
  refine g_if_ne (tgt := 363) hC (by decide) dL_isTold_348 (fun c62 => ?_) (fun c62 => ?_)
  · replace h := gq_f c62 h
    refine g_bipush (v := 60) hC (by decide) dL_isTold_363 ?_
    refine g_iload hC 4 rfl dL_isTold_365 ?_
    refine g_bipush (v := 7) hC (by decide) dL_isTold_367 ?_
    refine g_idiv hC (by decide) dL_isTold_369 ?_
    refine g_bipush (v := 60) hC (by decide) dL_isTold_370 ?_
    refine g_irem hC (by decide) dL_isTold_372 ?_
    refine g_iadd hC dL_isTold_373 ?_
    exact g_weak [1, 2, 3, 5, 0] rfl (t_L_isTold_374 hl9 hZ hC hr  x10 x14 s0 (60 + ((x11 / 7) - (x11 / 7) / 60 * 60)) M h)
  · replace h := gq_t c62 h
    refine g_iload hC 4 rfl dL_isTold_351 ?_
    refine g_bipush (v := 7) hC (by decide) dL_isTold_353 ?_
    refine g_idiv hC (by decide) dL_isTold_355 ?_
    refine g_sipush (v := 10002) hC (by decide) dL_isTold_356 ?_
    refine g_irem hC (by decide) dL_isTold_359 ?_
    refine g_goto (tgt := 374) hC (by decide) dL_isTold_360 ?_
    exact g_weak [1, 2, 3, 5, 0] rfl (t_L_isTold_374 hl9 hZ hC hr  x10 x14 s0 ((x11 / 7) - (x11 / 7) / 10002 * 10002) M h)
def f_L_isTold_301 (N : Nat) (s0 : Int32) (M : gq_M) : Option (Int32 × gq_M) :=
  gq_g (gq_bb s0) (some (s0, M))
set_option maxHeartbeats 1000000 in
set_option maxRecDepth 20000 in
theorem t_L_isTold_301 {N : Nat} {v9 : Int32} {M9 : gq_M} (hl9 : l.stackTraces = false) (hZ : gq_Zn A s) (hC : gq_C p s m args meth c D A cI cZ ad mtL RL cL_isTold 23) (hr : meth.sig.returnType = (some .boolean))   : ∀ (s0 : Int32) (M : gq_M), f_L_isTold_301 N  s0 M = some (v9, M9) → gq_W p l e (gq_rl 10 1 6) s m args below meth c D A cI cZ ad mtL 23 (gq_NQ below D cI cZ ad mtL v9 M9 args s 1 6 A) 301 [] [.int s0] M 1 6 := by
  intro s0 M h
  unfold f_L_isTold_301 at h
  obtain ⟨g61, h⟩ := gq_g_i h
  exact g_zretsN hC (by decide) (by decide) hr (gq_bb_i g61) h dL_isTold_301
def f_L_isTold_293 (N : Nat) (s0 : Int32) (s1 : Int32) (M : gq_M) : Option (Int32 × gq_M) :=
  if s0 = s1 then (f_L_isTold_301 N  1 M) else (f_L_isTold_301 N  0 M)
set_option maxHeartbeats 1000000 in
set_option maxRecDepth 20000 in
theorem t_L_isTold_293 {N : Nat} {v9 : Int32} {M9 : gq_M} (hl9 : l.stackTraces = false) (hZ : gq_Zn A s) (hC : gq_C p s m args meth c D A cI cZ ad mtL RL cL_isTold 23) (hr : meth.sig.returnType = (some .boolean))   : ∀ (s0 : Int32) (s1 : Int32) (M : gq_M), f_L_isTold_293 N  s0 s1 M = some (v9, M9) → gq_W p l e (gq_rl 10 1 6) s m args below meth c D A cI cZ ad mtL 23 (gq_NQ below D cI cZ ad mtL v9 M9 args s 1 6 A) 293 [] [.int s1, .int s0] M 1 6 := by
  intro s0 s1 M h
  unfold f_L_isTold_293 at h
  refine g_icmp_ne (tgt := 300) hC (by decide) dL_isTold_293 (fun c60 => ?_) (fun c60 => ?_)
  · replace h := gq_f c60 h
    refine g_iconst (v := 0) hC (by decide) dL_isTold_300 ?_
    exact g_weak [] rfl (t_L_isTold_301 hl9 hZ hC hr  0 M h)
  · replace h := gq_t c60 h
    refine g_iconst (v := 1) hC (by decide) dL_isTold_296 ?_
    refine g_goto (tgt := 301) hC (by decide) dL_isTold_297 ?_
    exact g_weak [] rfl (t_L_isTold_301 hl9 hZ hC hr  1 M h)
def f_L_isTold_255 (N : Nat) (x11 : Int32) (x12 : Int32) (x13 : Int32) (x14 : Int32) (x15 : Int32) (x16 : Int32) (M : gq_M) : Option (Int32 × gq_M) :=
  gq_b (f_L_does N 1 x12 x14 (x11 - x11 / 2 * 2) 0 0 0 M) fun v55 M57 => if x13 = 0 then (f_L_isTold_293 N  v55 (-300000000) M57) else (if x15 = 0 then (f_L_isTold_293 N  v55 (-200000000) M57) else (f_L_isTold_293 N  v55 x16 M57))
set_option maxHeartbeats 1000000 in
set_option maxRecDepth 20000 in
theorem t_L_isTold_255 {N : Nat} {v9 : Int32} {M9 : gq_M} (hl9 : l.stackTraces = false) (hZ : gq_Zn A s) (hC : gq_C p s m args meth c D A cI cZ ad mtL RL cL_isTold 23) (hr : meth.sig.returnType = (some .boolean))   : ∀ (x11 : Int32) (x12 : Int32) (x13 : Int32) (x14 : Int32) (x15 : Int32) (x16 : Int32) (M : gq_M), f_L_isTold_255 N  x11 x12 x13 x14 x15 x16 M = some (v9, M9) → gq_W p l e (gq_rl 10 1 6) s m args below meth c D A cI cZ ad mtL 23 (gq_NQ below D cI cZ ad mtL v9 M9 args s 1 6 A) 255 [(0, .ref (ad 0)), (11, .int x11), (12, .int x12), (13, .int x13), (14, .int x14), (15, .int x15), (16, .int x16)] [] M 0 0 := by
  intro x11 x12 x13 x14 x15 x16 M h
  unfold f_L_isTold_255 at h
  refine g_aload_n hC 0 rfl rfl dL_isTold_255 ?_
  refine g_iconst (v := 1) hC (by decide) dL_isTold_256 ?_
  refine g_iload hC 2 rfl dL_isTold_257 ?_
  refine g_iload hC 4 rfl dL_isTold_259 ?_
  refine g_iload hC 1 rfl dL_isTold_261 ?_
  refine g_iconst (v := 2) hC (by decide) dL_isTold_263 ?_
  refine g_irem hC (by decide) dL_isTold_264 ?_
  refine g_iconst (v := 0) hC (by decide) dL_isTold_265 ?_
  refine g_iconst (v := 0) hC (by decide) dL_isTold_266 ?_
  refine g_iconst (v := 0) hC (by decide) dL_isTold_267 ?_
  obtain ⟨v55, M57, c56, h⟩ := gq_b_i h
  refine g_LNH (as := [.ref (ad 0), .int 1, .int x12, .int x14, .int (x11 - x11 / 2 * 2), .int 0, .int 0, .int 0]) hC hZ (t_L_does hl9 N _ _ _ _ _ _ _ _ _ _ c56) mH_L_does wm_L_183 rfl rfl (Nat.le_of_ble_eq_true rfl) ⟨Nat.le_of_ble_eq_true rfl, Nat.le_of_ble_eq_true rfl⟩ ⟨Nat.le_of_ble_eq_true rfl, Nat.le_of_ble_eq_true rfl⟩ dL_isTold_268 ?_
  refine g_iload hC 3 rfl dL_isTold_271 ?_
  refine g_if_ne (tgt := 281) hC (by decide) dL_isTold_273 (fun c58 => ?_) (fun c58 => ?_)
  · replace h := gq_f c58 h
    refine g_iload hC 5 rfl dL_isTold_281 ?_
    refine g_if_eq (tgt := 291) hC (by decide) dL_isTold_283 (fun c59 => ?_) (fun c59 => ?_)
    · replace h := gq_t c59 h
      refine g_ldc (v := (-200000000)) hC wk_L_87 dL_isTold_291 ?_
      exact g_weak [] rfl (t_L_isTold_293 hl9 hZ hC hr  v55 (-200000000) M57 h)
    · replace h := gq_f c59 h
      refine g_iload hC 6 rfl dL_isTold_286 ?_
      refine g_goto (tgt := 293) hC (by decide) dL_isTold_288 ?_
      exact g_weak [] rfl (t_L_isTold_293 hl9 hZ hC hr  v55 x16 M57 h)
  · replace h := gq_t c58 h
    refine g_ldc (v := (-300000000)) hC wk_L_84 dL_isTold_276 ?_
    refine g_goto (tgt := 293) hC (by decide) dL_isTold_278 ?_
    exact g_weak [] rfl (t_L_isTold_293 hl9 hZ hC hr  v55 (-300000000) M57 h)
def f_L_isTold_224 (N : Nat) (x11 : Int32) (x12 : Int32) (x13 : Int32) (x14 : Int32) (x15 : Int32) (s0 : Int32) (M : gq_M) : Option (Int32 × gq_M) :=
  if x13 = 0 then (f_L_isTold_255 N  x11 x12 x13 x14 x15 s0 M) else (if x15 = 0 then (f_L_isTold_255 N  x11 x12 x13 x14 x15 s0 M) else (gq_g (gq_in x12 24) (gq_l (gq_up M 121 x12.toNatClampNeg x14) fun M52 => gq_g (gq_in (8 + x12) 24) (gq_l (gq_up M52 121 ((8 + x12) : Int32).toNatClampNeg (x11 - x11 / 2 * 2)) fun M54 => f_L_isTold_255 N  x11 x12 x13 x14 x15 s0 M54))))
set_option maxHeartbeats 1000000 in
set_option maxRecDepth 20000 in
theorem t_L_isTold_224 {N : Nat} {v9 : Int32} {M9 : gq_M} (hl9 : l.stackTraces = false) (hZ : gq_Zn A s) (hC : gq_C p s m args meth c D A cI cZ ad mtL RL cL_isTold 23) (hr : meth.sig.returnType = (some .boolean))   : ∀ (x11 : Int32) (x12 : Int32) (x13 : Int32) (x14 : Int32) (x15 : Int32) (s0 : Int32) (M : gq_M), f_L_isTold_224 N  x11 x12 x13 x14 x15 s0 M = some (v9, M9) → gq_W p l e (gq_rl 10 1 6) s m args below meth c D A cI cZ ad mtL 23 (gq_NQ below D cI cZ ad mtL v9 M9 args s 1 6 A) 224 [(0, .ref (ad 0)), (8, .ref (ad 121)), (11, .int x11), (12, .int x12), (13, .int x13), (14, .int x14), (15, .int x15)] [.int s0] M 0 0 := by
  intro x11 x12 x13 x14 x15 s0 M h
  unfold f_L_isTold_224 at h
  refine g_istore (L2 := [(16, .int s0), (0, .ref (ad 0)), (8, .ref (ad 121)), (11, .int x11), (12, .int x12), (13, .int x13), (14, .int x14), (15, .int x15)]) hC (by decide) rfl dL_isTold_224 ?_
  refine g_iload hC 5 rfl dL_isTold_226 ?_
  refine g_if_eq (tgt := 255) hC (by decide) dL_isTold_228 (fun c49 => ?_) (fun c49 => ?_)
  · replace h := gq_t c49 h
    exact g_weak [1, 3, 4, 5, 6, 7, 0] rfl (t_L_isTold_255 hl9 hZ hC hr  x11 x12 x13 x14 x15 s0 M h)
  · replace h := gq_f c49 h
    refine g_iload hC 7 rfl dL_isTold_231 ?_
    refine g_if_eq (tgt := 255) hC (by decide) dL_isTold_233 (fun c50 => ?_) (fun c50 => ?_)
    · replace h := gq_t c50 h
      exact g_weak [1, 3, 4, 5, 6, 7, 0] rfl (t_L_isTold_255 hl9 hZ hC hr  x11 x12 x13 x14 x15 s0 M h)
    · replace h := gq_f c50 h
      refine g_aload hC 2 rfl dL_isTold_236 ?_
      refine g_iload hC 4 rfl dL_isTold_238 ?_
      refine g_iload hC 6 rfl dL_isTold_240 ?_
      obtain ⟨g51, h⟩ := gq_g_i h
      refine g_iast hC arL_121 (gq_in_i g51) dL_isTold_242 ?_
      refine g_topM (fun M52 hM52 => ?_)
      replace h := gq_l_i hM52 h
      refine g_aload hC 2 rfl dL_isTold_243 ?_
      refine g_bipush (v := 8) hC (by decide) dL_isTold_245 ?_
      refine g_iload hC 4 rfl dL_isTold_247 ?_
      refine g_iadd hC dL_isTold_249 ?_
      refine g_iload hC 3 rfl dL_isTold_250 ?_
      refine g_iconst (v := 2) hC (by decide) dL_isTold_252 ?_
      refine g_irem hC (by decide) dL_isTold_253 ?_
      obtain ⟨g53, h⟩ := gq_g_i h
      refine g_iast hC arL_121 (gq_in_i g53) dL_isTold_254 ?_
      refine g_topM (fun M54 hM54 => ?_)
      replace h := gq_l_i hM54 h
      exact g_weak [1, 3, 4, 5, 6, 7, 0] rfl (t_L_isTold_255 hl9 hZ hC hr  x11 x12 x13 x14 x15 s0 M54 h)
def f_L_isTold_208 (N : Nat) (x11 : Int32) (x12 : Int32) (x13 : Int32) (x14 : Int32) (s0 : Int32) (M : gq_M) : Option (Int32 × gq_M) :=
  if x13 = 0 then (f_L_isTold_224 N  x11 x12 x13 x14 s0 0 M) else (gq_g (gq_in x12 24) (gq_l (M 121 x12.toNatClampNeg) fun v48 => f_L_isTold_224 N  x11 x12 x13 x14 s0 v48 M))
set_option maxHeartbeats 1000000 in
set_option maxRecDepth 20000 in
theorem t_L_isTold_208 {N : Nat} {v9 : Int32} {M9 : gq_M} (hl9 : l.stackTraces = false) (hZ : gq_Zn A s) (hC : gq_C p s m args meth c D A cI cZ ad mtL RL cL_isTold 23) (hr : meth.sig.returnType = (some .boolean))   : ∀ (x11 : Int32) (x12 : Int32) (x13 : Int32) (x14 : Int32) (s0 : Int32) (M : gq_M), f_L_isTold_208 N  x11 x12 x13 x14 s0 M = some (v9, M9) → gq_W p l e (gq_rl 10 1 6) s m args below meth c D A cI cZ ad mtL 23 (gq_NQ below D cI cZ ad mtL v9 M9 args s 1 6 A) 208 [(0, .ref (ad 0)), (8, .ref (ad 121)), (11, .int x11), (12, .int x12), (13, .int x13), (14, .int x14)] [.int s0] M 0 0 := by
  intro x11 x12 x13 x14 s0 M h
  unfold f_L_isTold_208 at h
  refine g_istore (L2 := [(15, .int s0), (0, .ref (ad 0)), (8, .ref (ad 121)), (11, .int x11), (12, .int x12), (13, .int x13), (14, .int x14)]) hC (by decide) rfl dL_isTold_208 ?_
  refine g_iload hC 5 rfl dL_isTold_210 ?_
  refine g_if_eq (tgt := 223) hC (by decide) dL_isTold_212 (fun c46 => ?_) (fun c46 => ?_)
  · replace h := gq_t c46 h
    refine g_iconst (v := 0) hC (by decide) dL_isTold_223 ?_
    exact g_weak [1, 2, 3, 4, 5, 6, 0] rfl (t_L_isTold_224 hl9 hZ hC hr  x11 x12 x13 x14 s0 0 M h)
  · replace h := gq_f c46 h
    refine g_aload hC 2 rfl dL_isTold_215 ?_
    refine g_iload hC 4 rfl dL_isTold_217 ?_
    obtain ⟨g47, h⟩ := gq_g_i h
    refine g_iald hC arL_121 (gq_in_i g47) dL_isTold_219 ?_
    refine g_topi (fun v48 hv48 => ?_)
    replace h := gq_l_i hv48 h
    refine g_goto (tgt := 224) hC (by decide) dL_isTold_220 ?_
    exact g_weak [1, 2, 3, 4, 5, 6, 0] rfl (t_L_isTold_224 hl9 hZ hC hr  x11 x12 x13 x14 s0 v48 M h)
def f_L_isTold_194 (N : Nat) (x11 : Int32) (x12 : Int32) (x13 : Int32) (s0 : Int32) (M : gq_M) : Option (Int32 × gq_M) :=
  if 100001 ≤ s0 then (f_L_isTold_208 N  x11 x12 x13 s0 0 M) else (f_L_isTold_208 N  x11 x12 x13 s0 1 M)
set_option maxHeartbeats 1000000 in
set_option maxRecDepth 20000 in
theorem t_L_isTold_194 {N : Nat} {v9 : Int32} {M9 : gq_M} (hl9 : l.stackTraces = false) (hZ : gq_Zn A s) (hC : gq_C p s m args meth c D A cI cZ ad mtL RL cL_isTold 23) (hr : meth.sig.returnType = (some .boolean))   : ∀ (x11 : Int32) (x12 : Int32) (x13 : Int32) (s0 : Int32) (M : gq_M), f_L_isTold_194 N  x11 x12 x13 s0 M = some (v9, M9) → gq_W p l e (gq_rl 10 1 6) s m args below meth c D A cI cZ ad mtL 23 (gq_NQ below D cI cZ ad mtL v9 M9 args s 1 6 A) 194 [(0, .ref (ad 0)), (8, .ref (ad 121)), (11, .int x11), (12, .int x12), (13, .int x13)] [.int s0] M 0 0 := by
  intro x11 x12 x13 s0 M h
  unfold f_L_isTold_194 at h
  refine g_istore (L2 := [(14, .int s0), (0, .ref (ad 0)), (8, .ref (ad 121)), (11, .int x11), (12, .int x12), (13, .int x13)]) hC (by decide) rfl dL_isTold_194 ?_
  refine g_iload hC 0 rfl dL_isTold_196 ?_
  refine g_ldc (v := 100001) hC wk_L_188 dL_isTold_198 ?_
  refine g_icmp_ge (tgt := 207) hC (by decide) dL_isTold_200 (fun c45 => ?_) (fun c45 => ?_)
  · replace h := gq_t c45 h
    refine g_iconst (v := 0) hC (by decide) dL_isTold_207 ?_
    exact g_weak [1, 2, 3, 4, 5, 0] rfl (t_L_isTold_208 hl9 hZ hC hr  x11 x12 x13 s0 0 M h)
  · replace h := gq_f c45 h
    refine g_iconst (v := 1) hC (by decide) dL_isTold_203 ?_
    refine g_goto (tgt := 208) hC (by decide) dL_isTold_204 ?_
    exact g_weak [1, 2, 3, 4, 5, 0] rfl (t_L_isTold_208 hl9 hZ hC hr  x11 x12 x13 s0 1 M h)
def f_L_isTold_161 (N : Nat) (s0 : Int32) (M : gq_M) : Option (Int32 × gq_M) :=
  gq_g (gq_bb s0) (some (s0, M))
set_option maxHeartbeats 1000000 in
set_option maxRecDepth 20000 in
theorem t_L_isTold_161 {N : Nat} {v9 : Int32} {M9 : gq_M} (hl9 : l.stackTraces = false) (hZ : gq_Zn A s) (hC : gq_C p s m args meth c D A cI cZ ad mtL RL cL_isTold 23) (hr : meth.sig.returnType = (some .boolean))   : ∀ (s0 : Int32) (M : gq_M), f_L_isTold_161 N  s0 M = some (v9, M9) → gq_W p l e (gq_rl 10 1 6) s m args below meth c D A cI cZ ad mtL 23 (gq_NQ below D cI cZ ad mtL v9 M9 args s 1 6 A) 161 [] [.int s0] M 1 6 := by
  intro s0 M h
  unfold f_L_isTold_161 at h
  obtain ⟨g44, h⟩ := gq_g_i h
  exact g_zretsN hC (by decide) (by decide) hr (gq_bb_i g44) h dL_isTold_161
def f_L_isTold_153 (N : Nat) (s0 : Int32) (s1 : Int32) (M : gq_M) : Option (Int32 × gq_M) :=
  if s0 = s1 then (f_L_isTold_161 N  1 M) else (f_L_isTold_161 N  0 M)
set_option maxHeartbeats 1000000 in
set_option maxRecDepth 20000 in
theorem t_L_isTold_153 {N : Nat} {v9 : Int32} {M9 : gq_M} (hl9 : l.stackTraces = false) (hZ : gq_Zn A s) (hC : gq_C p s m args meth c D A cI cZ ad mtL RL cL_isTold 23) (hr : meth.sig.returnType = (some .boolean))   : ∀ (s0 : Int32) (s1 : Int32) (M : gq_M), f_L_isTold_153 N  s0 s1 M = some (v9, M9) → gq_W p l e (gq_rl 10 1 6) s m args below meth c D A cI cZ ad mtL 23 (gq_NQ below D cI cZ ad mtL v9 M9 args s 1 6 A) 153 [] [.int s1, .int s0] M 1 6 := by
  intro s0 s1 M h
  unfold f_L_isTold_153 at h
  refine g_icmp_ne (tgt := 160) hC (by decide) dL_isTold_153 (fun c43 => ?_) (fun c43 => ?_)
  · replace h := gq_f c43 h
    refine g_iconst (v := 0) hC (by decide) dL_isTold_160 ?_
    exact g_weak [] rfl (t_L_isTold_161 hl9 hZ hC hr  0 M h)
  · replace h := gq_t c43 h
    refine g_iconst (v := 1) hC (by decide) dL_isTold_156 ?_
    refine g_goto (tgt := 161) hC (by decide) dL_isTold_157 ?_
    exact g_weak [] rfl (t_L_isTold_161 hl9 hZ hC hr  1 M h)
def f_L_isTold_117 (N : Nat) (x12 : Int32) (x13 : Int32) (x14 : Int32) (x15 : Int32) (x16 : Int32) (x17 : Int32) (M : gq_M) : Option (Int32 × gq_M) :=
  gq_b (f_L_does N 0 x12 x14 x15 0 0 0 M) fun v38 M40 => if x13 = 0 then (f_L_isTold_153 N  v38 (-300000000) M40) else (if x16 = 0 then (f_L_isTold_153 N  v38 (-200000000) M40) else (f_L_isTold_153 N  v38 x17 M40))
set_option maxHeartbeats 1000000 in
set_option maxRecDepth 20000 in
theorem t_L_isTold_117 {N : Nat} {v9 : Int32} {M9 : gq_M} (hl9 : l.stackTraces = false) (hZ : gq_Zn A s) (hC : gq_C p s m args meth c D A cI cZ ad mtL RL cL_isTold 23) (hr : meth.sig.returnType = (some .boolean))   : ∀ (x12 : Int32) (x13 : Int32) (x14 : Int32) (x15 : Int32) (x16 : Int32) (x17 : Int32) (M : gq_M), f_L_isTold_117 N  x12 x13 x14 x15 x16 x17 M = some (v9, M9) → gq_W p l e (gq_rl 10 1 6) s m args below meth c D A cI cZ ad mtL 23 (gq_NQ below D cI cZ ad mtL v9 M9 args s 1 6 A) 117 [(0, .ref (ad 0)), (12, .int x12), (13, .int x13), (14, .int x14), (15, .int x15), (16, .int x16), (17, .int x17)] [] M 0 0 := by
  intro x12 x13 x14 x15 x16 x17 M h
  unfold f_L_isTold_117 at h
  refine g_aload_n hC 0 rfl rfl dL_isTold_117 ?_
  refine g_iconst (v := 0) hC (by decide) dL_isTold_118 ?_
  refine g_iload hC 1 rfl dL_isTold_119 ?_
  refine g_iload hC 3 rfl dL_isTold_121 ?_
  refine g_iload hC 4 rfl dL_isTold_123 ?_
  refine g_iconst (v := 0) hC (by decide) dL_isTold_125 ?_
  refine g_iconst (v := 0) hC (by decide) dL_isTold_126 ?_
  refine g_iconst (v := 0) hC (by decide) dL_isTold_127 ?_
  obtain ⟨v38, M40, c39, h⟩ := gq_b_i h
  refine g_LNH (as := [.ref (ad 0), .int 0, .int x12, .int x14, .int x15, .int 0, .int 0, .int 0]) hC hZ (t_L_does hl9 N _ _ _ _ _ _ _ _ _ _ c39) mH_L_does wm_L_183 rfl rfl (Nat.le_of_ble_eq_true rfl) ⟨Nat.le_of_ble_eq_true rfl, Nat.le_of_ble_eq_true rfl⟩ ⟨Nat.le_of_ble_eq_true rfl, Nat.le_of_ble_eq_true rfl⟩ dL_isTold_128 ?_
  refine g_iload hC 2 rfl dL_isTold_131 ?_
  refine g_if_ne (tgt := 141) hC (by decide) dL_isTold_133 (fun c41 => ?_) (fun c41 => ?_)
  · replace h := gq_f c41 h
    refine g_iload hC 5 rfl dL_isTold_141 ?_
    refine g_if_eq (tgt := 151) hC (by decide) dL_isTold_143 (fun c42 => ?_) (fun c42 => ?_)
    · replace h := gq_t c42 h
      refine g_ldc (v := (-200000000)) hC wk_L_87 dL_isTold_151 ?_
      exact g_weak [] rfl (t_L_isTold_153 hl9 hZ hC hr  v38 (-200000000) M40 h)
    · replace h := gq_f c42 h
      refine g_iload hC 6 rfl dL_isTold_146 ?_
      refine g_goto (tgt := 153) hC (by decide) dL_isTold_148 ?_
      exact g_weak [] rfl (t_L_isTold_153 hl9 hZ hC hr  v38 x17 M40 h)
  · replace h := gq_t c41 h
    refine g_ldc (v := (-300000000)) hC wk_L_84 dL_isTold_136 ?_
    refine g_goto (tgt := 153) hC (by decide) dL_isTold_138 ?_
    exact g_weak [] rfl (t_L_isTold_153 hl9 hZ hC hr  v38 (-300000000) M40 h)
def f_L_isTold_93 (N : Nat) (x12 : Int32) (x13 : Int32) (x14 : Int32) (x15 : Int32) (x16 : Int32) (s0 : Int32) (M : gq_M) : Option (Int32 × gq_M) :=
  if x13 = 0 then (f_L_isTold_117 N  x12 x13 x14 x15 x16 s0 M) else (if x16 = 0 then (f_L_isTold_117 N  x12 x13 x14 x15 x16 s0 M) else (gq_g (gq_in ((4 * x12) + x14) 64) (gq_l (gq_up M 120 (((4 * x12) + x14) : Int32).toNatClampNeg x15) fun M37 => f_L_isTold_117 N  x12 x13 x14 x15 x16 s0 M37)))
set_option maxHeartbeats 1000000 in
set_option maxRecDepth 20000 in
theorem t_L_isTold_93 {N : Nat} {v9 : Int32} {M9 : gq_M} (hl9 : l.stackTraces = false) (hZ : gq_Zn A s) (hC : gq_C p s m args meth c D A cI cZ ad mtL RL cL_isTold 23) (hr : meth.sig.returnType = (some .boolean))   : ∀ (x12 : Int32) (x13 : Int32) (x14 : Int32) (x15 : Int32) (x16 : Int32) (s0 : Int32) (M : gq_M), f_L_isTold_93 N  x12 x13 x14 x15 x16 s0 M = some (v9, M9) → gq_W p l e (gq_rl 10 1 6) s m args below meth c D A cI cZ ad mtL 23 (gq_NQ below D cI cZ ad mtL v9 M9 args s 1 6 A) 93 [(0, .ref (ad 0)), (7, .ref (ad 120)), (12, .int x12), (13, .int x13), (14, .int x14), (15, .int x15), (16, .int x16)] [.int s0] M 0 0 := by
  intro x12 x13 x14 x15 x16 s0 M h
  unfold f_L_isTold_93 at h
  refine g_istore (L2 := [(17, .int s0), (0, .ref (ad 0)), (7, .ref (ad 120)), (12, .int x12), (13, .int x13), (14, .int x14), (15, .int x15), (16, .int x16)]) hC (by decide) rfl dL_isTold_93 ?_
  refine g_iload hC 4 rfl dL_isTold_95 ?_
  refine g_if_eq (tgt := 117) hC (by decide) dL_isTold_97 (fun c34 => ?_) (fun c34 => ?_)
  · replace h := gq_t c34 h
    exact g_weak [1, 3, 4, 5, 6, 7, 0] rfl (t_L_isTold_117 hl9 hZ hC hr  x12 x13 x14 x15 x16 s0 M h)
  · replace h := gq_f c34 h
    refine g_iload hC 7 rfl dL_isTold_100 ?_
    refine g_if_eq (tgt := 117) hC (by decide) dL_isTold_102 (fun c35 => ?_) (fun c35 => ?_)
    · replace h := gq_t c35 h
      exact g_weak [1, 3, 4, 5, 6, 7, 0] rfl (t_L_isTold_117 hl9 hZ hC hr  x12 x13 x14 x15 x16 s0 M h)
    · replace h := gq_f c35 h
      refine g_aload hC 2 rfl dL_isTold_105 ?_
      refine g_iconst (v := 4) hC (by decide) dL_isTold_107 ?_
      refine g_iload hC 3 rfl dL_isTold_108 ?_
      refine g_imul hC dL_isTold_110 ?_
      refine g_iload hC 5 rfl dL_isTold_111 ?_
      refine g_iadd hC dL_isTold_113 ?_
      refine g_iload hC 6 rfl dL_isTold_114 ?_
      obtain ⟨g36, h⟩ := gq_g_i h
      refine g_iast hC arL_120 (gq_in_i g36) dL_isTold_116 ?_
      refine g_topM (fun M37 hM37 => ?_)
      replace h := gq_l_i hM37 h
      exact g_weak [1, 3, 4, 5, 6, 7, 0] rfl (t_L_isTold_117 hl9 hZ hC hr  x12 x13 x14 x15 x16 s0 M37 h)
def f_L_isTold_72 (N : Nat) (x12 : Int32) (x13 : Int32) (x14 : Int32) (x15 : Int32) (s0 : Int32) (M : gq_M) : Option (Int32 × gq_M) :=
  if x13 = 0 then (f_L_isTold_93 N  x12 x13 x14 x15 s0 0 M) else (gq_g (gq_in ((4 * x12) + x14) 64) (gq_l (M 120 (((4 * x12) + x14) : Int32).toNatClampNeg) fun v33 => f_L_isTold_93 N  x12 x13 x14 x15 s0 v33 M))
set_option maxHeartbeats 1000000 in
set_option maxRecDepth 20000 in
theorem t_L_isTold_72 {N : Nat} {v9 : Int32} {M9 : gq_M} (hl9 : l.stackTraces = false) (hZ : gq_Zn A s) (hC : gq_C p s m args meth c D A cI cZ ad mtL RL cL_isTold 23) (hr : meth.sig.returnType = (some .boolean))   : ∀ (x12 : Int32) (x13 : Int32) (x14 : Int32) (x15 : Int32) (s0 : Int32) (M : gq_M), f_L_isTold_72 N  x12 x13 x14 x15 s0 M = some (v9, M9) → gq_W p l e (gq_rl 10 1 6) s m args below meth c D A cI cZ ad mtL 23 (gq_NQ below D cI cZ ad mtL v9 M9 args s 1 6 A) 72 [(0, .ref (ad 0)), (7, .ref (ad 120)), (12, .int x12), (13, .int x13), (14, .int x14), (15, .int x15)] [.int s0] M 0 0 := by
  intro x12 x13 x14 x15 s0 M h
  unfold f_L_isTold_72 at h
  refine g_istore (L2 := [(16, .int s0), (0, .ref (ad 0)), (7, .ref (ad 120)), (12, .int x12), (13, .int x13), (14, .int x14), (15, .int x15)]) hC (by decide) rfl dL_isTold_72 ?_
  refine g_iload hC 4 rfl dL_isTold_74 ?_
  refine g_if_eq (tgt := 92) hC (by decide) dL_isTold_76 (fun c31 => ?_) (fun c31 => ?_)
  · replace h := gq_t c31 h
    refine g_iconst (v := 0) hC (by decide) dL_isTold_92 ?_
    exact g_weak [1, 2, 3, 4, 5, 6, 0] rfl (t_L_isTold_93 hl9 hZ hC hr  x12 x13 x14 x15 s0 0 M h)
  · replace h := gq_f c31 h
    refine g_aload hC 2 rfl dL_isTold_79 ?_
    refine g_iconst (v := 4) hC (by decide) dL_isTold_81 ?_
    refine g_iload hC 3 rfl dL_isTold_82 ?_
    refine g_imul hC dL_isTold_84 ?_
    refine g_iload hC 5 rfl dL_isTold_85 ?_
    refine g_iadd hC dL_isTold_87 ?_
    obtain ⟨g32, h⟩ := gq_g_i h
    refine g_iald hC arL_120 (gq_in_i g32) dL_isTold_88 ?_
    refine g_topi (fun v33 hv33 => ?_)
    replace h := gq_l_i hv33 h
    refine g_goto (tgt := 93) hC (by decide) dL_isTold_89 ?_
    exact g_weak [1, 2, 3, 4, 5, 6, 0] rfl (t_L_isTold_93 hl9 hZ hC hr  x12 x13 x14 x15 s0 v33 M h)
def f_L_isTold_58 (N : Nat) (x12 : Int32) (x13 : Int32) (x14 : Int32) (s0 : Int32) (M : gq_M) : Option (Int32 × gq_M) :=
  if 100001 ≤ s0 then (f_L_isTold_72 N  x12 x13 x14 s0 0 M) else (f_L_isTold_72 N  x12 x13 x14 s0 1 M)
set_option maxHeartbeats 1000000 in
set_option maxRecDepth 20000 in
theorem t_L_isTold_58 {N : Nat} {v9 : Int32} {M9 : gq_M} (hl9 : l.stackTraces = false) (hZ : gq_Zn A s) (hC : gq_C p s m args meth c D A cI cZ ad mtL RL cL_isTold 23) (hr : meth.sig.returnType = (some .boolean))   : ∀ (x12 : Int32) (x13 : Int32) (x14 : Int32) (s0 : Int32) (M : gq_M), f_L_isTold_58 N  x12 x13 x14 s0 M = some (v9, M9) → gq_W p l e (gq_rl 10 1 6) s m args below meth c D A cI cZ ad mtL 23 (gq_NQ below D cI cZ ad mtL v9 M9 args s 1 6 A) 58 [(0, .ref (ad 0)), (7, .ref (ad 120)), (12, .int x12), (13, .int x13), (14, .int x14)] [.int s0] M 0 0 := by
  intro x12 x13 x14 s0 M h
  unfold f_L_isTold_58 at h
  refine g_istore (L2 := [(15, .int s0), (0, .ref (ad 0)), (7, .ref (ad 120)), (12, .int x12), (13, .int x13), (14, .int x14)]) hC (by decide) rfl dL_isTold_58 ?_
  refine g_iload hC 0 rfl dL_isTold_60 ?_
  refine g_ldc (v := 100001) hC wk_L_188 dL_isTold_62 ?_
  refine g_icmp_ge (tgt := 71) hC (by decide) dL_isTold_64 (fun c30 => ?_) (fun c30 => ?_)
  · replace h := gq_t c30 h
    refine g_iconst (v := 0) hC (by decide) dL_isTold_71 ?_
    exact g_weak [1, 2, 3, 4, 5, 0] rfl (t_L_isTold_72 hl9 hZ hC hr  x12 x13 x14 s0 0 M h)
  · replace h := gq_f c30 h
    refine g_iconst (v := 1) hC (by decide) dL_isTold_67 ?_
    refine g_goto (tgt := 72) hC (by decide) dL_isTold_68 ?_
    exact g_weak [1, 2, 3, 4, 5, 0] rfl (t_L_isTold_72 hl9 hZ hC hr  x12 x13 x14 s0 1 M h)
def f_L_isTold_19 (N : Nat) (x9 : Int32) (x10 : Int32) (x11 : Int32) (x12 : Int32) (s0 : Int32) (M : gq_M) : Option (Int32 × gq_M) :=
  if x9 = 0 then (if ((x11 / 4) - (x11 / 4) / 3 * 3) = 0 then (f_L_isTold_58 N  x12 s0 (x11 - x11 / 4 * 4) ((x11 * 2) - (x11 * 2) / 100002 * 100002) M) else (f_L_isTold_58 N  x12 s0 (x11 - x11 / 4 * 4) ((x11 / 4) - (x11 / 4) / 120 * 120) M)) else (if x9 = 1 then (if ((x11 / 2) - (x11 / 2) / 3 * 3) = 0 then (f_L_isTold_194 N  x11 x12 s0 ((x11 * 2) - (x11 * 2) / 100002 * 100002) M) else (f_L_isTold_194 N  x11 x12 s0 ((x11 / 2) - (x11 / 2) / 90 * 90) M)) else (if x9 = 2 then (if (x11 - x11 / 5 * 5) = 0 then (f_L_isTold_339 N  x10 x11 (x10 - x10 / 5 * 5) (x11 - x11 / 10002 * 10002) M) else (f_L_isTold_339 N  x10 x11 (x10 - x10 / 5 * 5) (100 + (x11 - x11 / 200 * 200)) M)) else (if x9 = 3 then (if (x11 - x11 / 5 * 5) = 0 then (f_L_isTold_556 N  (x10 - x10 / 4 * 4) (x11 - x11 / 502 * 502) M) else (f_L_isTold_556 N  (x10 - x10 / 4 * 4) (1 + (x11 - x11 / 20 * 20)) M)) else (if x9 = 4 then (if (x11 - x11 / 4 * 4) = 0 then (f_L_isTold_701 N  x10 x12 s0 (x11 * 1700) M) else (f_L_isTold_701 N  x10 x12 s0 (x11 - x11 / 30000 * 30000) M)) else (if x9 = 5 then (if (x11 - x11 / 3 * 3) ≤ 0 then (f_L_isTold_879 N  (x10 - x10 / 4 * 4) 0 M) else (f_L_isTold_879 N  (x10 - x10 / 4 * 4) 1 M)) else (if x9 = 6 then (if s0 = 0 then (f_L_isTold_987 N  x11 x12 s0 0 M) else (gq_g (gq_in (48 + x12) 56) (gq_l (M 119 ((48 + x12) : Int32).toNatClampNeg) fun v23 => f_L_isTold_987 N  x11 x12 s0 v23 M))) else (if x9 = 7 then (gq_g (gq_in 3 56) (gq_l (M 119 (3 : Int32).toNatClampNeg) fun v12 => gq_g (gq_in 3 56) (gq_l (gq_up M 119 (3 : Int32).toNatClampNeg ((x11 * 40009) - x10)) fun M14 => gq_g (gq_in 3 56) (gq_l (M14 119 (3 : Int32).toNatClampNeg) fun v16 => gq_b (f_X9_draw N v16 M14) fun v17 Cv17 => gq_l (mrg 109 Cv17 M14) fun M19 => if v17 = v12 then (f_L_isTold_1107 N  1 M19) else (f_L_isTold_1107 N  0 M19))))) else (if (x11 - x11 / 3 * 3) = 0 then (f_L_isTold_1130 N  x9 x10 x11 x12 s0 (x11 * 1701) M) else (f_L_isTold_1130 N  x9 x10 x11 x12 s0 (x11 - x11 / 4000 * 4000) M)))))))))
set_option maxHeartbeats 1000000 in
set_option maxRecDepth 20000 in
theorem t_L_isTold_19 {N : Nat} {v9 : Int32} {M9 : gq_M} (hl9 : l.stackTraces = false) (hZ : gq_Zn A s) (hC : gq_C p s m args meth c D A cI cZ ad mtL RL cL_isTold 23) (hr : meth.sig.returnType = (some .boolean))   : ∀ (x9 : Int32) (x10 : Int32) (x11 : Int32) (x12 : Int32) (s0 : Int32) (M : gq_M), f_L_isTold_19 N  x9 x10 x11 x12 s0 M = some (v9, M9) → gq_W p l e (gq_rl 10 1 6) s m args below meth c D A cI cZ ad mtL 23 (gq_NQ below D cI cZ ad mtL v9 M9 args s 1 6 A) 19 [(0, .ref (ad 0)), (1, .ref (ad 109)), (2, .ref (ad 110)), (4, .ref (ad 112)), (5, .ref (ad 115)), (6, .ref (ad 119)), (7, .ref (ad 120)), (8, .ref (ad 121)), (9, .int x9), (10, .int x10), (11, .int x11), (12, .int x12)] [.int s0] M 0 0 := by
  intro x9 x10 x11 x12 s0 M h
  unfold f_L_isTold_19 at h
  refine g_istore (L2 := [(13, .int s0), (0, .ref (ad 0)), (1, .ref (ad 109)), (2, .ref (ad 110)), (4, .ref (ad 112)), (5, .ref (ad 115)), (6, .ref (ad 119)), (7, .ref (ad 120)), (8, .ref (ad 121)), (9, .int x9), (10, .int x10), (11, .int x11), (12, .int x12)]) hC (by decide) rfl dL_isTold_19 ?_
  refine g_iload hC 9 rfl dL_isTold_21 ?_
  refine g_if_ne (tgt := 162) hC (by decide) dL_isTold_23 (fun c2 => ?_) (fun c2 => ?_)
  · replace h := gq_f c2 h
    refine g_iload hC 9 rfl dL_isTold_162 ?_
    refine g_iconst (v := 1) hC (by decide) dL_isTold_164 ?_
    refine g_icmp_ne (tgt := 302) hC (by decide) dL_isTold_165 (fun c3 => ?_) (fun c3 => ?_)
    · replace h := gq_f c3 h
      refine g_iload hC 9 rfl dL_isTold_302 ?_
      refine g_iconst (v := 2) hC (by decide) dL_isTold_304 ?_
      refine g_icmp_ne (tgt := 521) hC (by decide) dL_isTold_305 (fun c4 => ?_) (fun c4 => ?_)
      · replace h := gq_f c4 h
        refine g_iload hC 9 rfl dL_isTold_521 ?_
        refine g_iconst (v := 3) hC (by decide) dL_isTold_523 ?_
        refine g_icmp_ne (tgt := 673) hC (by decide) dL_isTold_524 (fun c5 => ?_) (fun c5 => ?_)
        · replace h := gq_f c5 h
          refine g_iload hC 9 rfl dL_isTold_673 ?_
          refine g_iconst (v := 4) hC (by decide) dL_isTold_675 ?_
          refine g_icmp_ne (tgt := 855) hC (by decide) dL_isTold_676 (fun c6 => ?_) (fun c6 => ?_)
          · replace h := gq_f c6 h
            refine g_iload hC 9 rfl dL_isTold_855 ?_
            refine g_iconst (v := 5) hC (by decide) dL_isTold_857 ?_
            refine g_icmp_ne (tgt := 963) hC (by decide) dL_isTold_858 (fun c7 => ?_) (fun c7 => ?_)
            · replace h := gq_f c7 h
              refine g_iload hC 9 rfl dL_isTold_963 ?_
              refine g_bipush (v := 6) hC (by decide) dL_isTold_965 ?_
              refine g_icmp_ne (tgt := 1064) hC (by decide) dL_isTold_967 (fun c8 => ?_) (fun c8 => ?_)
              · replace h := gq_f c8 h
                refine g_iload hC 9 rfl dL_isTold_1064 ?_
                refine g_bipush (v := 7) hC (by decide) dL_isTold_1066 ?_
                refine g_icmp_ne (tgt := 1108) hC (by decide) dL_isTold_1068 (fun c9 => ?_) (fun c9 => ?_)
                · replace h := gq_f c9 h
                  refine g_iload hC 11 rfl dL_isTold_1108 ?_
                  refine g_iconst (v := 3) hC (by decide) dL_isTold_1110 ?_
                  refine g_irem hC (by decide) dL_isTold_1111 ?_
                  refine g_if_ne (tgt := 1124) hC (by decide) dL_isTold_1112 (fun c10 => ?_) (fun c10 => ?_)
                  · replace h := gq_f c10 h
                    refine g_iload hC 11 rfl dL_isTold_1124 ?_
                    refine g_sipush (v := 4000) hC (by decide) dL_isTold_1126 ?_
                    refine g_irem hC (by decide) dL_isTold_1129 ?_
                    exact g_weak [1, 2, 3, 4, 6, 8, 9, 10, 11, 12, 0] rfl (t_L_isTold_1130 hl9 hZ hC hr  x9 x10 x11 x12 s0 (x11 - x11 / 4000 * 4000) M h)
                  · replace h := gq_t c10 h
                    refine g_iload hC 11 rfl dL_isTold_1115 ?_
                    refine g_sipush (v := 1701) hC (by decide) dL_isTold_1117 ?_
                    refine g_imul hC dL_isTold_1120 ?_
                    refine g_goto (tgt := 1130) hC (by decide) dL_isTold_1121 ?_
                    exact g_weak [1, 2, 3, 4, 6, 8, 9, 10, 11, 12, 0] rfl (t_L_isTold_1130 hl9 hZ hC hr  x9 x10 x11 x12 s0 (x11 * 1701) M h)
                · replace h := gq_t c9 h
                  refine g_aload hC 6 rfl dL_isTold_1071 ?_
                  refine g_iconst (v := 3) hC (by decide) dL_isTold_1073 ?_
                  obtain ⟨g11, h⟩ := gq_g_i h
                  refine g_iald hC arL_119 (gq_in_i g11) dL_isTold_1074 ?_
                  refine g_topi (fun v12 hv12 => ?_)
                  replace h := gq_l_i hv12 h
                  refine g_istore (L2 := [(14, .int v12), (13, .int s0), (0, .ref (ad 0)), (1, .ref (ad 109)), (2, .ref (ad 110)), (4, .ref (ad 112)), (5, .ref (ad 115)), (6, .ref (ad 119)), (7, .ref (ad 120)), (8, .ref (ad 121)), (9, .int x9), (10, .int x10), (11, .int x11), (12, .int x12)]) hC (by decide) rfl dL_isTold_1075 ?_
                  refine g_aload hC 7 rfl dL_isTold_1077 ?_
                  refine g_iconst (v := 3) hC (by decide) dL_isTold_1079 ?_
                  refine g_iload hC 12 rfl dL_isTold_1080 ?_
                  refine g_ldc (v := 40009) hC wk_L_190 dL_isTold_1082 ?_
                  refine g_imul hC dL_isTold_1084 ?_
                  refine g_iload hC 11 rfl dL_isTold_1085 ?_
                  refine g_isub hC dL_isTold_1087 ?_
                  obtain ⟨g13, h⟩ := gq_g_i h
                  refine g_iast hC arL_119 (gq_in_i g13) dL_isTold_1088 ?_
                  refine g_topM (fun M14 hM14 => ?_)
                  replace h := gq_l_i hM14 h
                  refine g_aload_n hC 2 rfl rfl dL_isTold_1089 ?_
                  refine g_aload hC 7 rfl dL_isTold_1090 ?_
                  refine g_iconst (v := 3) hC (by decide) dL_isTold_1092 ?_
                  obtain ⟨g15, h⟩ := gq_g_i h
                  refine g_iald hC arL_119 (gq_in_i g15) dL_isTold_1093 ?_
                  refine g_topi (fun v16 hv16 => ?_)
                  replace h := gq_l_i hv16 h
                  obtain ⟨v17, Cv17, c18, h⟩ := gq_b_i h
                  refine g_LVi (mt1 := mtC) (mt2 := mtA) (as := [.int v16]) hC (t_X9_draw N _ _ _ _ c18) mV_X9_draw wm_L_191 obC_0 rfl rfl (Nat.le_of_ble_eq_true rfl) ⟨Nat.le_of_ble_eq_true rfl, Nat.le_of_ble_eq_true rfl⟩ ⟨Nat.le_of_ble_eq_true rfl, Nat.le_of_ble_eq_true rfl⟩ dL_isTold_1094 mtC_len ?_
                  refine g_topM (fun M19 hM19 => ?_)
                  replace h := gq_l_i hM19 h
                  refine g_iload hC 0 rfl dL_isTold_1097 ?_
                  refine g_icmp_ne (tgt := 1106) hC (by decide) dL_isTold_1099 (fun c20 => ?_) (fun c20 => ?_)
                  · replace h := gq_f c20 h
                    refine g_iconst (v := 0) hC (by decide) dL_isTold_1106 ?_
                    exact g_weak [] rfl (t_L_isTold_1107 hl9 hZ hC hr  0 M19 h)
                  · replace h := gq_t c20 h
                    refine g_iconst (v := 1) hC (by decide) dL_isTold_1102 ?_
                    refine g_goto (tgt := 1107) hC (by decide) dL_isTold_1103 ?_
                    exact g_weak [] rfl (t_L_isTold_1107 hl9 hZ hC hr  1 M19 h)
              · replace h := gq_t c8 h
                refine g_iload hC 0 rfl dL_isTold_970 ?_
                refine g_if_eq (tgt := 986) hC (by decide) dL_isTold_972 (fun c21 => ?_) (fun c21 => ?_)
                · replace h := gq_t c21 h
                  refine g_iconst (v := 0) hC (by decide) dL_isTold_986 ?_
                  exact g_weak [1, 6, 11, 12, 0] rfl (t_L_isTold_987 hl9 hZ hC hr  x11 x12 s0 0 M h)
                · replace h := gq_f c21 h
                  refine g_aload hC 6 rfl dL_isTold_975 ?_
                  refine g_bipush (v := 48) hC (by decide) dL_isTold_977 ?_
                  refine g_iload hC 12 rfl dL_isTold_979 ?_
                  refine g_iadd hC dL_isTold_981 ?_
                  obtain ⟨g22, h⟩ := gq_g_i h
                  refine g_iald hC arL_119 (gq_in_i g22) dL_isTold_982 ?_
                  refine g_topi (fun v23 hv23 => ?_)
                  replace h := gq_l_i hv23 h
                  refine g_goto (tgt := 987) hC (by decide) dL_isTold_983 ?_
                  exact g_weak [1, 6, 11, 12, 0] rfl (t_L_isTold_987 hl9 hZ hC hr  x11 x12 s0 v23 M h)
            · replace h := gq_t c7 h
              refine g_iload hC 10 rfl dL_isTold_861 ?_
              refine g_iconst (v := 4) hC (by decide) dL_isTold_863 ?_
              refine g_irem hC (by decide) dL_isTold_864 ?_
              refine g_istore (L2 := [(14, .int (x10 - x10 / 4 * 4)), (13, .int s0), (0, .ref (ad 0)), (1, .ref (ad 109)), (2, .ref (ad 110)), (4, .ref (ad 112)), (5, .ref (ad 115)), (6, .ref (ad 119)), (7, .ref (ad 120)), (8, .ref (ad 121)), (9, .int x9), (10, .int x10), (11, .int x11), (12, .int x12)]) hC (by decide) rfl dL_isTold_865 ?_
              refine g_iload hC 12 rfl dL_isTold_867 ?_
              refine g_iconst (v := 3) hC (by decide) dL_isTold_869 ?_
              refine g_irem hC (by decide) dL_isTold_870 ?_
              refine g_if_le (tgt := 878) hC (by decide) dL_isTold_871 (fun c24 => ?_) (fun c24 => ?_)
              · replace h := gq_t c24 h
                refine g_iconst (v := 0) hC (by decide) dL_isTold_878 ?_
                exact g_weak [2, 6, 0] rfl (t_L_isTold_879 hl9 hZ hC hr  (x10 - x10 / 4 * 4) 0 M h)
              · replace h := gq_f c24 h
                refine g_iconst (v := 1) hC (by decide) dL_isTold_874 ?_
                refine g_goto (tgt := 879) hC (by decide) dL_isTold_875 ?_
                exact g_weak [2, 6, 0] rfl (t_L_isTold_879 hl9 hZ hC hr  (x10 - x10 / 4 * 4) 1 M h)
          · replace h := gq_t c6 h
            refine g_iload hC 11 rfl dL_isTold_679 ?_
            refine g_iconst (v := 4) hC (by decide) dL_isTold_681 ?_
            refine g_irem hC (by decide) dL_isTold_682 ?_
            refine g_if_ne (tgt := 695) hC (by decide) dL_isTold_683 (fun c25 => ?_) (fun c25 => ?_)
            · replace h := gq_f c25 h
              refine g_iload hC 11 rfl dL_isTold_695 ?_
              refine g_sipush (v := 30000) hC (by decide) dL_isTold_697 ?_
              refine g_irem hC (by decide) dL_isTold_700 ?_
              exact g_weak [1, 6, 10, 12, 0] rfl (t_L_isTold_701 hl9 hZ hC hr  x10 x12 s0 (x11 - x11 / 30000 * 30000) M h)
            · replace h := gq_t c25 h
              refine g_iload hC 11 rfl dL_isTold_686 ?_
              refine g_sipush (v := 1700) hC (by decide) dL_isTold_688 ?_
              refine g_imul hC dL_isTold_691 ?_
              refine g_goto (tgt := 701) hC (by decide) dL_isTold_692 ?_
              exact g_weak [1, 6, 10, 12, 0] rfl (t_L_isTold_701 hl9 hZ hC hr  x10 x12 s0 (x11 * 1700) M h)
        · replace h := gq_t c5 h
          refine g_iload hC 10 rfl dL_isTold_527 ?_
          refine g_iconst (v := 4) hC (by decide) dL_isTold_529 ?_
          refine g_irem hC (by decide) dL_isTold_530 ?_
          refine g_istore (L2 := [(14, .int (x10 - x10 / 4 * 4)), (13, .int s0), (0, .ref (ad 0)), (1, .ref (ad 109)), (2, .ref (ad 110)), (4, .ref (ad 112)), (5, .ref (ad 115)), (6, .ref (ad 119)), (7, .ref (ad 120)), (8, .ref (ad 121)), (9, .int x9), (10, .int x10), (11, .int x11), (12, .int x12)]) hC (by decide) rfl dL_isTold_531 ?_
          refine g_iload hC 12 rfl dL_isTold_533 ?_
          refine g_iconst (v := 5) hC (by decide) dL_isTold_535 ?_
          refine g_irem hC (by decide) dL_isTold_536 ?_
          refine g_if_ne (tgt := 549) hC (by decide) dL_isTold_537 (fun c26 => ?_) (fun c26 => ?_)
          · replace h := gq_f c26 h
            refine g_iconst (v := 1) hC (by decide) dL_isTold_549 ?_
            refine g_iload hC 12 rfl dL_isTold_550 ?_
            refine g_bipush (v := 20) hC (by decide) dL_isTold_552 ?_
            refine g_irem hC (by decide) dL_isTold_554 ?_
            refine g_iadd hC dL_isTold_555 ?_
            exact g_weak [2, 6, 0] rfl (t_L_isTold_556 hl9 hZ hC hr  (x10 - x10 / 4 * 4) (1 + (x11 - x11 / 20 * 20)) M h)
          · replace h := gq_t c26 h
            refine g_iload hC 12 rfl dL_isTold_540 ?_
            refine g_sipush (v := 502) hC (by decide) dL_isTold_542 ?_
            refine g_irem hC (by decide) dL_isTold_545 ?_
            refine g_goto (tgt := 556) hC (by decide) dL_isTold_546 ?_
            exact g_weak [2, 6, 0] rfl (t_L_isTold_556 hl9 hZ hC hr  (x10 - x10 / 4 * 4) (x11 - x11 / 502 * 502) M h)
      · replace h := gq_t c4 h
        refine g_iload hC 10 rfl dL_isTold_308 ?_
        refine g_iconst (v := 5) hC (by decide) dL_isTold_310 ?_
        refine g_irem hC (by decide) dL_isTold_311 ?_
        refine g_istore (L2 := [(14, .int (x10 - x10 / 5 * 5)), (13, .int s0), (0, .ref (ad 0)), (1, .ref (ad 109)), (2, .ref (ad 110)), (4, .ref (ad 112)), (5, .ref (ad 115)), (6, .ref (ad 119)), (7, .ref (ad 120)), (8, .ref (ad 121)), (9, .int x9), (10, .int x10), (11, .int x11), (12, .int x12)]) hC (by decide) rfl dL_isTold_312 ?_
        refine g_iload hC 12 rfl dL_isTold_314 ?_
        refine g_iconst (v := 5) hC (by decide) dL_isTold_316 ?_
        refine g_irem hC (by decide) dL_isTold_317 ?_
        refine g_if_ne (tgt := 330) hC (by decide) dL_isTold_318 (fun c27 => ?_) (fun c27 => ?_)
        · replace h := gq_f c27 h
          refine g_bipush (v := 100) hC (by decide) dL_isTold_330 ?_
          refine g_iload hC 12 rfl dL_isTold_332 ?_
          refine g_sipush (v := 200) hC (by decide) dL_isTold_334 ?_
          refine g_irem hC (by decide) dL_isTold_337 ?_
          refine g_iadd hC dL_isTold_338 ?_
          exact g_weak [2, 7, 11, 12, 0] rfl (t_L_isTold_339 hl9 hZ hC hr  x10 x11 (x10 - x10 / 5 * 5) (100 + (x11 - x11 / 200 * 200)) M h)
        · replace h := gq_t c27 h
          refine g_iload hC 12 rfl dL_isTold_321 ?_
          refine g_sipush (v := 10002) hC (by decide) dL_isTold_323 ?_
          refine g_irem hC (by decide) dL_isTold_326 ?_
          refine g_goto (tgt := 339) hC (by decide) dL_isTold_327 ?_
          exact g_weak [2, 7, 11, 12, 0] rfl (t_L_isTold_339 hl9 hZ hC hr  x10 x11 (x10 - x10 / 5 * 5) (x11 - x11 / 10002 * 10002) M h)
    · replace h := gq_t c3 h
      refine g_iload hC 11 rfl dL_isTold_168 ?_
      refine g_iconst (v := 2) hC (by decide) dL_isTold_170 ?_
      refine g_idiv hC (by decide) dL_isTold_171 ?_
      refine g_iconst (v := 3) hC (by decide) dL_isTold_172 ?_
      refine g_irem hC (by decide) dL_isTold_173 ?_
      refine g_if_ne (tgt := 187) hC (by decide) dL_isTold_174 (fun c28 => ?_) (fun c28 => ?_)
      · replace h := gq_f c28 h
        refine g_iload hC 11 rfl dL_isTold_187 ?_
        refine g_iconst (v := 2) hC (by decide) dL_isTold_189 ?_
        refine g_idiv hC (by decide) dL_isTold_190 ?_
        refine g_bipush (v := 90) hC (by decide) dL_isTold_191 ?_
        refine g_irem hC (by decide) dL_isTold_193 ?_
        exact g_weak [1, 8, 11, 12, 0] rfl (t_L_isTold_194 hl9 hZ hC hr  x11 x12 s0 ((x11 / 2) - (x11 / 2) / 90 * 90) M h)
      · replace h := gq_t c28 h
        refine g_iload hC 11 rfl dL_isTold_177 ?_
        refine g_iconst (v := 2) hC (by decide) dL_isTold_179 ?_
        refine g_imul hC dL_isTold_180 ?_
        refine g_ldc (v := 100002) hC wk_L_187 dL_isTold_181 ?_
        refine g_irem hC (by decide) dL_isTold_183 ?_
        refine g_goto (tgt := 194) hC (by decide) dL_isTold_184 ?_
        exact g_weak [1, 8, 11, 12, 0] rfl (t_L_isTold_194 hl9 hZ hC hr  x11 x12 s0 ((x11 * 2) - (x11 * 2) / 100002 * 100002) M h)
  · replace h := gq_t c2 h
    refine g_iload hC 11 rfl dL_isTold_26 ?_
    refine g_iconst (v := 4) hC (by decide) dL_isTold_28 ?_
    refine g_irem hC (by decide) dL_isTold_29 ?_
    refine g_istore (L2 := [(14, .int (x11 - x11 / 4 * 4)), (13, .int s0), (0, .ref (ad 0)), (1, .ref (ad 109)), (2, .ref (ad 110)), (4, .ref (ad 112)), (5, .ref (ad 115)), (6, .ref (ad 119)), (7, .ref (ad 120)), (8, .ref (ad 121)), (9, .int x9), (10, .int x10), (11, .int x11), (12, .int x12)]) hC (by decide) rfl dL_isTold_30 ?_
    refine g_iload hC 12 rfl dL_isTold_32 ?_
    refine g_iconst (v := 4) hC (by decide) dL_isTold_34 ?_
    refine g_idiv hC (by decide) dL_isTold_35 ?_
    refine g_iconst (v := 3) hC (by decide) dL_isTold_36 ?_
    refine g_irem hC (by decide) dL_isTold_37 ?_
    refine g_if_ne (tgt := 51) hC (by decide) dL_isTold_38 (fun c29 => ?_) (fun c29 => ?_)
    · replace h := gq_f c29 h
      refine g_iload hC 12 rfl dL_isTold_51 ?_
      refine g_iconst (v := 4) hC (by decide) dL_isTold_53 ?_
      refine g_idiv hC (by decide) dL_isTold_54 ?_
      refine g_bipush (v := 120) hC (by decide) dL_isTold_55 ?_
      refine g_irem hC (by decide) dL_isTold_57 ?_
      exact g_weak [2, 8, 13, 1, 0] rfl (t_L_isTold_58 hl9 hZ hC hr  x12 s0 (x11 - x11 / 4 * 4) ((x11 / 4) - (x11 / 4) / 120 * 120) M h)
    · replace h := gq_t c29 h
      refine g_iload hC 12 rfl dL_isTold_41 ?_
      refine g_iconst (v := 2) hC (by decide) dL_isTold_43 ?_
      refine g_imul hC dL_isTold_44 ?_
      refine g_ldc (v := 100002) hC wk_L_187 dL_isTold_45 ?_
      refine g_irem hC (by decide) dL_isTold_47 ?_
      refine g_goto (tgt := 58) hC (by decide) dL_isTold_48 ?_
      exact g_weak [2, 8, 13, 1, 0] rfl (t_L_isTold_58 hl9 hZ hC hr  x12 s0 (x11 - x11 / 4 * 4) ((x11 * 2) - (x11 * 2) / 100002 * 100002) M h)
def f_L_isTold (N : Nat) (a9 : Int32) (a10 : Int32) (a11 : Int32) (M : gq_M) : Option (Int32 × gq_M) :=
  if 8 ≤ (a10 - a10 / 9 * 9) then (f_L_isTold_19 N  a9 a10 a11 (a10 - a10 / 9 * 9) 0 M) else (f_L_isTold_19 N  a9 a10 a11 (a10 - a10 / 9 * 9) 1 M)
set_option maxHeartbeats 4000000 in
set_option maxRecDepth 20000 in
theorem t_L_isTold {l : Launch} (hl9 : l.stackTraces = false) {D : va_G} {cI cZ : ClassId} {ad : Nat → Nat} (N : Nat) (a9 : Int32) (a10 : Int32) (a11 : Int32) (M : gq_M) (v9 : Int32) (M9 : gq_M) (h : f_L_isTold N a9 a10 a11 M = some (v9, M9)) : gq_Ni l D cI cZ ad mtL yL_isTold (.code yL_isTold cL_isTold 23 (some .boolean)) 10 1 6 [.ref (ad 0), .ref (ad 109), .ref (ad 110), .ref (ad 111), .ref (ad 112), .ref (ad 115), .ref (ad 119), .ref (ad 120), .ref (ad 121), .int a9, .int a10, .int a11] M v9 M9 := by
  refine gq_introN (own := RL) (by decide) rfl (Nat.le_of_ble_eq_true rfl) ?_
  intro p e s m below meth c hC hr hZ
  refine g_cast (L2 := [(0, .ref (ad 0)), (1, .ref (ad 109)), (2, .ref (ad 110)), (3, .ref (ad 111)), (4, .ref (ad 112)), (5, .ref (ad 115)), (6, .ref (ad 119)), (7, .ref (ad 120)), (8, .ref (ad 121)), (9, .int a9), (10, .int a10), (11, .int a11)]) ?_ rfl rfl rfl rfl
  unfold f_L_isTold at h
  refine g_iload hC 10 rfl dL_isTold_0 ?_
  refine g_bipush (v := 9) hC (by decide) dL_isTold_2 ?_
  refine g_irem hC (by decide) dL_isTold_4 ?_
  refine g_istore (L2 := [(12, .int (a10 - a10 / 9 * 9)), (0, .ref (ad 0)), (1, .ref (ad 109)), (2, .ref (ad 110)), (3, .ref (ad 111)), (4, .ref (ad 112)), (5, .ref (ad 115)), (6, .ref (ad 119)), (7, .ref (ad 120)), (8, .ref (ad 121)), (9, .int a9), (10, .int a10), (11, .int a11)]) hC (by decide) rfl dL_isTold_5 ?_
  refine g_iload hC 0 rfl dL_isTold_7 ?_
  refine g_bipush (v := 8) hC (by decide) dL_isTold_9 ?_
  refine g_icmp_ge (tgt := 18) hC (by decide) dL_isTold_11 (fun c1 => ?_) (fun c1 => ?_)
  · replace h := gq_t c1 h
    refine g_iconst (v := 0) hC (by decide) dL_isTold_18 ?_
    exact g_weak [1, 2, 3, 5, 6, 7, 8, 9, 10, 11, 12, 0] rfl (t_L_isTold_19 hl9 hZ hC hr  a9 a10 a11 (a10 - a10 / 9 * 9) 0 M h)
  · replace h := gq_f c1 h
    refine g_iconst (v := 1) hC (by decide) dL_isTold_14 ?_
    refine g_goto (tgt := 19) hC (by decide) dL_isTold_15 ?_
    exact g_weak [1, 2, 3, 5, 6, 7, 8, 9, 10, 11, 12, 0] rfl (t_L_isTold_19 hl9 hZ hC hr  a9 a10 a11 (a10 - a10 / 9 * 9) 1 M h)
end
