section
variable {p : Program} {l : Launch} {e : Env} {s : State} {m : MethodId} {args : Array Value} {below : List Frame} {meth : Method} {c : Code} {Q : State → Prop} {D : va_G} {A : Nat → Prop} {cI cZ : ClassId} {ad : Nat → Nat}
def f_L_isSale_1470 (N : Nat) (s0 : Int32) (M : gq_M) : Option (Int32 × gq_M) :=
  gq_g (gq_bb s0) (some (s0, M))
set_option maxHeartbeats 1000000 in
set_option maxRecDepth 20000 in
theorem t_L_isSale_1470 {N : Nat} {v9 : Int32} {M9 : gq_M} (hl9 : l.stackTraces = false) (hZ : gq_Zn A s) (hC : gq_C p s m args meth c D A cI cZ ad mtL RL cL_isSale 28) (hr : meth.sig.returnType = (some .boolean))   : ∀ (s0 : Int32) (M : gq_M), f_L_isSale_1470 N  s0 M = some (v9, M9) → gq_W p l e (gq_rl 10 1 6) s m args below meth c D A cI cZ ad mtL 28 (gq_NQ below D cI cZ ad mtL v9 M9 args s 1 6 A) 1470 [] [.int s0] M 1 6 := by
  intro s0 M h
  unfold f_L_isSale_1470 at h
  obtain ⟨g249, h⟩ := gq_g_i h
  exact g_zretsN hC (by decide) (by decide) hr (gq_bb_i g249) h dL_isSale_1470
def f_L_isSale_1462 (N : Nat) (s0 : Int32) (s1 : Int32) (M : gq_M) : Option (Int32 × gq_M) :=
  if s0 = s1 then (f_L_isSale_1470 N  1 M) else (f_L_isSale_1470 N  0 M)
set_option maxHeartbeats 1000000 in
set_option maxRecDepth 20000 in
theorem t_L_isSale_1462 {N : Nat} {v9 : Int32} {M9 : gq_M} (hl9 : l.stackTraces = false) (hZ : gq_Zn A s) (hC : gq_C p s m args meth c D A cI cZ ad mtL RL cL_isSale 28) (hr : meth.sig.returnType = (some .boolean))   : ∀ (s0 : Int32) (s1 : Int32) (M : gq_M), f_L_isSale_1462 N  s0 s1 M = some (v9, M9) → gq_W p l e (gq_rl 10 1 6) s m args below meth c D A cI cZ ad mtL 28 (gq_NQ below D cI cZ ad mtL v9 M9 args s 1 6 A) 1462 [] [.int s1, .int s0] M 1 6 := by
  intro s0 s1 M h
  unfold f_L_isSale_1462 at h
  refine g_icmp_ne (tgt := 1469) hC (by decide) dL_isSale_1462 (fun c248 => ?_) (fun c248 => ?_)
  · replace h := gq_f c248 h
    refine g_iconst (v := 0) hC (by decide) dL_isSale_1469 ?_
    exact g_weak [] rfl (t_L_isSale_1470 hl9 hZ hC hr  0 M h)
  · replace h := gq_t c248 h
    refine g_iconst (v := 1) hC (by decide) dL_isSale_1465 ?_
    refine g_goto (tgt := 1470) hC (by decide) dL_isSale_1466 ?_
    exact g_weak [] rfl (t_L_isSale_1470 hl9 hZ hC hr  1 M h)
def f_L_isSale_1418 (N : Nat) (x18 : Int32) (x22 : Int32) (x23 : Int32) (x25 : Int32) (M : gq_M) : Option (Int32 × gq_M) :=
  gq_b (f_L_does N 12 x18 x22 x23 0 0 0 M) fun v241 M243 => if x18 = 8 then (f_L_isSale_1462 N  v241 (-300000000) M243) else (if x25 = 0 then (f_L_isSale_1462 N  v241 (-200000000) M243) else (gq_g (gq_in 6 56) (gq_l (M243 119 (6 : Int32).toNatClampNeg) fun v247 => f_L_isSale_1462 N  v241 (v247 - 1) M243)))
set_option maxHeartbeats 1000000 in
set_option maxRecDepth 20000 in
theorem t_L_isSale_1418 {N : Nat} {v9 : Int32} {M9 : gq_M} (hl9 : l.stackTraces = false) (hZ : gq_Zn A s) (hC : gq_C p s m args meth c D A cI cZ ad mtL RL cL_isSale 28) (hr : meth.sig.returnType = (some .boolean))   : ∀ (x18 : Int32) (x22 : Int32) (x23 : Int32) (x25 : Int32) (M : gq_M), f_L_isSale_1418 N  x18 x22 x23 x25 M = some (v9, M9) → gq_W p l e (gq_rl 10 1 6) s m args below meth c D A cI cZ ad mtL 28 (gq_NQ below D cI cZ ad mtL v9 M9 args s 1 6 A) 1418 [(0, .ref (ad 0)), (11, .ref (ad 119)), (18, .int x18), (22, .int x22), (23, .int x23), (25, .int x25)] [] M 0 0 := by
  intro x18 x22 x23 x25 M h
  unfold f_L_isSale_1418 at h
  refine g_aload_n hC 0 rfl rfl dL_isSale_1418 ?_
  refine g_bipush (v := 12) hC (by decide) dL_isSale_1419 ?_
  refine g_iload hC 2 rfl dL_isSale_1421 ?_
  refine g_iload hC 3 rfl dL_isSale_1423 ?_
  refine g_iload hC 4 rfl dL_isSale_1425 ?_
  refine g_iconst (v := 0) hC (by decide) dL_isSale_1427 ?_
  refine g_iconst (v := 0) hC (by decide) dL_isSale_1428 ?_
  refine g_iconst (v := 0) hC (by decide) dL_isSale_1429 ?_
  obtain ⟨v241, M243, c242, h⟩ := gq_b_i h
  refine g_LNH (as := [.ref (ad 0), .int 12, .int x18, .int x22, .int x23, .int 0, .int 0, .int 0]) hC hZ (t_L_does hl9 N _ _ _ _ _ _ _ _ _ _ c242) mH_L_does wm_L_183 rfl rfl (Nat.le_of_ble_eq_true rfl) ⟨Nat.le_of_ble_eq_true rfl, Nat.le_of_ble_eq_true rfl⟩ ⟨Nat.le_of_ble_eq_true rfl, Nat.le_of_ble_eq_true rfl⟩ dL_isSale_1430 ?_
  refine g_iload hC 2 rfl dL_isSale_1433 ?_
  refine g_bipush (v := 8) hC (by decide) dL_isSale_1435 ?_
  refine g_icmp_ne (tgt := 1445) hC (by decide) dL_isSale_1437 (fun c244 => ?_) (fun c244 => ?_)
  · replace h := gq_f c244 h
    refine g_iload hC 5 rfl dL_isSale_1445 ?_
    refine g_if_eq (tgt := 1460) hC (by decide) dL_isSale_1447 (fun c245 => ?_) (fun c245 => ?_)
    · replace h := gq_t c245 h
      refine g_ldc (v := (-200000000)) hC wk_L_87 dL_isSale_1460 ?_
      exact g_weak [] rfl (t_L_isSale_1462 hl9 hZ hC hr  v241 (-200000000) M243 h)
    · replace h := gq_f c245 h
      refine g_aload hC 1 rfl dL_isSale_1450 ?_
      refine g_bipush (v := 6) hC (by decide) dL_isSale_1452 ?_
      obtain ⟨g246, h⟩ := gq_g_i h
      refine g_iald hC arL_119 (gq_in_i g246) dL_isSale_1454 ?_
      refine g_topi (fun v247 hv247 => ?_)
      replace h := gq_l_i hv247 h
      refine g_iconst (v := 1) hC (by decide) dL_isSale_1455 ?_
      refine g_isub hC dL_isSale_1456 ?_
      refine g_goto (tgt := 1462) hC (by decide) dL_isSale_1457 ?_
      exact g_weak [] rfl (t_L_isSale_1462 hl9 hZ hC hr  v241 (v247 - 1) M243 h)
  · replace h := gq_t c244 h
    refine g_ldc (v := (-300000000)) hC wk_L_84 dL_isSale_1440 ?_
    refine g_goto (tgt := 1462) hC (by decide) dL_isSale_1442 ?_
    exact g_weak [] rfl (t_L_isSale_1462 hl9 hZ hC hr  v241 (-300000000) M243 h)
def f_L_isSale_1349 (N : Nat) (x18 : Int32) (x22 : Int32) (x23 : Int32) (s0 : Int32) (M : gq_M) : Option (Int32 × gq_M) :=
  if s0 = 0 then (f_L_isSale_1418 N  x18 x22 x23 s0 M) else (gq_g (gq_in 6 56) (gq_l (M 119 (6 : Int32).toNatClampNeg) fun v222 => gq_g (gq_in (4 * v222) 40) (gq_l (gq_up M 122 ((4 * v222) : Int32).toNatClampNeg x18) fun M224 => gq_g (gq_in 6 56) (gq_l (M224 119 (6 : Int32).toNatClampNeg) fun v226 => gq_g (gq_in ((4 * v226) + 1) 40) (gq_l (gq_up M224 122 (((4 * v226) + 1) : Int32).toNatClampNeg x22) fun M228 => gq_g (gq_in 6 56) (gq_l (M228 119 (6 : Int32).toNatClampNeg) fun v230 => gq_g (gq_in ((4 * v230) + 2) 40) (gq_l (gq_up M228 122 (((4 * v230) + 2) : Int32).toNatClampNeg x23) fun M232 => gq_g (gq_in 6 56) (gq_l (M232 119 (6 : Int32).toNatClampNeg) fun v234 => gq_g (gq_in ((4 * v234) + 3) 40) (gq_l (gq_up M232 122 (((4 * v234) + 3) : Int32).toNatClampNeg (-1)) fun M236 => gq_g (gq_in 6 56) (gq_l (M236 119 (6 : Int32).toNatClampNeg) fun v238 => gq_g (gq_in 6 56) (gq_l (gq_up M236 119 (6 : Int32).toNatClampNeg (v238 + 1)) fun M240 => f_L_isSale_1418 N  x18 x22 x23 s0 M240)))))))))))
set_option maxHeartbeats 1000000 in
set_option maxRecDepth 20000 in
theorem t_L_isSale_1349 {N : Nat} {v9 : Int32} {M9 : gq_M} (hl9 : l.stackTraces = false) (hZ : gq_Zn A s) (hC : gq_C p s m args meth c D A cI cZ ad mtL RL cL_isSale 28) (hr : meth.sig.returnType = (some .boolean))   : ∀ (x18 : Int32) (x22 : Int32) (x23 : Int32) (s0 : Int32) (M : gq_M), f_L_isSale_1349 N  x18 x22 x23 s0 M = some (v9, M9) → gq_W p l e (gq_rl 10 1 6) s m args below meth c D A cI cZ ad mtL 28 (gq_NQ below D cI cZ ad mtL v9 M9 args s 1 6 A) 1349 [(0, .ref (ad 0)), (11, .ref (ad 119)), (14, .ref (ad 122)), (18, .int x18), (22, .int x22), (23, .int x23)] [.int s0] M 0 0 := by
  intro x18 x22 x23 s0 M h
  unfold f_L_isSale_1349 at h
  refine g_istore (L2 := [(25, .int s0), (0, .ref (ad 0)), (11, .ref (ad 119)), (14, .ref (ad 122)), (18, .int x18), (22, .int x22), (23, .int x23)]) hC (by decide) rfl dL_isSale_1349 ?_
  refine g_iload hC 0 rfl dL_isSale_1351 ?_
  refine g_if_eq (tgt := 1418) hC (by decide) dL_isSale_1353 (fun c220 => ?_) (fun c220 => ?_)
  · replace h := gq_t c220 h
    exact g_weak [1, 2, 4, 5, 6, 0] rfl (t_L_isSale_1418 hl9 hZ hC hr  x18 x22 x23 s0 M h)
  · replace h := gq_f c220 h
    refine g_aload hC 3 rfl dL_isSale_1356 ?_
    refine g_iconst (v := 4) hC (by decide) dL_isSale_1358 ?_
    refine g_aload hC 2 rfl dL_isSale_1359 ?_
    refine g_bipush (v := 6) hC (by decide) dL_isSale_1361 ?_
    obtain ⟨g221, h⟩ := gq_g_i h
    refine g_iald hC arL_119 (gq_in_i g221) dL_isSale_1363 ?_
    refine g_topi (fun v222 hv222 => ?_)
    replace h := gq_l_i hv222 h
    refine g_imul hC dL_isSale_1364 ?_
    refine g_iload hC 4 rfl dL_isSale_1365 ?_
    obtain ⟨g223, h⟩ := gq_g_i h
    refine g_iast hC arL_122 (gq_in_i g223) dL_isSale_1367 ?_
    refine g_topM (fun M224 hM224 => ?_)
    replace h := gq_l_i hM224 h
    refine g_aload hC 3 rfl dL_isSale_1368 ?_
    refine g_iconst (v := 4) hC (by decide) dL_isSale_1370 ?_
    refine g_aload hC 2 rfl dL_isSale_1371 ?_
    refine g_bipush (v := 6) hC (by decide) dL_isSale_1373 ?_
    obtain ⟨g225, h⟩ := gq_g_i h
    refine g_iald hC arL_119 (gq_in_i g225) dL_isSale_1375 ?_
    refine g_topi (fun v226 hv226 => ?_)
    replace h := gq_l_i hv226 h
    refine g_imul hC dL_isSale_1376 ?_
    refine g_iconst (v := 1) hC (by decide) dL_isSale_1377 ?_
    refine g_iadd hC dL_isSale_1378 ?_
    refine g_iload hC 5 rfl dL_isSale_1379 ?_
    obtain ⟨g227, h⟩ := gq_g_i h
    refine g_iast hC arL_122 (gq_in_i g227) dL_isSale_1381 ?_
    refine g_topM (fun M228 hM228 => ?_)
    replace h := gq_l_i hM228 h
    refine g_aload hC 3 rfl dL_isSale_1382 ?_
    refine g_iconst (v := 4) hC (by decide) dL_isSale_1384 ?_
    refine g_aload hC 2 rfl dL_isSale_1385 ?_
    refine g_bipush (v := 6) hC (by decide) dL_isSale_1387 ?_
    obtain ⟨g229, h⟩ := gq_g_i h
    refine g_iald hC arL_119 (gq_in_i g229) dL_isSale_1389 ?_
    refine g_topi (fun v230 hv230 => ?_)
    replace h := gq_l_i hv230 h
    refine g_imul hC dL_isSale_1390 ?_
    refine g_iconst (v := 2) hC (by decide) dL_isSale_1391 ?_
    refine g_iadd hC dL_isSale_1392 ?_
    refine g_iload hC 6 rfl dL_isSale_1393 ?_
    obtain ⟨g231, h⟩ := gq_g_i h
    refine g_iast hC arL_122 (gq_in_i g231) dL_isSale_1395 ?_
    refine g_topM (fun M232 hM232 => ?_)
    replace h := gq_l_i hM232 h
    refine g_aload hC 3 rfl dL_isSale_1396 ?_
    refine g_iconst (v := 4) hC (by decide) dL_isSale_1398 ?_
    refine g_aload hC 2 rfl dL_isSale_1399 ?_
    refine g_bipush (v := 6) hC (by decide) dL_isSale_1401 ?_
    obtain ⟨g233, h⟩ := gq_g_i h
    refine g_iald hC arL_119 (gq_in_i g233) dL_isSale_1403 ?_
    refine g_topi (fun v234 hv234 => ?_)
    replace h := gq_l_i hv234 h
    refine g_imul hC dL_isSale_1404 ?_
    refine g_iconst (v := 3) hC (by decide) dL_isSale_1405 ?_
    refine g_iadd hC dL_isSale_1406 ?_
    refine g_iconst (v := (-1)) hC (by decide) dL_isSale_1407 ?_
    obtain ⟨g235, h⟩ := gq_g_i h
    refine g_iast hC arL_122 (gq_in_i g235) dL_isSale_1408 ?_
    refine g_topM (fun M236 hM236 => ?_)
    replace h := gq_l_i hM236 h
    refine g_aload hC 2 rfl dL_isSale_1409 ?_
    refine g_bipush (v := 6) hC (by decide) dL_isSale_1411 ?_
    refine g_dup2 hC rfl rfl dL_isSale_1413 ?_
    obtain ⟨g237, h⟩ := gq_g_i h
    refine g_iald hC arL_119 (gq_in_i g237) dL_isSale_1414 ?_
    refine g_topi (fun v238 hv238 => ?_)
    replace h := gq_l_i hv238 h
    refine g_iconst (v := 1) hC (by decide) dL_isSale_1415 ?_
    refine g_iadd hC dL_isSale_1416 ?_
    obtain ⟨g239, h⟩ := gq_g_i h
    refine g_iast hC arL_119 (gq_in_i g239) dL_isSale_1417 ?_
    refine g_topM (fun M240 hM240 => ?_)
    replace h := gq_l_i hM240 h
    exact g_weak [1, 2, 4, 5, 6, 0] rfl (t_L_isSale_1418 hl9 hZ hC hr  x18 x22 x23 s0 M240 h)
def f_L_isSale_1348 (N : Nat) (x18 : Int32) (x22 : Int32) (x23 : Int32) (M : gq_M) : Option (Int32 × gq_M) :=
  f_L_isSale_1349 N  x18 x22 x23 0 M
set_option maxHeartbeats 1000000 in
set_option maxRecDepth 20000 in
theorem t_L_isSale_1348 {N : Nat} {v9 : Int32} {M9 : gq_M} (hl9 : l.stackTraces = false) (hZ : gq_Zn A s) (hC : gq_C p s m args meth c D A cI cZ ad mtL RL cL_isSale 28) (hr : meth.sig.returnType = (some .boolean))   : ∀ (x18 : Int32) (x22 : Int32) (x23 : Int32) (M : gq_M), f_L_isSale_1348 N  x18 x22 x23 M = some (v9, M9) → gq_W p l e (gq_rl 10 1 6) s m args below meth c D A cI cZ ad mtL 28 (gq_NQ below D cI cZ ad mtL v9 M9 args s 1 6 A) 1348 [(0, .ref (ad 0)), (11, .ref (ad 119)), (14, .ref (ad 122)), (18, .int x18), (22, .int x22), (23, .int x23)] [] M 0 0 := by
  intro x18 x22 x23 M h
  unfold f_L_isSale_1348 at h
  refine g_iconst (v := 0) hC (by decide) dL_isSale_1348 ?_
  exact g_weak [0, 1, 2, 3, 4, 5] rfl (t_L_isSale_1349 hl9 hZ hC hr  x18 x22 x23 0 M h)
def f_L_isSale_1330 (N : Nat) (x18 : Int32) (x22 : Int32) (x23 : Int32) (s0 : Int32) (M : gq_M) : Option (Int32 × gq_M) :=
  if 8 ≤ x18 then (f_L_isSale_1348 N  x18 x22 x23 M) else (if s0 = 0 then (f_L_isSale_1348 N  x18 x22 x23 M) else (f_L_isSale_1349 N  x18 x22 x23 1 M))
set_option maxHeartbeats 1000000 in
set_option maxRecDepth 20000 in
theorem t_L_isSale_1330 {N : Nat} {v9 : Int32} {M9 : gq_M} (hl9 : l.stackTraces = false) (hZ : gq_Zn A s) (hC : gq_C p s m args meth c D A cI cZ ad mtL RL cL_isSale 28) (hr : meth.sig.returnType = (some .boolean))   : ∀ (x18 : Int32) (x22 : Int32) (x23 : Int32) (s0 : Int32) (M : gq_M), f_L_isSale_1330 N  x18 x22 x23 s0 M = some (v9, M9) → gq_W p l e (gq_rl 10 1 6) s m args below meth c D A cI cZ ad mtL 28 (gq_NQ below D cI cZ ad mtL v9 M9 args s 1 6 A) 1330 [(0, .ref (ad 0)), (11, .ref (ad 119)), (14, .ref (ad 122)), (18, .int x18), (22, .int x22), (23, .int x23)] [.int s0] M 0 0 := by
  intro x18 x22 x23 s0 M h
  unfold f_L_isSale_1330 at h
  refine g_istore (L2 := [(24, .int s0), (0, .ref (ad 0)), (11, .ref (ad 119)), (14, .ref (ad 122)), (18, .int x18), (22, .int x22), (23, .int x23)]) hC (by decide) rfl dL_isSale_1330 ?_
  refine g_iload hC 4 rfl dL_isSale_1332 ?_
  refine g_bipush (v := 8) hC (by decide) dL_isSale_1334 ?_
  refine g_icmp_ge (tgt := 1348) hC (by decide) dL_isSale_1336 (fun c218 => ?_) (fun c218 => ?_)
  · replace h := gq_t c218 h
    exact g_weak [1, 2, 3, 4, 5, 6] rfl (t_L_isSale_1348 hl9 hZ hC hr  x18 x22 x23 M h)
  · replace h := gq_f c218 h
    refine g_iload hC 0 rfl dL_isSale_1339 ?_
    refine g_if_eq (tgt := 1348) hC (by decide) dL_isSale_1341 (fun c219 => ?_) (fun c219 => ?_)
    · replace h := gq_t c219 h
      exact g_weak [1, 2, 3, 4, 5, 6] rfl (t_L_isSale_1348 hl9 hZ hC hr  x18 x22 x23 M h)
    · replace h := gq_f c219 h
      refine g_iconst (v := 1) hC (by decide) dL_isSale_1344 ?_
      refine g_goto (tgt := 1349) hC (by decide) dL_isSale_1345 ?_
      exact g_weak [1, 2, 3, 4, 5, 6] rfl (t_L_isSale_1349 hl9 hZ hC hr  x18 x22 x23 1 M h)
def f_L_isSale_1329 (N : Nat) (x18 : Int32) (x22 : Int32) (x23 : Int32) (M : gq_M) : Option (Int32 × gq_M) :=
  f_L_isSale_1330 N  x18 x22 x23 0 M
set_option maxHeartbeats 1000000 in
set_option maxRecDepth 20000 in
theorem t_L_isSale_1329 {N : Nat} {v9 : Int32} {M9 : gq_M} (hl9 : l.stackTraces = false) (hZ : gq_Zn A s) (hC : gq_C p s m args meth c D A cI cZ ad mtL RL cL_isSale 28) (hr : meth.sig.returnType = (some .boolean))   : ∀ (x18 : Int32) (x22 : Int32) (x23 : Int32) (M : gq_M), f_L_isSale_1329 N  x18 x22 x23 M = some (v9, M9) → gq_W p l e (gq_rl 10 1 6) s m args below meth c D A cI cZ ad mtL 28 (gq_NQ below D cI cZ ad mtL v9 M9 args s 1 6 A) 1329 [(0, .ref (ad 0)), (11, .ref (ad 119)), (14, .ref (ad 122)), (18, .int x18), (22, .int x22), (23, .int x23)] [] M 0 0 := by
  intro x18 x22 x23 M h
  unfold f_L_isSale_1329 at h
  refine g_iconst (v := 0) hC (by decide) dL_isSale_1329 ?_
  exact g_weak [0, 1, 2, 3, 4, 5] rfl (t_L_isSale_1330 hl9 hZ hC hr  x18 x22 x23 0 M h)
def f_L_isSale_1302 (N : Nat) (x18 : Int32) (x22 : Int32) (s0 : Int32) (M : gq_M) : Option (Int32 × gq_M) :=
  gq_g (gq_in 0 56) (gq_l (M 119 (0 : Int32).toNatClampNeg) fun v214 => if x22 ≤ v214 then (f_L_isSale_1329 N  x18 x22 s0 M) else (if s0 ≤ 0 then (f_L_isSale_1329 N  x18 x22 s0 M) else (if 51 ≤ s0 then (f_L_isSale_1329 N  x18 x22 s0 M) else (f_L_isSale_1330 N  x18 x22 s0 1 M))))
set_option maxHeartbeats 1000000 in
set_option maxRecDepth 20000 in
theorem t_L_isSale_1302 {N : Nat} {v9 : Int32} {M9 : gq_M} (hl9 : l.stackTraces = false) (hZ : gq_Zn A s) (hC : gq_C p s m args meth c D A cI cZ ad mtL RL cL_isSale 28) (hr : meth.sig.returnType = (some .boolean))   : ∀ (x18 : Int32) (x22 : Int32) (s0 : Int32) (M : gq_M), f_L_isSale_1302 N  x18 x22 s0 M = some (v9, M9) → gq_W p l e (gq_rl 10 1 6) s m args below meth c D A cI cZ ad mtL 28 (gq_NQ below D cI cZ ad mtL v9 M9 args s 1 6 A) 1302 [(0, .ref (ad 0)), (11, .ref (ad 119)), (14, .ref (ad 122)), (18, .int x18), (22, .int x22)] [.int s0] M 0 0 := by
  intro x18 x22 s0 M h
  unfold f_L_isSale_1302 at h
  refine g_istore (L2 := [(23, .int s0), (0, .ref (ad 0)), (11, .ref (ad 119)), (14, .ref (ad 122)), (18, .int x18), (22, .int x22)]) hC (by decide) rfl dL_isSale_1302 ?_
  refine g_iload hC 5 rfl dL_isSale_1304 ?_
  refine g_aload hC 2 rfl dL_isSale_1306 ?_
  refine g_iconst (v := 0) hC (by decide) dL_isSale_1308 ?_
  obtain ⟨g213, h⟩ := gq_g_i h
  refine g_iald hC arL_119 (gq_in_i g213) dL_isSale_1309 ?_
  refine g_topi (fun v214 hv214 => ?_)
  replace h := gq_l_i hv214 h
  refine g_icmp_le (tgt := 1329) hC (by decide) dL_isSale_1310 (fun c215 => ?_) (fun c215 => ?_)
  · replace h := gq_t c215 h
    exact g_weak [1, 2, 3, 4, 5, 0] rfl (t_L_isSale_1329 hl9 hZ hC hr  x18 x22 s0 M h)
  · replace h := gq_f c215 h
    refine g_iload hC 0 rfl dL_isSale_1313 ?_
    refine g_if_le (tgt := 1329) hC (by decide) dL_isSale_1315 (fun c216 => ?_) (fun c216 => ?_)
    · replace h := gq_t c216 h
      exact g_weak [1, 2, 3, 4, 5, 0] rfl (t_L_isSale_1329 hl9 hZ hC hr  x18 x22 s0 M h)
    · replace h := gq_f c216 h
      refine g_iload hC 0 rfl dL_isSale_1318 ?_
      refine g_bipush (v := 51) hC (by decide) dL_isSale_1320 ?_
      refine g_icmp_ge (tgt := 1329) hC (by decide) dL_isSale_1322 (fun c217 => ?_) (fun c217 => ?_)
      · replace h := gq_t c217 h
        exact g_weak [1, 2, 3, 4, 5, 0] rfl (t_L_isSale_1329 hl9 hZ hC hr  x18 x22 s0 M h)
      · replace h := gq_f c217 h
        refine g_iconst (v := 1) hC (by decide) dL_isSale_1325 ?_
        refine g_goto (tgt := 1330) hC (by decide) dL_isSale_1326 ?_
        exact g_weak [1, 2, 3, 4, 5, 0] rfl (t_L_isSale_1330 hl9 hZ hC hr  x18 x22 s0 1 M h)
def f_L_isSale_1246 (N : Nat) (s0 : Int32) (M : gq_M) : Option (Int32 × gq_M) :=
  gq_g (gq_bb s0) (some (s0, M))
set_option maxHeartbeats 1000000 in
set_option maxRecDepth 20000 in
theorem t_L_isSale_1246 {N : Nat} {v9 : Int32} {M9 : gq_M} (hl9 : l.stackTraces = false) (hZ : gq_Zn A s) (hC : gq_C p s m args meth c D A cI cZ ad mtL RL cL_isSale 28) (hr : meth.sig.returnType = (some .boolean))   : ∀ (s0 : Int32) (M : gq_M), f_L_isSale_1246 N  s0 M = some (v9, M9) → gq_W p l e (gq_rl 10 1 6) s m args below meth c D A cI cZ ad mtL 28 (gq_NQ below D cI cZ ad mtL v9 M9 args s 1 6 A) 1246 [] [.int s0] M 1 6 := by
  intro s0 M h
  unfold f_L_isSale_1246 at h
  obtain ⟨g212, h⟩ := gq_g_i h
  exact g_zretsN hC (by decide) (by decide) hr (gq_bb_i g212) h dL_isSale_1246
def f_L_isSale_1238 (N : Nat) (s0 : Int32) (s1 : Int32) (M : gq_M) : Option (Int32 × gq_M) :=
  if s0 = s1 then (f_L_isSale_1246 N  1 M) else (f_L_isSale_1246 N  0 M)
set_option maxHeartbeats 1000000 in
set_option maxRecDepth 20000 in
theorem t_L_isSale_1238 {N : Nat} {v9 : Int32} {M9 : gq_M} (hl9 : l.stackTraces = false) (hZ : gq_Zn A s) (hC : gq_C p s m args meth c D A cI cZ ad mtL RL cL_isSale 28) (hr : meth.sig.returnType = (some .boolean))   : ∀ (s0 : Int32) (s1 : Int32) (M : gq_M), f_L_isSale_1238 N  s0 s1 M = some (v9, M9) → gq_W p l e (gq_rl 10 1 6) s m args below meth c D A cI cZ ad mtL 28 (gq_NQ below D cI cZ ad mtL v9 M9 args s 1 6 A) 1238 [] [.int s1, .int s0] M 1 6 := by
  intro s0 s1 M h
  unfold f_L_isSale_1238 at h
  refine g_icmp_ne (tgt := 1245) hC (by decide) dL_isSale_1238 (fun c211 => ?_) (fun c211 => ?_)
  · replace h := gq_f c211 h
    refine g_iconst (v := 0) hC (by decide) dL_isSale_1245 ?_
    exact g_weak [] rfl (t_L_isSale_1246 hl9 hZ hC hr  0 M h)
  · replace h := gq_t c211 h
    refine g_iconst (v := 1) hC (by decide) dL_isSale_1241 ?_
    refine g_goto (tgt := 1246) hC (by decide) dL_isSale_1242 ?_
    exact g_weak [] rfl (t_L_isSale_1246 hl9 hZ hC hr  1 M h)
def f_L_isSale_1201 (N : Nat) (x18 : Int32) (x19 : Int32) (x20 : Int32) (x25 : Int32) (x26 : Int32) (x27 : Int32) (M : gq_M) : Option (Int32 × gq_M) :=
  gq_b (f_L_does N 11 x18 x19 x25 0 0 0 M) fun v206 M208 => if x20 = 0 then (f_L_isSale_1238 N  v206 (-300000000) M208) else (if x27 = 0 then (f_L_isSale_1238 N  v206 (-100000000) M208) else (f_L_isSale_1238 N  v206 x26 M208))
set_option maxHeartbeats 1000000 in
set_option maxRecDepth 20000 in
theorem t_L_isSale_1201 {N : Nat} {v9 : Int32} {M9 : gq_M} (hl9 : l.stackTraces = false) (hZ : gq_Zn A s) (hC : gq_C p s m args meth c D A cI cZ ad mtL RL cL_isSale 28) (hr : meth.sig.returnType = (some .boolean))   : ∀ (x18 : Int32) (x19 : Int32) (x20 : Int32) (x25 : Int32) (x26 : Int32) (x27 : Int32) (M : gq_M), f_L_isSale_1201 N  x18 x19 x20 x25 x26 x27 M = some (v9, M9) → gq_W p l e (gq_rl 10 1 6) s m args below meth c D A cI cZ ad mtL 28 (gq_NQ below D cI cZ ad mtL v9 M9 args s 1 6 A) 1201 [(0, .ref (ad 0)), (18, .int x18), (19, .int x19), (20, .int x20), (25, .int x25), (26, .int x26), (27, .int x27)] [] M 0 0 := by
  intro x18 x19 x20 x25 x26 x27 M h
  unfold f_L_isSale_1201 at h
  refine g_aload_n hC 0 rfl rfl dL_isSale_1201 ?_
  refine g_bipush (v := 11) hC (by decide) dL_isSale_1202 ?_
  refine g_iload hC 1 rfl dL_isSale_1204 ?_
  refine g_iload hC 2 rfl dL_isSale_1206 ?_
  refine g_iload hC 4 rfl dL_isSale_1208 ?_
  refine g_iconst (v := 0) hC (by decide) dL_isSale_1210 ?_
  refine g_iconst (v := 0) hC (by decide) dL_isSale_1211 ?_
  refine g_iconst (v := 0) hC (by decide) dL_isSale_1212 ?_
  obtain ⟨v206, M208, c207, h⟩ := gq_b_i h
  refine g_LNH (as := [.ref (ad 0), .int 11, .int x18, .int x19, .int x25, .int 0, .int 0, .int 0]) hC hZ (t_L_does hl9 N _ _ _ _ _ _ _ _ _ _ c207) mH_L_does wm_L_183 rfl rfl (Nat.le_of_ble_eq_true rfl) ⟨Nat.le_of_ble_eq_true rfl, Nat.le_of_ble_eq_true rfl⟩ ⟨Nat.le_of_ble_eq_true rfl, Nat.le_of_ble_eq_true rfl⟩ dL_isSale_1213 ?_
  refine g_iload hC 3 rfl dL_isSale_1216 ?_
  refine g_if_ne (tgt := 1226) hC (by decide) dL_isSale_1218 (fun c209 => ?_) (fun c209 => ?_)
  · replace h := gq_f c209 h
    refine g_iload hC 6 rfl dL_isSale_1226 ?_
    refine g_if_eq (tgt := 1236) hC (by decide) dL_isSale_1228 (fun c210 => ?_) (fun c210 => ?_)
    · replace h := gq_t c210 h
      refine g_ldc (v := (-100000000)) hC wk_L_90 dL_isSale_1236 ?_
      exact g_weak [] rfl (t_L_isSale_1238 hl9 hZ hC hr  v206 (-100000000) M208 h)
    · replace h := gq_f c210 h
      refine g_iload hC 5 rfl dL_isSale_1231 ?_
      refine g_goto (tgt := 1238) hC (by decide) dL_isSale_1233 ?_
      exact g_weak [] rfl (t_L_isSale_1238 hl9 hZ hC hr  v206 x26 M208 h)
  · replace h := gq_t c209 h
    refine g_ldc (v := (-300000000)) hC wk_L_84 dL_isSale_1221 ?_
    refine g_goto (tgt := 1238) hC (by decide) dL_isSale_1223 ?_
    exact g_weak [] rfl (t_L_isSale_1238 hl9 hZ hC hr  v206 (-300000000) M208 h)
def f_L_isSale_1157 (N : Nat) (x18 : Int32) (x19 : Int32) (x20 : Int32) (x25 : Int32) (x26 : Int32) (s0 : Int32) (M : gq_M) : Option (Int32 × gq_M) :=
  if s0 = 0 then (f_L_isSale_1201 N  x18 x19 x20 x25 x26 s0 M) else (gq_b (f_L_costs N x19 x25 1 M) fun v200 M202 => gq_b (f_L_goesOn N x19 M202) fun v203 M205 => f_L_isSale_1201 N  x18 x19 x20 x25 x26 s0 M205)
set_option maxHeartbeats 1000000 in
set_option maxRecDepth 20000 in
theorem t_L_isSale_1157 {N : Nat} {v9 : Int32} {M9 : gq_M} (hl9 : l.stackTraces = false) (hZ : gq_Zn A s) (hC : gq_C p s m args meth c D A cI cZ ad mtL RL cL_isSale 28) (hr : meth.sig.returnType = (some .boolean))   : ∀ (x18 : Int32) (x19 : Int32) (x20 : Int32) (x25 : Int32) (x26 : Int32) (s0 : Int32) (M : gq_M), f_L_isSale_1157 N  x18 x19 x20 x25 x26 s0 M = some (v9, M9) → gq_W p l e (gq_rl 10 1 6) s m args below meth c D A cI cZ ad mtL 28 (gq_NQ below D cI cZ ad mtL v9 M9 args s 1 6 A) 1157 [(0, .ref (ad 0)), (1, .ref (ad 109)), (2, .ref (ad 110)), (3, .ref (ad 111)), (4, .ref (ad 112)), (5, .ref (ad 113)), (6, .ref (ad 114)), (7, .ref (ad 115)), (8, .ref (ad 116)), (11, .ref (ad 119)), (13, .ref (ad 121)), (18, .int x18), (19, .int x19), (20, .int x20), (25, .int x25), (26, .int x26)] [.int s0] M 0 0 := by
  intro x18 x19 x20 x25 x26 s0 M h
  unfold f_L_isSale_1157 at h
  refine g_istore (L2 := [(27, .int s0), (0, .ref (ad 0)), (1, .ref (ad 109)), (2, .ref (ad 110)), (3, .ref (ad 111)), (4, .ref (ad 112)), (5, .ref (ad 113)), (6, .ref (ad 114)), (7, .ref (ad 115)), (8, .ref (ad 116)), (11, .ref (ad 119)), (13, .ref (ad 121)), (18, .int x18), (19, .int x19), (20, .int x20), (25, .int x25), (26, .int x26)]) hC (by decide) rfl dL_isSale_1157 ?_
  refine g_iload hC 0 rfl dL_isSale_1159 ?_
  refine g_if_eq (tgt := 1201) hC (by decide) dL_isSale_1161 (fun c199 => ?_) (fun c199 => ?_)
  · replace h := gq_t c199 h
    exact g_weak [1, 12, 13, 14, 15, 16, 0] rfl (t_L_isSale_1201 hl9 hZ hC hr  x18 x19 x20 x25 x26 s0 M h)
  · replace h := gq_f c199 h
    refine g_aload_n hC 2 rfl rfl dL_isSale_1164 ?_
    refine g_aload_n hC 3 rfl rfl dL_isSale_1165 ?_
    refine g_aload_n hC 4 rfl rfl dL_isSale_1166 ?_
    refine g_aload hC 5 rfl dL_isSale_1167 ?_
    refine g_aload hC 6 rfl dL_isSale_1169 ?_
    refine g_aload hC 8 rfl dL_isSale_1171 ?_
    refine g_aload hC 10 rfl dL_isSale_1173 ?_
    refine g_aload hC 11 rfl dL_isSale_1175 ?_
    refine g_iload hC 13 rfl dL_isSale_1177 ?_
    refine g_iload hC 15 rfl dL_isSale_1179 ?_
    refine g_iconst (v := 1) hC (by decide) dL_isSale_1181 ?_
    obtain ⟨v200, M202, c201, h⟩ := gq_b_i h
    refine g_Si (as := [.ref (ad 109), .ref (ad 110), .ref (ad 111), .ref (ad 112), .ref (ad 113), .ref (ad 115), .ref (ad 119), .ref (ad 121), .int x19, .int x25, .int 1]) hC (t_L_costs N _ _ _ _ _ _ c201) mS_L_costs wm_L_136 rfl rfl (Nat.le_of_ble_eq_true rfl) ⟨Nat.le_of_ble_eq_true rfl, Nat.le_of_ble_eq_true rfl⟩ ⟨Nat.le_of_ble_eq_true rfl, Nat.le_of_ble_eq_true rfl⟩ dL_isSale_1182 ?_
    refine g_pop hC rfl dL_isSale_1185 ?_
    refine g_aload_n hC 2 rfl rfl dL_isSale_1186 ?_
    refine g_aload_n hC 4 rfl rfl dL_isSale_1187 ?_
    refine g_aload hC 7 rfl dL_isSale_1188 ?_
    refine g_aload hC 8 rfl dL_isSale_1190 ?_
    refine g_aload hC 9 rfl dL_isSale_1192 ?_
    refine g_aload hC 10 rfl dL_isSale_1194 ?_
    refine g_iload hC 13 rfl dL_isSale_1196 ?_
    obtain ⟨v203, M205, c204, h⟩ := gq_b_i h
    refine g_Sv (as := [.ref (ad 109), .ref (ad 111), .ref (ad 114), .ref (ad 115), .ref (ad 116), .ref (ad 119), .int x19]) hC (t_L_goesOn N _ _ _ _ c204) mS_L_goesOn wm_L_140 rfl rfl (Nat.le_of_ble_eq_true rfl) ⟨Nat.le_of_ble_eq_true rfl, Nat.le_of_ble_eq_true rfl⟩ ⟨Nat.le_of_ble_eq_true rfl, Nat.le_of_ble_eq_true rfl⟩ dL_isSale_1198 ?_
    exact g_weak [1, 12, 13, 14, 15, 16, 0] rfl (t_L_isSale_1201 hl9 hZ hC hr  x18 x19 x20 x25 x26 s0 M205 h)
def f_L_isSale_1156 (N : Nat) (x18 : Int32) (x19 : Int32) (x20 : Int32) (x25 : Int32) (x26 : Int32) (M : gq_M) : Option (Int32 × gq_M) :=
  f_L_isSale_1157 N  x18 x19 x20 x25 x26 0 M
set_option maxHeartbeats 1000000 in
set_option maxRecDepth 20000 in
theorem t_L_isSale_1156 {N : Nat} {v9 : Int32} {M9 : gq_M} (hl9 : l.stackTraces = false) (hZ : gq_Zn A s) (hC : gq_C p s m args meth c D A cI cZ ad mtL RL cL_isSale 28) (hr : meth.sig.returnType = (some .boolean))   : ∀ (x18 : Int32) (x19 : Int32) (x20 : Int32) (x25 : Int32) (x26 : Int32) (M : gq_M), f_L_isSale_1156 N  x18 x19 x20 x25 x26 M = some (v9, M9) → gq_W p l e (gq_rl 10 1 6) s m args below meth c D A cI cZ ad mtL 28 (gq_NQ below D cI cZ ad mtL v9 M9 args s 1 6 A) 1156 [(0, .ref (ad 0)), (1, .ref (ad 109)), (2, .ref (ad 110)), (3, .ref (ad 111)), (4, .ref (ad 112)), (5, .ref (ad 113)), (6, .ref (ad 114)), (7, .ref (ad 115)), (8, .ref (ad 116)), (11, .ref (ad 119)), (13, .ref (ad 121)), (18, .int x18), (19, .int x19), (20, .int x20), (25, .int x25), (26, .int x26)] [] M 0 0 := by
  intro x18 x19 x20 x25 x26 M h
  unfold f_L_isSale_1156 at h
  refine g_iconst (v := 0) hC (by decide) dL_isSale_1156 ?_
  exact g_weak [0, 1, 2, 3, 4, 5, 6, 7, 8, 9, 10, 11, 12, 13, 14, 15] rfl (t_L_isSale_1157 hl9 hZ hC hr  x18 x19 x20 x25 x26 0 M h)
def f_L_isSale_1111 (N : Nat) (x18 : Int32) (x19 : Int32) (x20 : Int32) (x23 : Int32) (x24 : Int32) (x25 : Int32) (s0 : Int32) (M : gq_M) : Option (Int32 × gq_M) :=
  if x23 = 0 then (f_L_isSale_1156 N  x18 x19 x20 x25 s0 M) else (if x25 ≤ 0 then (f_L_isSale_1156 N  x18 x19 x20 x25 s0 M) else (if x24 < x25 then (f_L_isSale_1156 N  x18 x19 x20 x25 s0 M) else (gq_g (gq_in (24 + x18) 56) (gq_l (M 119 ((24 + x18) : Int32).toNatClampNeg) fun v195 => gq_g (gq_in (40 + x18) 56) (gq_l (M 119 ((40 + x18) : Int32).toNatClampNeg) fun v197 => if (v195 - v197) < s0 then (f_L_isSale_1156 N  x18 x19 x20 x25 s0 M) else (f_L_isSale_1157 N  x18 x19 x20 x25 s0 1 M))))))
set_option maxHeartbeats 1000000 in
set_option maxRecDepth 20000 in
theorem t_L_isSale_1111 {N : Nat} {v9 : Int32} {M9 : gq_M} (hl9 : l.stackTraces = false) (hZ : gq_Zn A s) (hC : gq_C p s m args meth c D A cI cZ ad mtL RL cL_isSale 28) (hr : meth.sig.returnType = (some .boolean))   : ∀ (x18 : Int32) (x19 : Int32) (x20 : Int32) (x23 : Int32) (x24 : Int32) (x25 : Int32) (s0 : Int32) (M : gq_M), f_L_isSale_1111 N  x18 x19 x20 x23 x24 x25 s0 M = some (v9, M9) → gq_W p l e (gq_rl 10 1 6) s m args below meth c D A cI cZ ad mtL 28 (gq_NQ below D cI cZ ad mtL v9 M9 args s 1 6 A) 1111 [(0, .ref (ad 0)), (1, .ref (ad 109)), (2, .ref (ad 110)), (3, .ref (ad 111)), (4, .ref (ad 112)), (5, .ref (ad 113)), (6, .ref (ad 114)), (7, .ref (ad 115)), (8, .ref (ad 116)), (11, .ref (ad 119)), (13, .ref (ad 121)), (18, .int x18), (19, .int x19), (20, .int x20), (23, .int x23), (24, .int x24), (25, .int x25)] [.int s0] M 0 0 := by
  intro x18 x19 x20 x23 x24 x25 s0 M h
  unfold f_L_isSale_1111 at h
  refine g_istore (L2 := [(26, .int s0), (0, .ref (ad 0)), (1, .ref (ad 109)), (2, .ref (ad 110)), (3, .ref (ad 111)), (4, .ref (ad 112)), (5, .ref (ad 113)), (6, .ref (ad 114)), (7, .ref (ad 115)), (8, .ref (ad 116)), (11, .ref (ad 119)), (13, .ref (ad 121)), (18, .int x18), (19, .int x19), (20, .int x20), (23, .int x23), (24, .int x24), (25, .int x25)]) hC (by decide) rfl dL_isSale_1111 ?_
  refine g_iload hC 15 rfl dL_isSale_1113 ?_
  refine g_if_eq (tgt := 1156) hC (by decide) dL_isSale_1115 (fun c191 => ?_) (fun c191 => ?_)
  · replace h := gq_t c191 h
    exact g_weak [1, 2, 3, 4, 5, 6, 7, 8, 9, 10, 11, 12, 13, 14, 17, 0] rfl (t_L_isSale_1156 hl9 hZ hC hr  x18 x19 x20 x25 s0 M h)
  · replace h := gq_f c191 h
    refine g_iload hC 17 rfl dL_isSale_1118 ?_
    refine g_if_le (tgt := 1156) hC (by decide) dL_isSale_1120 (fun c192 => ?_) (fun c192 => ?_)
    · replace h := gq_t c192 h
      exact g_weak [1, 2, 3, 4, 5, 6, 7, 8, 9, 10, 11, 12, 13, 14, 17, 0] rfl (t_L_isSale_1156 hl9 hZ hC hr  x18 x19 x20 x25 s0 M h)
    · replace h := gq_f c192 h
      refine g_iload hC 17 rfl dL_isSale_1123 ?_
      refine g_iload hC 16 rfl dL_isSale_1125 ?_
      refine g_icmp_gt (tgt := 1156) hC (by decide) dL_isSale_1127 (fun c193 => ?_) (fun c193 => ?_)
      · replace h := gq_t c193 h
        exact g_weak [1, 2, 3, 4, 5, 6, 7, 8, 9, 10, 11, 12, 13, 14, 17, 0] rfl (t_L_isSale_1156 hl9 hZ hC hr  x18 x19 x20 x25 s0 M h)
      · replace h := gq_f c193 h
        refine g_aload hC 10 rfl dL_isSale_1130 ?_
        refine g_bipush (v := 24) hC (by decide) dL_isSale_1132 ?_
        refine g_iload hC 12 rfl dL_isSale_1134 ?_
        refine g_iadd hC dL_isSale_1136 ?_
        obtain ⟨g194, h⟩ := gq_g_i h
        refine g_iald hC arL_119 (gq_in_i g194) dL_isSale_1137 ?_
        refine g_topi (fun v195 hv195 => ?_)
        replace h := gq_l_i hv195 h
        refine g_aload hC 10 rfl dL_isSale_1138 ?_
        refine g_bipush (v := 40) hC (by decide) dL_isSale_1140 ?_
        refine g_iload hC 12 rfl dL_isSale_1142 ?_
        refine g_iadd hC dL_isSale_1144 ?_
        obtain ⟨g196, h⟩ := gq_g_i h
        refine g_iald hC arL_119 (gq_in_i g196) dL_isSale_1145 ?_
        refine g_topi (fun v197 hv197 => ?_)
        replace h := gq_l_i hv197 h
        refine g_isub hC dL_isSale_1146 ?_
        refine g_iload hC 0 rfl dL_isSale_1147 ?_
        refine g_icmp_lt (tgt := 1156) hC (by decide) dL_isSale_1149 (fun c198 => ?_) (fun c198 => ?_)
        · replace h := gq_t c198 h
          exact g_weak [1, 2, 3, 4, 5, 6, 7, 8, 9, 10, 11, 12, 13, 14, 17, 0] rfl (t_L_isSale_1156 hl9 hZ hC hr  x18 x19 x20 x25 s0 M h)
        · replace h := gq_f c198 h
          refine g_iconst (v := 1) hC (by decide) dL_isSale_1152 ?_
          refine g_goto (tgt := 1157) hC (by decide) dL_isSale_1153 ?_
          exact g_weak [1, 2, 3, 4, 5, 6, 7, 8, 9, 10, 11, 12, 13, 14, 17, 0] rfl (t_L_isSale_1157 hl9 hZ hC hr  x18 x19 x20 x25 s0 1 M h)
def f_L_isSale_1067 (N : Nat) (x17 : Int32) (x18 : Int32) (x19 : Int32) (x20 : Int32) (x23 : Int32) (s0 : Int32) (M : gq_M) : Option (Int32 × gq_M) :=
  gq_g (gq_nz (s0 + 2)) (gq_l ((x17 / 13) - (x17 / 13) / (s0 + 2) * (s0 + 2)) fun v186 => if x23 = 0 then (f_L_isSale_1111 N  x18 x19 x20 x23 s0 v186 0 M) else (gq_b (f_L_costs N x19 v186 0 M) fun v188 M190 => f_L_isSale_1111 N  x18 x19 x20 x23 s0 v186 v188 M190))
set_option maxHeartbeats 1000000 in
set_option maxRecDepth 20000 in
theorem t_L_isSale_1067 {N : Nat} {v9 : Int32} {M9 : gq_M} (hl9 : l.stackTraces = false) (hZ : gq_Zn A s) (hC : gq_C p s m args meth c D A cI cZ ad mtL RL cL_isSale 28) (hr : meth.sig.returnType = (some .boolean))   : ∀ (x17 : Int32) (x18 : Int32) (x19 : Int32) (x20 : Int32) (x23 : Int32) (s0 : Int32) (M : gq_M), f_L_isSale_1067 N  x17 x18 x19 x20 x23 s0 M = some (v9, M9) → gq_W p l e (gq_rl 10 1 6) s m args below meth c D A cI cZ ad mtL 28 (gq_NQ below D cI cZ ad mtL v9 M9 args s 1 6 A) 1067 [(0, .ref (ad 0)), (1, .ref (ad 109)), (2, .ref (ad 110)), (3, .ref (ad 111)), (4, .ref (ad 112)), (5, .ref (ad 113)), (6, .ref (ad 114)), (7, .ref (ad 115)), (8, .ref (ad 116)), (11, .ref (ad 119)), (13, .ref (ad 121)), (17, .int x17), (18, .int x18), (19, .int x19), (20, .int x20), (23, .int x23)] [.int s0] M 0 0 := by
  intro x17 x18 x19 x20 x23 s0 M h
  unfold f_L_isSale_1067 at h
  refine g_istore (L2 := [(24, .int s0), (0, .ref (ad 0)), (1, .ref (ad 109)), (2, .ref (ad 110)), (3, .ref (ad 111)), (4, .ref (ad 112)), (5, .ref (ad 113)), (6, .ref (ad 114)), (7, .ref (ad 115)), (8, .ref (ad 116)), (11, .ref (ad 119)), (13, .ref (ad 121)), (17, .int x17), (18, .int x18), (19, .int x19), (20, .int x20), (23, .int x23)]) hC (by decide) rfl dL_isSale_1067 ?_
  refine g_iload hC 12 rfl dL_isSale_1069 ?_
  refine g_bipush (v := 13) hC (by decide) dL_isSale_1071 ?_
  refine g_idiv hC (by decide) dL_isSale_1073 ?_
  refine g_iload hC 0 rfl dL_isSale_1074 ?_
  refine g_iconst (v := 2) hC (by decide) dL_isSale_1076 ?_
  refine g_iadd hC dL_isSale_1077 ?_
  obtain ⟨g185, h⟩ := gq_g_i h
  refine g_irem hC (gq_nz_i g185) dL_isSale_1078 ?_
  refine g_topi (fun v186 hv186 => ?_)
  replace h := gq_l_i hv186 h
  refine g_istore (L2 := [(25, .int v186), (24, .int s0), (0, .ref (ad 0)), (1, .ref (ad 109)), (2, .ref (ad 110)), (3, .ref (ad 111)), (4, .ref (ad 112)), (5, .ref (ad 113)), (6, .ref (ad 114)), (7, .ref (ad 115)), (8, .ref (ad 116)), (11, .ref (ad 119)), (13, .ref (ad 121)), (17, .int x17), (18, .int x18), (19, .int x19), (20, .int x20), (23, .int x23)]) hC (by decide) rfl dL_isSale_1079 ?_
  refine g_iload hC 17 rfl dL_isSale_1081 ?_
  refine g_if_eq (tgt := 1110) hC (by decide) dL_isSale_1083 (fun c187 => ?_) (fun c187 => ?_)
  · replace h := gq_t c187 h
    refine g_iconst (v := 0) hC (by decide) dL_isSale_1110 ?_
    exact g_weak [2, 3, 4, 5, 6, 7, 8, 9, 10, 11, 12, 14, 15, 16, 17, 1, 0] rfl (t_L_isSale_1111 hl9 hZ hC hr  x18 x19 x20 x23 s0 v186 0 M h)
  · replace h := gq_f c187 h
    refine g_aload_n hC 3 rfl rfl dL_isSale_1086 ?_
    refine g_aload_n hC 4 rfl rfl dL_isSale_1087 ?_
    refine g_aload_n hC 5 rfl rfl dL_isSale_1088 ?_
    refine g_aload hC 6 rfl dL_isSale_1089 ?_
    refine g_aload hC 7 rfl dL_isSale_1091 ?_
    refine g_aload hC 9 rfl dL_isSale_1093 ?_
    refine g_aload hC 11 rfl dL_isSale_1095 ?_
    refine g_aload hC 12 rfl dL_isSale_1097 ?_
    refine g_iload hC 15 rfl dL_isSale_1099 ?_
    refine g_iload hC 0 rfl dL_isSale_1101 ?_
    refine g_iconst (v := 0) hC (by decide) dL_isSale_1103 ?_
    obtain ⟨v188, M190, c189, h⟩ := gq_b_i h
    refine g_Si (as := [.ref (ad 109), .ref (ad 110), .ref (ad 111), .ref (ad 112), .ref (ad 113), .ref (ad 115), .ref (ad 119), .ref (ad 121), .int x19, .int v186, .int 0]) hC (t_L_costs N _ _ _ _ _ _ c189) mS_L_costs wm_L_136 rfl rfl (Nat.le_of_ble_eq_true rfl) ⟨Nat.le_of_ble_eq_true rfl, Nat.le_of_ble_eq_true rfl⟩ ⟨Nat.le_of_ble_eq_true rfl, Nat.le_of_ble_eq_true rfl⟩ dL_isSale_1104 ?_
    refine g_goto (tgt := 1111) hC (by decide) dL_isSale_1107 ?_
    exact g_weak [2, 3, 4, 5, 6, 7, 8, 9, 10, 11, 12, 14, 15, 16, 17, 1, 0] rfl (t_L_isSale_1111 hl9 hZ hC hr  x18 x19 x20 x23 s0 v186 v188 M190 h)
def f_L_isSale_1042 (N : Nat) (x17 : Int32) (x18 : Int32) (x19 : Int32) (x20 : Int32) (x21 : Int32) (s0 : Int32) (M : gq_M) : Option (Int32 × gq_M) :=
  if s0 = 0 then (f_L_isSale_1067 N  x17 x18 x19 x20 s0 3 M) else (gq_g (gq_in (x21 + 1) 24) (gq_l (M 115 ((x21 + 1) : Int32).toNatClampNeg) fun v181 => gq_b (f_L_left N v181 M) fun v182 M184 => f_L_isSale_1067 N  x17 x18 x19 x20 s0 v182 M184))
set_option maxHeartbeats 1000000 in
set_option maxRecDepth 20000 in
theorem t_L_isSale_1042 {N : Nat} {v9 : Int32} {M9 : gq_M} (hl9 : l.stackTraces = false) (hZ : gq_Zn A s) (hC : gq_C p s m args meth c D A cI cZ ad mtL RL cL_isSale 28) (hr : meth.sig.returnType = (some .boolean))   : ∀ (x17 : Int32) (x18 : Int32) (x19 : Int32) (x20 : Int32) (x21 : Int32) (s0 : Int32) (M : gq_M), f_L_isSale_1042 N  x17 x18 x19 x20 x21 s0 M = some (v9, M9) → gq_W p l e (gq_rl 10 1 6) s m args below meth c D A cI cZ ad mtL 28 (gq_NQ below D cI cZ ad mtL v9 M9 args s 1 6 A) 1042 [(0, .ref (ad 0)), (1, .ref (ad 109)), (2, .ref (ad 110)), (3, .ref (ad 111)), (4, .ref (ad 112)), (5, .ref (ad 113)), (6, .ref (ad 114)), (7, .ref (ad 115)), (8, .ref (ad 116)), (11, .ref (ad 119)), (13, .ref (ad 121)), (17, .int x17), (18, .int x18), (19, .int x19), (20, .int x20), (21, .int x21)] [.int s0] M 0 0 := by
  intro x17 x18 x19 x20 x21 s0 M h
  unfold f_L_isSale_1042 at h
  refine g_istore (L2 := [(23, .int s0), (0, .ref (ad 0)), (1, .ref (ad 109)), (2, .ref (ad 110)), (3, .ref (ad 111)), (4, .ref (ad 112)), (5, .ref (ad 113)), (6, .ref (ad 114)), (7, .ref (ad 115)), (8, .ref (ad 116)), (11, .ref (ad 119)), (13, .ref (ad 121)), (17, .int x17), (18, .int x18), (19, .int x19), (20, .int x20), (21, .int x21)]) hC (by decide) rfl dL_isSale_1042 ?_
  refine g_iload hC 0 rfl dL_isSale_1044 ?_
  refine g_if_eq (tgt := 1066) hC (by decide) dL_isSale_1046 (fun c179 => ?_) (fun c179 => ?_)
  · replace h := gq_t c179 h
    refine g_iconst (v := 3) hC (by decide) dL_isSale_1066 ?_
    exact g_weak [1, 2, 3, 4, 5, 6, 7, 8, 9, 10, 11, 12, 13, 14, 15, 0] rfl (t_L_isSale_1067 hl9 hZ hC hr  x17 x18 x19 x20 s0 3 M h)
  · replace h := gq_f c179 h
    refine g_aload_n hC 2 rfl rfl dL_isSale_1049 ?_
    refine g_aload_n hC 4 rfl rfl dL_isSale_1050 ?_
    refine g_aload hC 10 rfl dL_isSale_1051 ?_
    refine g_aload hC 8 rfl dL_isSale_1053 ?_
    refine g_iload hC 16 rfl dL_isSale_1055 ?_
    refine g_iconst (v := 1) hC (by decide) dL_isSale_1057 ?_
    refine g_iadd hC dL_isSale_1058 ?_
    obtain ⟨g180, h⟩ := gq_g_i h
    refine g_iald hC arL_115 (gq_in_i g180) dL_isSale_1059 ?_
    refine g_topi (fun v181 hv181 => ?_)
    replace h := gq_l_i hv181 h
    obtain ⟨v182, M184, c183, h⟩ := gq_b_i h
    refine g_Si (as := [.ref (ad 109), .ref (ad 111), .ref (ad 119), .int v181]) hC (t_L_left N _ _ _ _ c183) mS_L_left wm_L_116 rfl rfl (Nat.le_of_ble_eq_true rfl) ⟨Nat.le_of_ble_eq_true rfl, Nat.le_of_ble_eq_true rfl⟩ ⟨Nat.le_of_ble_eq_true rfl, Nat.le_of_ble_eq_true rfl⟩ dL_isSale_1060 ?_
    refine g_goto (tgt := 1067) hC (by decide) dL_isSale_1063 ?_
    exact g_weak [1, 2, 3, 4, 5, 6, 7, 8, 9, 10, 11, 12, 13, 14, 15, 0] rfl (t_L_isSale_1067 hl9 hZ hC hr  x17 x18 x19 x20 s0 v182 M184 h)
def f_L_isSale_1041 (N : Nat) (x17 : Int32) (x18 : Int32) (x19 : Int32) (x20 : Int32) (x21 : Int32) (M : gq_M) : Option (Int32 × gq_M) :=
  f_L_isSale_1042 N  x17 x18 x19 x20 x21 0 M
set_option maxHeartbeats 1000000 in
set_option maxRecDepth 20000 in
theorem t_L_isSale_1041 {N : Nat} {v9 : Int32} {M9 : gq_M} (hl9 : l.stackTraces = false) (hZ : gq_Zn A s) (hC : gq_C p s m args meth c D A cI cZ ad mtL RL cL_isSale 28) (hr : meth.sig.returnType = (some .boolean))   : ∀ (x17 : Int32) (x18 : Int32) (x19 : Int32) (x20 : Int32) (x21 : Int32) (M : gq_M), f_L_isSale_1041 N  x17 x18 x19 x20 x21 M = some (v9, M9) → gq_W p l e (gq_rl 10 1 6) s m args below meth c D A cI cZ ad mtL 28 (gq_NQ below D cI cZ ad mtL v9 M9 args s 1 6 A) 1041 [(0, .ref (ad 0)), (1, .ref (ad 109)), (2, .ref (ad 110)), (3, .ref (ad 111)), (4, .ref (ad 112)), (5, .ref (ad 113)), (6, .ref (ad 114)), (7, .ref (ad 115)), (8, .ref (ad 116)), (11, .ref (ad 119)), (13, .ref (ad 121)), (17, .int x17), (18, .int x18), (19, .int x19), (20, .int x20), (21, .int x21)] [] M 0 0 := by
  intro x17 x18 x19 x20 x21 M h
  unfold f_L_isSale_1041 at h
  refine g_iconst (v := 0) hC (by decide) dL_isSale_1041 ?_
  exact g_weak [0, 1, 2, 3, 4, 5, 6, 7, 8, 9, 10, 11, 12, 13, 14, 15] rfl (t_L_isSale_1042 hl9 hZ hC hr  x17 x18 x19 x20 x21 0 M h)
def f_L_isSale_1002 (N : Nat) (x17 : Int32) (x18 : Int32) (x19 : Int32) (x21 : Int32) (x22 : Int32) (s0 : Int32) (M : gq_M) : Option (Int32 × gq_M) :=
  if s0 = 0 then (f_L_isSale_1041 N  x17 x18 x19 s0 x21 M) else (gq_g (gq_in x21 24) (gq_l (M 115 x21.toNatClampNeg) fun v173 => if v173 = 3 then (gq_g (gq_in (x21 + 6) 24) (gq_l (M 115 ((x21 + 6) : Int32).toNatClampNeg) fun v176 => if v176 = 1 then (if x22 = x18 then (f_L_isSale_1042 N  x17 x18 x19 s0 x21 1 M) else (f_L_isSale_1041 N  x17 x18 x19 s0 x21 M)) else (f_L_isSale_1041 N  x17 x18 x19 s0 x21 M))) else (f_L_isSale_1041 N  x17 x18 x19 s0 x21 M)))
set_option maxHeartbeats 1000000 in
set_option maxRecDepth 20000 in
theorem t_L_isSale_1002 {N : Nat} {v9 : Int32} {M9 : gq_M} (hl9 : l.stackTraces = false) (hZ : gq_Zn A s) (hC : gq_C p s m args meth c D A cI cZ ad mtL RL cL_isSale 28) (hr : meth.sig.returnType = (some .boolean))   : ∀ (x17 : Int32) (x18 : Int32) (x19 : Int32) (x21 : Int32) (x22 : Int32) (s0 : Int32) (M : gq_M), f_L_isSale_1002 N  x17 x18 x19 x21 x22 s0 M = some (v9, M9) → gq_W p l e (gq_rl 10 1 6) s m args below meth c D A cI cZ ad mtL 28 (gq_NQ below D cI cZ ad mtL v9 M9 args s 1 6 A) 1002 [(0, .ref (ad 0)), (1, .ref (ad 109)), (2, .ref (ad 110)), (3, .ref (ad 111)), (4, .ref (ad 112)), (5, .ref (ad 113)), (6, .ref (ad 114)), (7, .ref (ad 115)), (8, .ref (ad 116)), (11, .ref (ad 119)), (13, .ref (ad 121)), (17, .int x17), (18, .int x18), (19, .int x19), (21, .int x21), (22, .int x22)] [.int s0] M 0 0 := by
  intro x17 x18 x19 x21 x22 s0 M h
  unfold f_L_isSale_1002 at h
  refine g_istore (L2 := [(20, .int s0), (0, .ref (ad 0)), (1, .ref (ad 109)), (2, .ref (ad 110)), (3, .ref (ad 111)), (4, .ref (ad 112)), (5, .ref (ad 113)), (6, .ref (ad 114)), (7, .ref (ad 115)), (8, .ref (ad 116)), (11, .ref (ad 119)), (13, .ref (ad 121)), (17, .int x17), (18, .int x18), (19, .int x19), (21, .int x21), (22, .int x22)]) hC (by decide) rfl dL_isSale_1002 ?_
  refine g_iload hC 0 rfl dL_isSale_1004 ?_
  refine g_if_eq (tgt := 1041) hC (by decide) dL_isSale_1006 (fun c171 => ?_) (fun c171 => ?_)
  · replace h := gq_t c171 h
    exact g_weak [1, 2, 3, 4, 5, 6, 7, 8, 9, 10, 11, 12, 13, 14, 0, 15] rfl (t_L_isSale_1041 hl9 hZ hC hr  x17 x18 x19 s0 x21 M h)
  · replace h := gq_f c171 h
    refine g_aload hC 8 rfl dL_isSale_1009 ?_
    refine g_iload hC 15 rfl dL_isSale_1011 ?_
    obtain ⟨g172, h⟩ := gq_g_i h
    refine g_iald hC arL_115 (gq_in_i g172) dL_isSale_1013 ?_
    refine g_topi (fun v173 hv173 => ?_)
    replace h := gq_l_i hv173 h
    refine g_iconst (v := 3) hC (by decide) dL_isSale_1014 ?_
    refine g_icmp_ne (tgt := 1041) hC (by decide) dL_isSale_1015 (fun c174 => ?_) (fun c174 => ?_)
    · replace h := gq_f c174 h
      exact g_weak [1, 2, 3, 4, 5, 6, 7, 8, 9, 10, 11, 12, 13, 14, 0, 15] rfl (t_L_isSale_1041 hl9 hZ hC hr  x17 x18 x19 s0 x21 M h)
    · replace h := gq_t c174 h
      refine g_aload hC 8 rfl dL_isSale_1018 ?_
      refine g_iload hC 15 rfl dL_isSale_1020 ?_
      refine g_bipush (v := 6) hC (by decide) dL_isSale_1022 ?_
      refine g_iadd hC dL_isSale_1024 ?_
      obtain ⟨g175, h⟩ := gq_g_i h
      refine g_iald hC arL_115 (gq_in_i g175) dL_isSale_1025 ?_
      refine g_topi (fun v176 hv176 => ?_)
      replace h := gq_l_i hv176 h
      refine g_iconst (v := 1) hC (by decide) dL_isSale_1026 ?_
      refine g_icmp_ne (tgt := 1041) hC (by decide) dL_isSale_1027 (fun c177 => ?_) (fun c177 => ?_)
      · replace h := gq_f c177 h
        exact g_weak [1, 2, 3, 4, 5, 6, 7, 8, 9, 10, 11, 12, 13, 14, 0, 15] rfl (t_L_isSale_1041 hl9 hZ hC hr  x17 x18 x19 s0 x21 M h)
      · replace h := gq_t c177 h
        refine g_iload hC 16 rfl dL_isSale_1030 ?_
        refine g_iload hC 13 rfl dL_isSale_1032 ?_
        refine g_icmp_ne (tgt := 1041) hC (by decide) dL_isSale_1034 (fun c178 => ?_) (fun c178 => ?_)
        · replace h := gq_f c178 h
          exact g_weak [1, 2, 3, 4, 5, 6, 7, 8, 9, 10, 11, 12, 13, 14, 0, 15] rfl (t_L_isSale_1041 hl9 hZ hC hr  x17 x18 x19 s0 x21 M h)
        · replace h := gq_t c178 h
          refine g_iconst (v := 1) hC (by decide) dL_isSale_1037 ?_
          refine g_goto (tgt := 1042) hC (by decide) dL_isSale_1038 ?_
          exact g_weak [1, 2, 3, 4, 5, 6, 7, 8, 9, 10, 11, 12, 13, 14, 0, 15] rfl (t_L_isSale_1042 hl9 hZ hC hr  x17 x18 x19 s0 x21 1 M h)
def f_L_isSale_1001 (N : Nat) (x17 : Int32) (x18 : Int32) (x19 : Int32) (x21 : Int32) (x22 : Int32) (M : gq_M) : Option (Int32 × gq_M) :=
  f_L_isSale_1002 N  x17 x18 x19 x21 x22 0 M
set_option maxHeartbeats 1000000 in
set_option maxRecDepth 20000 in
theorem t_L_isSale_1001 {N : Nat} {v9 : Int32} {M9 : gq_M} (hl9 : l.stackTraces = false) (hZ : gq_Zn A s) (hC : gq_C p s m args meth c D A cI cZ ad mtL RL cL_isSale 28) (hr : meth.sig.returnType = (some .boolean))   : ∀ (x17 : Int32) (x18 : Int32) (x19 : Int32) (x21 : Int32) (x22 : Int32) (M : gq_M), f_L_isSale_1001 N  x17 x18 x19 x21 x22 M = some (v9, M9) → gq_W p l e (gq_rl 10 1 6) s m args below meth c D A cI cZ ad mtL 28 (gq_NQ below D cI cZ ad mtL v9 M9 args s 1 6 A) 1001 [(0, .ref (ad 0)), (1, .ref (ad 109)), (2, .ref (ad 110)), (3, .ref (ad 111)), (4, .ref (ad 112)), (5, .ref (ad 113)), (6, .ref (ad 114)), (7, .ref (ad 115)), (8, .ref (ad 116)), (11, .ref (ad 119)), (13, .ref (ad 121)), (17, .int x17), (18, .int x18), (19, .int x19), (21, .int x21), (22, .int x22)] [] M 0 0 := by
  intro x17 x18 x19 x21 x22 M h
  unfold f_L_isSale_1001 at h
  refine g_iconst (v := 0) hC (by decide) dL_isSale_1001 ?_
  exact g_weak [0, 1, 2, 3, 4, 5, 6, 7, 8, 9, 10, 11, 12, 13, 14, 15] rfl (t_L_isSale_1002 hl9 hZ hC hr  x17 x18 x19 x21 x22 0 M h)
def f_L_isSale_982 (N : Nat) (x17 : Int32) (x19 : Int32) (x21 : Int32) (x22 : Int32) (s0 : Int32) (M : gq_M) : Option (Int32 × gq_M) :=
  if 8 ≤ s0 then (f_L_isSale_1001 N  x17 s0 x19 x21 x22 M) else (if 3 ≤ x19 then (f_L_isSale_1001 N  x17 s0 x19 x21 x22 M) else (f_L_isSale_1002 N  x17 s0 x19 x21 x22 1 M))
set_option maxHeartbeats 1000000 in
set_option maxRecDepth 20000 in
theorem t_L_isSale_982 {N : Nat} {v9 : Int32} {M9 : gq_M} (hl9 : l.stackTraces = false) (hZ : gq_Zn A s) (hC : gq_C p s m args meth c D A cI cZ ad mtL RL cL_isSale 28) (hr : meth.sig.returnType = (some .boolean))   : ∀ (x17 : Int32) (x19 : Int32) (x21 : Int32) (x22 : Int32) (s0 : Int32) (M : gq_M), f_L_isSale_982 N  x17 x19 x21 x22 s0 M = some (v9, M9) → gq_W p l e (gq_rl 10 1 6) s m args below meth c D A cI cZ ad mtL 28 (gq_NQ below D cI cZ ad mtL v9 M9 args s 1 6 A) 982 [(0, .ref (ad 0)), (1, .ref (ad 109)), (2, .ref (ad 110)), (3, .ref (ad 111)), (4, .ref (ad 112)), (5, .ref (ad 113)), (6, .ref (ad 114)), (7, .ref (ad 115)), (8, .ref (ad 116)), (11, .ref (ad 119)), (13, .ref (ad 121)), (17, .int x17), (19, .int x19), (21, .int x21), (22, .int x22)] [.int s0] M 0 0 := by
  intro x17 x19 x21 x22 s0 M h
  unfold f_L_isSale_982 at h
  refine g_istore (L2 := [(18, .int s0), (0, .ref (ad 0)), (1, .ref (ad 109)), (2, .ref (ad 110)), (3, .ref (ad 111)), (4, .ref (ad 112)), (5, .ref (ad 113)), (6, .ref (ad 114)), (7, .ref (ad 115)), (8, .ref (ad 116)), (11, .ref (ad 119)), (13, .ref (ad 121)), (17, .int x17), (19, .int x19), (21, .int x21), (22, .int x22)]) hC (by decide) rfl dL_isSale_982 ?_
  refine g_iload hC 0 rfl dL_isSale_984 ?_
  refine g_bipush (v := 8) hC (by decide) dL_isSale_986 ?_
  refine g_icmp_ge (tgt := 1001) hC (by decide) dL_isSale_988 (fun c169 => ?_) (fun c169 => ?_)
  · replace h := gq_t c169 h
    exact g_weak [1, 2, 3, 4, 5, 6, 7, 8, 9, 10, 11, 12, 0, 13, 14, 15] rfl (t_L_isSale_1001 hl9 hZ hC hr  x17 s0 x19 x21 x22 M h)
  · replace h := gq_f c169 h
    refine g_iload hC 13 rfl dL_isSale_991 ?_
    refine g_iconst (v := 3) hC (by decide) dL_isSale_993 ?_
    refine g_icmp_ge (tgt := 1001) hC (by decide) dL_isSale_994 (fun c170 => ?_) (fun c170 => ?_)
    · replace h := gq_t c170 h
      exact g_weak [1, 2, 3, 4, 5, 6, 7, 8, 9, 10, 11, 12, 0, 13, 14, 15] rfl (t_L_isSale_1001 hl9 hZ hC hr  x17 s0 x19 x21 x22 M h)
    · replace h := gq_f c170 h
      refine g_iconst (v := 1) hC (by decide) dL_isSale_997 ?_
      refine g_goto (tgt := 1002) hC (by decide) dL_isSale_998 ?_
      exact g_weak [1, 2, 3, 4, 5, 6, 7, 8, 9, 10, 11, 12, 0, 13, 14, 15] rfl (t_L_isSale_1002 hl9 hZ hC hr  x17 s0 x19 x21 x22 1 M h)
def f_L_isSale_980 (N : Nat) (x17 : Int32) (x18 : Int32) (x19 : Int32) (x21 : Int32) (x22 : Int32) (M : gq_M) : Option (Int32 × gq_M) :=
  f_L_isSale_982 N  x17 x19 x21 x22 x18 M
set_option maxHeartbeats 1000000 in
set_option maxRecDepth 20000 in
theorem t_L_isSale_980 {N : Nat} {v9 : Int32} {M9 : gq_M} (hl9 : l.stackTraces = false) (hZ : gq_Zn A s) (hC : gq_C p s m args meth c D A cI cZ ad mtL RL cL_isSale 28) (hr : meth.sig.returnType = (some .boolean))   : ∀ (x17 : Int32) (x18 : Int32) (x19 : Int32) (x21 : Int32) (x22 : Int32) (M : gq_M), f_L_isSale_980 N  x17 x18 x19 x21 x22 M = some (v9, M9) → gq_W p l e (gq_rl 10 1 6) s m args below meth c D A cI cZ ad mtL 28 (gq_NQ below D cI cZ ad mtL v9 M9 args s 1 6 A) 980 [(0, .ref (ad 0)), (1, .ref (ad 109)), (2, .ref (ad 110)), (3, .ref (ad 111)), (4, .ref (ad 112)), (5, .ref (ad 113)), (6, .ref (ad 114)), (7, .ref (ad 115)), (8, .ref (ad 116)), (11, .ref (ad 119)), (13, .ref (ad 121)), (17, .int x17), (18, .int x18), (19, .int x19), (21, .int x21), (22, .int x22)] [] M 0 0 := by
  intro x17 x18 x19 x21 x22 M h
  unfold f_L_isSale_980 at h
  refine g_iload hC 12 rfl dL_isSale_980 ?_
  exact g_weak [0, 1, 2, 3, 4, 5, 6, 7, 8, 9, 10, 11, 13, 14, 15] rfl (t_L_isSale_982 hl9 hZ hC hr  x17 x19 x21 x22 x18 M h)
def f_L_isSale_961 (N : Nat) (x16 : Int32) (x17 : Int32) (x18 : Int32) (x19 : Int32) (x21 : Int32) (s0 : Int32) (M : gq_M) : Option (Int32 × gq_M) :=
  if s0 < 0 then (f_L_isSale_980 N  x17 x18 x19 x21 s0 M) else (if (x16 - x16 / 4 * 4) ≤ 0 then (f_L_isSale_980 N  x17 x18 x19 x21 s0 M) else (f_L_isSale_982 N  x17 x19 x21 s0 s0 M))
set_option maxHeartbeats 1000000 in
set_option maxRecDepth 20000 in
theorem t_L_isSale_961 {N : Nat} {v9 : Int32} {M9 : gq_M} (hl9 : l.stackTraces = false) (hZ : gq_Zn A s) (hC : gq_C p s m args meth c D A cI cZ ad mtL RL cL_isSale 28) (hr : meth.sig.returnType = (some .boolean))   : ∀ (x16 : Int32) (x17 : Int32) (x18 : Int32) (x19 : Int32) (x21 : Int32) (s0 : Int32) (M : gq_M), f_L_isSale_961 N  x16 x17 x18 x19 x21 s0 M = some (v9, M9) → gq_W p l e (gq_rl 10 1 6) s m args below meth c D A cI cZ ad mtL 28 (gq_NQ below D cI cZ ad mtL v9 M9 args s 1 6 A) 961 [(0, .ref (ad 0)), (1, .ref (ad 109)), (2, .ref (ad 110)), (3, .ref (ad 111)), (4, .ref (ad 112)), (5, .ref (ad 113)), (6, .ref (ad 114)), (7, .ref (ad 115)), (8, .ref (ad 116)), (11, .ref (ad 119)), (13, .ref (ad 121)), (16, .int x16), (17, .int x17), (18, .int x18), (19, .int x19), (21, .int x21)] [.int s0] M 0 0 := by
  intro x16 x17 x18 x19 x21 s0 M h
  unfold f_L_isSale_961 at h
  refine g_istore (L2 := [(22, .int s0), (0, .ref (ad 0)), (1, .ref (ad 109)), (2, .ref (ad 110)), (3, .ref (ad 111)), (4, .ref (ad 112)), (5, .ref (ad 113)), (6, .ref (ad 114)), (7, .ref (ad 115)), (8, .ref (ad 116)), (11, .ref (ad 119)), (13, .ref (ad 121)), (16, .int x16), (17, .int x17), (18, .int x18), (19, .int x19), (21, .int x21)]) hC (by decide) rfl dL_isSale_961 ?_
  refine g_iload hC 0 rfl dL_isSale_963 ?_
  refine g_if_lt (tgt := 980) hC (by decide) dL_isSale_965 (fun c167 => ?_) (fun c167 => ?_)
  · replace h := gq_t c167 h
    exact g_weak [1, 2, 3, 4, 5, 6, 7, 8, 9, 10, 11, 13, 14, 15, 16, 0] rfl (t_L_isSale_980 hl9 hZ hC hr  x17 x18 x19 x21 s0 M h)
  · replace h := gq_f c167 h
    refine g_iload hC 12 rfl dL_isSale_968 ?_
    refine g_iconst (v := 4) hC (by decide) dL_isSale_970 ?_
    refine g_irem hC (by decide) dL_isSale_971 ?_
    refine g_if_le (tgt := 980) hC (by decide) dL_isSale_972 (fun c168 => ?_) (fun c168 => ?_)
    · replace h := gq_t c168 h
      exact g_weak [1, 2, 3, 4, 5, 6, 7, 8, 9, 10, 11, 13, 14, 15, 16, 0] rfl (t_L_isSale_980 hl9 hZ hC hr  x17 x18 x19 x21 s0 M h)
    · replace h := gq_f c168 h
      refine g_iload hC 0 rfl dL_isSale_975 ?_
      refine g_goto (tgt := 982) hC (by decide) dL_isSale_977 ?_
      exact g_weak [1, 2, 3, 4, 5, 6, 7, 8, 9, 10, 11, 13, 15, 16, 0] rfl (t_L_isSale_982 hl9 hZ hC hr  x17 x19 x21 s0 s0 M h)
def f_L_isSale_936 (N : Nat) (s0 : Int32) (M : gq_M) : Option (Int32 × gq_M) :=
  gq_g (gq_bb s0) (some (s0, M))
set_option maxHeartbeats 1000000 in
set_option maxRecDepth 20000 in
theorem t_L_isSale_936 {N : Nat} {v9 : Int32} {M9 : gq_M} (hl9 : l.stackTraces = false) (hZ : gq_Zn A s) (hC : gq_C p s m args meth c D A cI cZ ad mtL RL cL_isSale 28) (hr : meth.sig.returnType = (some .boolean))   : ∀ (s0 : Int32) (M : gq_M), f_L_isSale_936 N  s0 M = some (v9, M9) → gq_W p l e (gq_rl 10 1 6) s m args below meth c D A cI cZ ad mtL 28 (gq_NQ below D cI cZ ad mtL v9 M9 args s 1 6 A) 936 [] [.int s0] M 1 6 := by
  intro s0 M h
  unfold f_L_isSale_936 at h
  obtain ⟨g166, h⟩ := gq_g_i h
  exact g_zretsN hC (by decide) (by decide) hr (gq_bb_i g166) h dL_isSale_936
def f_L_isSale_928 (N : Nat) (s0 : Int32) (s1 : Int32) (M : gq_M) : Option (Int32 × gq_M) :=
  if s0 = s1 then (f_L_isSale_936 N  1 M) else (f_L_isSale_936 N  0 M)
set_option maxHeartbeats 1000000 in
set_option maxRecDepth 20000 in
theorem t_L_isSale_928 {N : Nat} {v9 : Int32} {M9 : gq_M} (hl9 : l.stackTraces = false) (hZ : gq_Zn A s) (hC : gq_C p s m args meth c D A cI cZ ad mtL RL cL_isSale 28) (hr : meth.sig.returnType = (some .boolean))   : ∀ (s0 : Int32) (s1 : Int32) (M : gq_M), f_L_isSale_928 N  s0 s1 M = some (v9, M9) → gq_W p l e (gq_rl 10 1 6) s m args below meth c D A cI cZ ad mtL 28 (gq_NQ below D cI cZ ad mtL v9 M9 args s 1 6 A) 928 [] [.int s1, .int s0] M 1 6 := by
  intro s0 s1 M h
  unfold f_L_isSale_928 at h
  refine g_icmp_ne (tgt := 935) hC (by decide) dL_isSale_928 (fun c165 => ?_) (fun c165 => ?_)
  · replace h := gq_f c165 h
    refine g_iconst (v := 0) hC (by decide) dL_isSale_935 ?_
    exact g_weak [] rfl (t_L_isSale_936 hl9 hZ hC hr  0 M h)
  · replace h := gq_t c165 h
    refine g_iconst (v := 1) hC (by decide) dL_isSale_931 ?_
    refine g_goto (tgt := 936) hC (by decide) dL_isSale_932 ?_
    exact g_weak [] rfl (t_L_isSale_936 hl9 hZ hC hr  1 M h)
def f_L_isSale_887 (N : Nat) (x18 : Int32) (x19 : Int32) (x20 : Int32) (x21 : Int32) (x22 : Int32) (M : gq_M) : Option (Int32 × gq_M) :=
  gq_b (f_L_does N 10 x18 x19 0 0 0 0 M) fun v158 M160 => if x20 = 0 then (f_L_isSale_928 N  v158 (-300000000) M160) else (if x22 = 0 then (f_L_isSale_928 N  v158 (-100000000) M160) else (gq_g (gq_in (x21 + 2) 24) (gq_l (M160 115 ((x21 + 2) : Int32).toNatClampNeg) fun v164 => f_L_isSale_928 N  v158 v164 M160)))
set_option maxHeartbeats 1000000 in
set_option maxRecDepth 20000 in
theorem t_L_isSale_887 {N : Nat} {v9 : Int32} {M9 : gq_M} (hl9 : l.stackTraces = false) (hZ : gq_Zn A s) (hC : gq_C p s m args meth c D A cI cZ ad mtL RL cL_isSale 28) (hr : meth.sig.returnType = (some .boolean))   : ∀ (x18 : Int32) (x19 : Int32) (x20 : Int32) (x21 : Int32) (x22 : Int32) (M : gq_M), f_L_isSale_887 N  x18 x19 x20 x21 x22 M = some (v9, M9) → gq_W p l e (gq_rl 10 1 6) s m args below meth c D A cI cZ ad mtL 28 (gq_NQ below D cI cZ ad mtL v9 M9 args s 1 6 A) 887 [(0, .ref (ad 0)), (7, .ref (ad 115)), (18, .int x18), (19, .int x19), (20, .int x20), (21, .int x21), (22, .int x22)] [] M 0 0 := by
  intro x18 x19 x20 x21 x22 M h
  unfold f_L_isSale_887 at h
  refine g_aload_n hC 0 rfl rfl dL_isSale_887 ?_
  refine g_bipush (v := 10) hC (by decide) dL_isSale_888 ?_
  refine g_iload hC 2 rfl dL_isSale_890 ?_
  refine g_iload hC 3 rfl dL_isSale_892 ?_
  refine g_iconst (v := 0) hC (by decide) dL_isSale_894 ?_
  refine g_iconst (v := 0) hC (by decide) dL_isSale_895 ?_
  refine g_iconst (v := 0) hC (by decide) dL_isSale_896 ?_
  refine g_iconst (v := 0) hC (by decide) dL_isSale_897 ?_
  obtain ⟨v158, M160, c159, h⟩ := gq_b_i h
  refine g_LNH (as := [.ref (ad 0), .int 10, .int x18, .int x19, .int 0, .int 0, .int 0, .int 0]) hC hZ (t_L_does hl9 N _ _ _ _ _ _ _ _ _ _ c159) mH_L_does wm_L_183 rfl rfl (Nat.le_of_ble_eq_true rfl) ⟨Nat.le_of_ble_eq_true rfl, Nat.le_of_ble_eq_true rfl⟩ ⟨Nat.le_of_ble_eq_true rfl, Nat.le_of_ble_eq_true rfl⟩ dL_isSale_898 ?_
  refine g_iload hC 4 rfl dL_isSale_901 ?_
  refine g_if_ne (tgt := 911) hC (by decide) dL_isSale_903 (fun c161 => ?_) (fun c161 => ?_)
  · replace h := gq_f c161 h
    refine g_iload hC 6 rfl dL_isSale_911 ?_
    refine g_if_eq (tgt := 926) hC (by decide) dL_isSale_913 (fun c162 => ?_) (fun c162 => ?_)
    · replace h := gq_t c162 h
      refine g_ldc (v := (-100000000)) hC wk_L_90 dL_isSale_926 ?_
      exact g_weak [] rfl (t_L_isSale_928 hl9 hZ hC hr  v158 (-100000000) M160 h)
    · replace h := gq_f c162 h
      refine g_aload hC 1 rfl dL_isSale_916 ?_
      refine g_iload hC 5 rfl dL_isSale_918 ?_
      refine g_iconst (v := 2) hC (by decide) dL_isSale_920 ?_
      refine g_iadd hC dL_isSale_921 ?_
      obtain ⟨g163, h⟩ := gq_g_i h
      refine g_iald hC arL_115 (gq_in_i g163) dL_isSale_922 ?_
      refine g_topi (fun v164 hv164 => ?_)
      replace h := gq_l_i hv164 h
      refine g_goto (tgt := 928) hC (by decide) dL_isSale_923 ?_
      exact g_weak [] rfl (t_L_isSale_928 hl9 hZ hC hr  v158 v164 M160 h)
  · replace h := gq_t c161 h
    refine g_ldc (v := (-300000000)) hC wk_L_84 dL_isSale_906 ?_
    refine g_goto (tgt := 928) hC (by decide) dL_isSale_908 ?_
    exact g_weak [] rfl (t_L_isSale_928 hl9 hZ hC hr  v158 (-300000000) M160 h)
def f_L_isSale_832 (N : Nat) (x18 : Int32) (x19 : Int32) (x20 : Int32) (x21 : Int32) (s0 : Int32) (M : gq_M) : Option (Int32 × gq_M) :=
  if s0 = 0 then (f_L_isSale_887 N  x18 x19 x20 x21 s0 M) else (gq_g (gq_in 0 56) (gq_l (M 119 (0 : Int32).toNatClampNeg) fun v145 => gq_g (gq_in (x21 + x18) 24) (gq_l (gq_up M 116 ((x21 + x18) : Int32).toNatClampNeg v145) fun M147 => gq_g (gq_in 0 56) (gq_l (M147 119 (0 : Int32).toNatClampNeg) fun v149 => gq_g (gq_in (32 + x18) 56) (gq_l (M147 119 ((32 + x18) : Int32).toNatClampNeg) fun v151 => gq_g (gq_in (x21 + x18) 24) (gq_l (gq_up M147 117 ((x21 + x18) : Int32).toNatClampNeg (v149 + v151)) fun M153 => gq_g (gq_in (x21 + 2) 24) (gq_l (M153 115 ((x21 + 2) : Int32).toNatClampNeg) fun v155 => gq_g (gq_in (x21 + x18) 24) (gq_l (gq_up M153 118 ((x21 + x18) : Int32).toNatClampNeg v155) fun M157 => f_L_isSale_887 N  x18 x19 x20 x21 s0 M157))))))))
set_option maxHeartbeats 1000000 in
set_option maxRecDepth 20000 in
theorem t_L_isSale_832 {N : Nat} {v9 : Int32} {M9 : gq_M} (hl9 : l.stackTraces = false) (hZ : gq_Zn A s) (hC : gq_C p s m args meth c D A cI cZ ad mtL RL cL_isSale 28) (hr : meth.sig.returnType = (some .boolean))   : ∀ (x18 : Int32) (x19 : Int32) (x20 : Int32) (x21 : Int32) (s0 : Int32) (M : gq_M), f_L_isSale_832 N  x18 x19 x20 x21 s0 M = some (v9, M9) → gq_W p l e (gq_rl 10 1 6) s m args below meth c D A cI cZ ad mtL 28 (gq_NQ below D cI cZ ad mtL v9 M9 args s 1 6 A) 832 [(0, .ref (ad 0)), (7, .ref (ad 115)), (8, .ref (ad 116)), (9, .ref (ad 117)), (10, .ref (ad 118)), (11, .ref (ad 119)), (18, .int x18), (19, .int x19), (20, .int x20), (21, .int x21)] [.int s0] M 0 0 := by
  intro x18 x19 x20 x21 s0 M h
  unfold f_L_isSale_832 at h
  refine g_istore (L2 := [(22, .int s0), (0, .ref (ad 0)), (7, .ref (ad 115)), (8, .ref (ad 116)), (9, .ref (ad 117)), (10, .ref (ad 118)), (11, .ref (ad 119)), (18, .int x18), (19, .int x19), (20, .int x20), (21, .int x21)]) hC (by decide) rfl dL_isSale_832 ?_
  refine g_iload hC 0 rfl dL_isSale_834 ?_
  refine g_if_eq (tgt := 887) hC (by decide) dL_isSale_836 (fun c143 => ?_) (fun c143 => ?_)
  · replace h := gq_t c143 h
    exact g_weak [1, 2, 7, 8, 9, 10, 0] rfl (t_L_isSale_887 hl9 hZ hC hr  x18 x19 x20 x21 s0 M h)
  · replace h := gq_f c143 h
    refine g_aload hC 3 rfl dL_isSale_839 ?_
    refine g_iload hC 10 rfl dL_isSale_841 ?_
    refine g_iload hC 7 rfl dL_isSale_843 ?_
    refine g_iadd hC dL_isSale_845 ?_
    refine g_aload hC 6 rfl dL_isSale_846 ?_
    refine g_iconst (v := 0) hC (by decide) dL_isSale_848 ?_
    obtain ⟨g144, h⟩ := gq_g_i h
    refine g_iald hC arL_119 (gq_in_i g144) dL_isSale_849 ?_
    refine g_topi (fun v145 hv145 => ?_)
    replace h := gq_l_i hv145 h
    obtain ⟨g146, h⟩ := gq_g_i h
    refine g_iast hC arL_116 (gq_in_i g146) dL_isSale_850 ?_
    refine g_topM (fun M147 hM147 => ?_)
    replace h := gq_l_i hM147 h
    refine g_aload hC 4 rfl dL_isSale_851 ?_
    refine g_iload hC 10 rfl dL_isSale_853 ?_
    refine g_iload hC 7 rfl dL_isSale_855 ?_
    refine g_iadd hC dL_isSale_857 ?_
    refine g_aload hC 6 rfl dL_isSale_858 ?_
    refine g_iconst (v := 0) hC (by decide) dL_isSale_860 ?_
    obtain ⟨g148, h⟩ := gq_g_i h
    refine g_iald hC arL_119 (gq_in_i g148) dL_isSale_861 ?_
    refine g_topi (fun v149 hv149 => ?_)
    replace h := gq_l_i hv149 h
    refine g_aload hC 6 rfl dL_isSale_862 ?_
    refine g_bipush (v := 32) hC (by decide) dL_isSale_864 ?_
    refine g_iload hC 7 rfl dL_isSale_866 ?_
    refine g_iadd hC dL_isSale_868 ?_
    obtain ⟨g150, h⟩ := gq_g_i h
    refine g_iald hC arL_119 (gq_in_i g150) dL_isSale_869 ?_
    refine g_topi (fun v151 hv151 => ?_)
    replace h := gq_l_i hv151 h
    refine g_iadd hC dL_isSale_870 ?_
    obtain ⟨g152, h⟩ := gq_g_i h
    refine g_iast hC arL_117 (gq_in_i g152) dL_isSale_871 ?_
    refine g_topM (fun M153 hM153 => ?_)
    replace h := gq_l_i hM153 h
    refine g_aload hC 5 rfl dL_isSale_872 ?_
    refine g_iload hC 10 rfl dL_isSale_874 ?_
    refine g_iload hC 7 rfl dL_isSale_876 ?_
    refine g_iadd hC dL_isSale_878 ?_
    refine g_aload hC 2 rfl dL_isSale_879 ?_
    refine g_iload hC 10 rfl dL_isSale_881 ?_
    refine g_iconst (v := 2) hC (by decide) dL_isSale_883 ?_
    refine g_iadd hC dL_isSale_884 ?_
    obtain ⟨g154, h⟩ := gq_g_i h
    refine g_iald hC arL_115 (gq_in_i g154) dL_isSale_885 ?_
    refine g_topi (fun v155 hv155 => ?_)
    replace h := gq_l_i hv155 h
    obtain ⟨g156, h⟩ := gq_g_i h
    refine g_iast hC arL_118 (gq_in_i g156) dL_isSale_886 ?_
    refine g_topM (fun M157 hM157 => ?_)
    replace h := gq_l_i hM157 h
    exact g_weak [1, 2, 7, 8, 9, 10, 0] rfl (t_L_isSale_887 hl9 hZ hC hr  x18 x19 x20 x21 s0 M157 h)
def f_L_isSale_831 (N : Nat) (x18 : Int32) (x19 : Int32) (x20 : Int32) (x21 : Int32) (M : gq_M) : Option (Int32 × gq_M) :=
  f_L_isSale_832 N  x18 x19 x20 x21 0 M
set_option maxHeartbeats 1000000 in
set_option maxRecDepth 20000 in
theorem t_L_isSale_831 {N : Nat} {v9 : Int32} {M9 : gq_M} (hl9 : l.stackTraces = false) (hZ : gq_Zn A s) (hC : gq_C p s m args meth c D A cI cZ ad mtL RL cL_isSale 28) (hr : meth.sig.returnType = (some .boolean))   : ∀ (x18 : Int32) (x19 : Int32) (x20 : Int32) (x21 : Int32) (M : gq_M), f_L_isSale_831 N  x18 x19 x20 x21 M = some (v9, M9) → gq_W p l e (gq_rl 10 1 6) s m args below meth c D A cI cZ ad mtL 28 (gq_NQ below D cI cZ ad mtL v9 M9 args s 1 6 A) 831 [(0, .ref (ad 0)), (7, .ref (ad 115)), (8, .ref (ad 116)), (9, .ref (ad 117)), (10, .ref (ad 118)), (11, .ref (ad 119)), (18, .int x18), (19, .int x19), (20, .int x20), (21, .int x21)] [] M 0 0 := by
  intro x18 x19 x20 x21 M h
  unfold f_L_isSale_831 at h
  refine g_iconst (v := 0) hC (by decide) dL_isSale_831 ?_
  exact g_weak [0, 1, 2, 3, 4, 5, 6, 7, 8, 9] rfl (t_L_isSale_832 hl9 hZ hC hr  x18 x19 x20 x21 0 M h)
def f_L_isSale_769 (N : Nat) (x15 : Int32) (x16 : Int32) (x17 : Int32) (x18 : Int32) (x19 : Int32) (x20 : Int32) (s0 : Int32) (M : gq_M) : Option (Int32 × gq_M) :=
  if 7 ≤ x15 then (if 9 ≤ x15 then (gq_g (gq_in 6 56) (gq_l (M 119 (6 : Int32).toNatClampNeg) fun v122 => if v122 = 10 then (some (1, M)) else (gq_g (gq_in 0 56) (gq_l (M 119 (0 : Int32).toNatClampNeg) fun v125 => if ((x17 / 40) - (x17 / 40) / 9 * 9) = 0 then (f_L_isSale_1302 N  x18 (v125 + (x17 - x17 / 40 * 40)) (51 * (x16 - x16 / 2 * 2)) M) else (f_L_isSale_1302 N  x18 (v125 + (x17 - x17 / 40 * 40)) (1 + ((x17 / 40) - (x17 / 40) / 6 * 6)) M))))) else (if 3 ≤ x19 then (f_L_isSale_961 N  x16 x17 x18 x19 s0 (-1) M) else (gq_g (gq_in (s0 + 4) 24) (gq_l (M 115 ((s0 + 4) : Int32).toNatClampNeg) fun v129 => f_L_isSale_961 N  x16 x17 x18 x19 s0 v129 M)))) else (if x20 = 0 then (f_L_isSale_831 N  x18 x19 x20 s0 M) else (gq_g (gq_in s0 24) (gq_l (M 115 s0.toNatClampNeg) fun v132 => if v132 = 1 then (gq_g (gq_in (s0 + 6) 24) (gq_l (M 115 ((s0 + 6) : Int32).toNatClampNeg) fun v135 => if v135 = 1 then (gq_g (gq_in (48 + x18) 56) (gq_l (M 119 ((48 + x18) : Int32).toNatClampNeg) fun v138 => if v138 = 1 then (gq_g (gq_in (s0 + x18) 24) (gq_l (M 116 ((s0 + x18) : Int32).toNatClampNeg) fun v141 => if 0 ≤ v141 then (f_L_isSale_831 N  x18 x19 x20 s0 M) else (f_L_isSale_832 N  x18 x19 x20 s0 1 M))) else (f_L_isSale_831 N  x18 x19 x20 s0 M))) else (f_L_isSale_831 N  x18 x19 x20 s0 M))) else (f_L_isSale_831 N  x18 x19 x20 s0 M))))
set_option maxHeartbeats 1000000 in
set_option maxRecDepth 20000 in
theorem t_L_isSale_769 {N : Nat} {v9 : Int32} {M9 : gq_M} (hl9 : l.stackTraces = false) (hZ : gq_Zn A s) (hC : gq_C p s m args meth c D A cI cZ ad mtL RL cL_isSale 28) (hr : meth.sig.returnType = (some .boolean))   : ∀ (x15 : Int32) (x16 : Int32) (x17 : Int32) (x18 : Int32) (x19 : Int32) (x20 : Int32) (s0 : Int32) (M : gq_M), f_L_isSale_769 N  x15 x16 x17 x18 x19 x20 s0 M = some (v9, M9) → gq_W p l e (gq_rl 10 1 6) s m args below meth c D A cI cZ ad mtL 28 (gq_NQ below D cI cZ ad mtL v9 M9 args s 1 6 A) 769 [(0, .ref (ad 0)), (1, .ref (ad 109)), (2, .ref (ad 110)), (3, .ref (ad 111)), (4, .ref (ad 112)), (5, .ref (ad 113)), (6, .ref (ad 114)), (7, .ref (ad 115)), (8, .ref (ad 116)), (9, .ref (ad 117)), (10, .ref (ad 118)), (11, .ref (ad 119)), (13, .ref (ad 121)), (14, .ref (ad 122)), (15, .int x15), (16, .int x16), (17, .int x17), (18, .int x18), (19, .int x19), (20, .int x20)] [.int s0] M 0 0 := by
  intro x15 x16 x17 x18 x19 x20 s0 M h
  unfold f_L_isSale_769 at h
  refine g_istore (L2 := [(21, .int s0), (0, .ref (ad 0)), (1, .ref (ad 109)), (2, .ref (ad 110)), (3, .ref (ad 111)), (4, .ref (ad 112)), (5, .ref (ad 113)), (6, .ref (ad 114)), (7, .ref (ad 115)), (8, .ref (ad 116)), (9, .ref (ad 117)), (10, .ref (ad 118)), (11, .ref (ad 119)), (13, .ref (ad 121)), (14, .ref (ad 122)), (15, .int x15), (16, .int x16), (17, .int x17), (18, .int x18), (19, .int x19), (20, .int x20)]) hC (by decide) rfl dL_isSale_769 ?_
  refine g_iload hC 15 rfl dL_isSale_771 ?_
  refine g_bipush (v := 7) hC (by decide) dL_isSale_773 ?_
  refine g_icmp_ge (tgt := 937) hC (by decide) dL_isSale_775 (fun c119 => ?_) (fun c119 => ?_)
  · replace h := gq_t c119 h
    refine g_iload hC 15 rfl dL_isSale_937 ?_
    refine g_bipush (v := 9) hC (by decide) dL_isSale_939 ?_
    refine g_icmp_ge (tgt := 1247) hC (by decide) dL_isSale_941 (fun c120 => ?_) (fun c120 => ?_)
    · replace h := gq_t c120 h
      refine g_aload hC 12 rfl dL_isSale_1247 ?_
      refine g_bipush (v := 6) hC (by decide) dL_isSale_1249 ?_
      obtain ⟨g121, h⟩ := gq_g_i h
      refine g_iald hC arL_119 (gq_in_i g121) dL_isSale_1251 ?_
      refine g_topi (fun v122 hv122 => ?_)
      replace h := gq_l_i hv122 h
      refine g_bipush (v := 10) hC (by decide) dL_isSale_1252 ?_
      refine g_icmp_ne (tgt := 1259) hC (by decide) dL_isSale_1254 (fun c123 => ?_) (fun c123 => ?_)
      · replace h := gq_f c123 h
        refine g_aload hC 12 rfl dL_isSale_1259 ?_
        refine g_iconst (v := 0) hC (by decide) dL_isSale_1261 ?_
        obtain ⟨g124, h⟩ := gq_g_i h
        refine g_iald hC arL_119 (gq_in_i g124) dL_isSale_1262 ?_
        refine g_topi (fun v125 hv125 => ?_)
        replace h := gq_l_i hv125 h
        refine g_iload hC 17 rfl dL_isSale_1263 ?_
        refine g_bipush (v := 40) hC (by decide) dL_isSale_1265 ?_
        refine g_irem hC (by decide) dL_isSale_1267 ?_
        refine g_iadd hC dL_isSale_1268 ?_
        refine g_istore (L2 := [(22, .int (v125 + (x17 - x17 / 40 * 40))), (21, .int s0), (0, .ref (ad 0)), (1, .ref (ad 109)), (2, .ref (ad 110)), (3, .ref (ad 111)), (4, .ref (ad 112)), (5, .ref (ad 113)), (6, .ref (ad 114)), (7, .ref (ad 115)), (8, .ref (ad 116)), (9, .ref (ad 117)), (10, .ref (ad 118)), (11, .ref (ad 119)), (13, .ref (ad 121)), (14, .ref (ad 122)), (15, .int x15), (16, .int x16), (17, .int x17), (18, .int x18), (19, .int x19), (20, .int x20)]) hC (by decide) rfl dL_isSale_1269 ?_
        refine g_iload hC 18 rfl dL_isSale_1271 ?_
        refine g_bipush (v := 40) hC (by decide) dL_isSale_1273 ?_
        refine g_idiv hC (by decide) dL_isSale_1275 ?_
        refine g_bipush (v := 9) hC (by decide) dL_isSale_1276 ?_
        refine g_irem hC (by decide) dL_isSale_1278 ?_
        refine g_if_ne (tgt := 1292) hC (by decide) dL_isSale_1279 (fun c126 => ?_) (fun c126 => ?_)
        · replace h := gq_f c126 h
          refine g_iconst (v := 1) hC (by decide) dL_isSale_1292 ?_
          refine g_iload hC 18 rfl dL_isSale_1293 ?_
          refine g_bipush (v := 40) hC (by decide) dL_isSale_1295 ?_
          refine g_idiv hC (by decide) dL_isSale_1297 ?_
          refine g_bipush (v := 6) hC (by decide) dL_isSale_1298 ?_
          refine g_irem hC (by decide) dL_isSale_1300 ?_
          refine g_iadd hC dL_isSale_1301 ?_
          exact g_weak [2, 13, 15, 19, 0] rfl (t_L_isSale_1302 hl9 hZ hC hr  x18 (v125 + (x17 - x17 / 40 * 40)) (1 + ((x17 / 40) - (x17 / 40) / 6 * 6)) M h)
        · replace h := gq_t c126 h
          refine g_bipush (v := 51) hC (by decide) dL_isSale_1282 ?_
          refine g_iload hC 17 rfl dL_isSale_1284 ?_
          refine g_iconst (v := 2) hC (by decide) dL_isSale_1286 ?_
          refine g_irem hC (by decide) dL_isSale_1287 ?_
          refine g_imul hC dL_isSale_1288 ?_
          refine g_goto (tgt := 1302) hC (by decide) dL_isSale_1289 ?_
          exact g_weak [2, 13, 15, 19, 0] rfl (t_L_isSale_1302 hl9 hZ hC hr  x18 (v125 + (x17 - x17 / 40 * 40)) (51 * (x16 - x16 / 2 * 2)) M h)
      · replace h := gq_t c123 h
        refine g_iconst (v := 1) hC (by decide) dL_isSale_1257 ?_
        exact g_zretsN hC (by decide) (by decide) hr gq_bit1 h dL_isSale_1258
    · replace h := gq_f c120 h
      refine g_iload hC 19 rfl dL_isSale_944 ?_
      refine g_iconst (v := 3) hC (by decide) dL_isSale_946 ?_
      refine g_icmp_ge (tgt := 960) hC (by decide) dL_isSale_947 (fun c127 => ?_) (fun c127 => ?_)
      · replace h := gq_t c127 h
        refine g_iconst (v := (-1)) hC (by decide) dL_isSale_960 ?_
        exact g_weak [1, 2, 3, 4, 5, 6, 7, 8, 9, 12, 13, 16, 17, 18, 19, 0] rfl (t_L_isSale_961 hl9 hZ hC hr  x16 x17 x18 x19 s0 (-1) M h)
      · replace h := gq_f c127 h
        refine g_aload hC 8 rfl dL_isSale_950 ?_
        refine g_iload hC 0 rfl dL_isSale_952 ?_
        refine g_iconst (v := 4) hC (by decide) dL_isSale_954 ?_
        refine g_iadd hC dL_isSale_955 ?_
        obtain ⟨g128, h⟩ := gq_g_i h
        refine g_iald hC arL_115 (gq_in_i g128) dL_isSale_956 ?_
        refine g_topi (fun v129 hv129 => ?_)
        replace h := gq_l_i hv129 h
        refine g_goto (tgt := 961) hC (by decide) dL_isSale_957 ?_
        exact g_weak [1, 2, 3, 4, 5, 6, 7, 8, 9, 12, 13, 16, 17, 18, 19, 0] rfl (t_L_isSale_961 hl9 hZ hC hr  x16 x17 x18 x19 s0 v129 M h)
  · replace h := gq_f c119 h
    refine g_iload hC 20 rfl dL_isSale_778 ?_
    refine g_if_eq (tgt := 831) hC (by decide) dL_isSale_780 (fun c130 => ?_) (fun c130 => ?_)
    · replace h := gq_t c130 h
      exact g_weak [1, 8, 9, 10, 11, 12, 18, 19, 20, 0] rfl (t_L_isSale_831 hl9 hZ hC hr  x18 x19 x20 s0 M h)
    · replace h := gq_f c130 h
      refine g_aload hC 8 rfl dL_isSale_783 ?_
      refine g_iload hC 0 rfl dL_isSale_785 ?_
      obtain ⟨g131, h⟩ := gq_g_i h
      refine g_iald hC arL_115 (gq_in_i g131) dL_isSale_787 ?_
      refine g_topi (fun v132 hv132 => ?_)
      replace h := gq_l_i hv132 h
      refine g_iconst (v := 1) hC (by decide) dL_isSale_788 ?_
      refine g_icmp_ne (tgt := 831) hC (by decide) dL_isSale_789 (fun c133 => ?_) (fun c133 => ?_)
      · replace h := gq_f c133 h
        exact g_weak [1, 8, 9, 10, 11, 12, 18, 19, 20, 0] rfl (t_L_isSale_831 hl9 hZ hC hr  x18 x19 x20 s0 M h)
      · replace h := gq_t c133 h
        refine g_aload hC 8 rfl dL_isSale_792 ?_
        refine g_iload hC 0 rfl dL_isSale_794 ?_
        refine g_bipush (v := 6) hC (by decide) dL_isSale_796 ?_
        refine g_iadd hC dL_isSale_798 ?_
        obtain ⟨g134, h⟩ := gq_g_i h
        refine g_iald hC arL_115 (gq_in_i g134) dL_isSale_799 ?_
        refine g_topi (fun v135 hv135 => ?_)
        replace h := gq_l_i hv135 h
        refine g_iconst (v := 1) hC (by decide) dL_isSale_800 ?_
        refine g_icmp_ne (tgt := 831) hC (by decide) dL_isSale_801 (fun c136 => ?_) (fun c136 => ?_)
        · replace h := gq_f c136 h
          exact g_weak [1, 8, 9, 10, 11, 12, 18, 19, 20, 0] rfl (t_L_isSale_831 hl9 hZ hC hr  x18 x19 x20 s0 M h)
        · replace h := gq_t c136 h
          refine g_aload hC 12 rfl dL_isSale_804 ?_
          refine g_bipush (v := 48) hC (by decide) dL_isSale_806 ?_
          refine g_iload hC 18 rfl dL_isSale_808 ?_
          refine g_iadd hC dL_isSale_810 ?_
          obtain ⟨g137, h⟩ := gq_g_i h
          refine g_iald hC arL_119 (gq_in_i g137) dL_isSale_811 ?_
          refine g_topi (fun v138 hv138 => ?_)
          replace h := gq_l_i hv138 h
          refine g_iconst (v := 1) hC (by decide) dL_isSale_812 ?_
          refine g_icmp_ne (tgt := 831) hC (by decide) dL_isSale_813 (fun c139 => ?_) (fun c139 => ?_)
          · replace h := gq_f c139 h
            exact g_weak [1, 8, 9, 10, 11, 12, 18, 19, 20, 0] rfl (t_L_isSale_831 hl9 hZ hC hr  x18 x19 x20 s0 M h)
          · replace h := gq_t c139 h
            refine g_aload hC 9 rfl dL_isSale_816 ?_
            refine g_iload hC 0 rfl dL_isSale_818 ?_
            refine g_iload hC 18 rfl dL_isSale_820 ?_
            refine g_iadd hC dL_isSale_822 ?_
            obtain ⟨g140, h⟩ := gq_g_i h
            refine g_iald hC arL_116 (gq_in_i g140) dL_isSale_823 ?_
            refine g_topi (fun v141 hv141 => ?_)
            replace h := gq_l_i hv141 h
            refine g_if_ge (tgt := 831) hC (by decide) dL_isSale_824 (fun c142 => ?_) (fun c142 => ?_)
            · replace h := gq_t c142 h
              exact g_weak [1, 8, 9, 10, 11, 12, 18, 19, 20, 0] rfl (t_L_isSale_831 hl9 hZ hC hr  x18 x19 x20 s0 M h)
            · replace h := gq_f c142 h
              refine g_iconst (v := 1) hC (by decide) dL_isSale_827 ?_
              refine g_goto (tgt := 832) hC (by decide) dL_isSale_828 ?_
              exact g_weak [1, 8, 9, 10, 11, 12, 18, 19, 20, 0] rfl (t_L_isSale_832 hl9 hZ hC hr  x18 x19 x20 s0 1 M h)
def f_L_isSale_752 (N : Nat) (x15 : Int32) (x16 : Int32) (x17 : Int32) (x18 : Int32) (x19 : Int32) (s0 : Int32) (M : gq_M) : Option (Int32 × gq_M) :=
  if 3 ≤ x19 then (f_L_isSale_769 N  x15 x16 x17 x18 x19 s0 0 M) else (f_L_isSale_769 N  x15 x16 x17 x18 x19 s0 (8 * x19) M)
set_option maxHeartbeats 1000000 in
set_option maxRecDepth 20000 in
theorem t_L_isSale_752 {N : Nat} {v9 : Int32} {M9 : gq_M} (hl9 : l.stackTraces = false) (hZ : gq_Zn A s) (hC : gq_C p s m args meth c D A cI cZ ad mtL RL cL_isSale 28) (hr : meth.sig.returnType = (some .boolean))   : ∀ (x15 : Int32) (x16 : Int32) (x17 : Int32) (x18 : Int32) (x19 : Int32) (s0 : Int32) (M : gq_M), f_L_isSale_752 N  x15 x16 x17 x18 x19 s0 M = some (v9, M9) → gq_W p l e (gq_rl 10 1 6) s m args below meth c D A cI cZ ad mtL 28 (gq_NQ below D cI cZ ad mtL v9 M9 args s 1 6 A) 752 [(0, .ref (ad 0)), (1, .ref (ad 109)), (2, .ref (ad 110)), (3, .ref (ad 111)), (4, .ref (ad 112)), (5, .ref (ad 113)), (6, .ref (ad 114)), (7, .ref (ad 115)), (8, .ref (ad 116)), (9, .ref (ad 117)), (10, .ref (ad 118)), (11, .ref (ad 119)), (13, .ref (ad 121)), (14, .ref (ad 122)), (15, .int x15), (16, .int x16), (17, .int x17), (18, .int x18), (19, .int x19)] [.int s0] M 0 0 := by
  intro x15 x16 x17 x18 x19 s0 M h
  unfold f_L_isSale_752 at h
  refine g_istore (L2 := [(20, .int s0), (0, .ref (ad 0)), (1, .ref (ad 109)), (2, .ref (ad 110)), (3, .ref (ad 111)), (4, .ref (ad 112)), (5, .ref (ad 113)), (6, .ref (ad 114)), (7, .ref (ad 115)), (8, .ref (ad 116)), (9, .ref (ad 117)), (10, .ref (ad 118)), (11, .ref (ad 119)), (13, .ref (ad 121)), (14, .ref (ad 122)), (15, .int x15), (16, .int x16), (17, .int x17), (18, .int x18), (19, .int x19)]) hC (by decide) rfl dL_isSale_752 ?_
  refine g_iload hC 19 rfl dL_isSale_754 ?_
  refine g_iconst (v := 3) hC (by decide) dL_isSale_756 ?_
  refine g_icmp_ge (tgt := 768) hC (by decide) dL_isSale_757 (fun c118 => ?_) (fun c118 => ?_)
  · replace h := gq_t c118 h
    refine g_iconst (v := 0) hC (by decide) dL_isSale_768 ?_
    exact g_weak [1, 2, 3, 4, 5, 6, 7, 8, 9, 10, 11, 12, 13, 14, 15, 16, 17, 18, 19, 0] rfl (t_L_isSale_769 hl9 hZ hC hr  x15 x16 x17 x18 x19 s0 0 M h)
  · replace h := gq_f c118 h
    refine g_bipush (v := 8) hC (by decide) dL_isSale_760 ?_
    refine g_iload hC 19 rfl dL_isSale_762 ?_
    refine g_imul hC dL_isSale_764 ?_
    refine g_goto (tgt := 769) hC (by decide) dL_isSale_765 ?_
    exact g_weak [1, 2, 3, 4, 5, 6, 7, 8, 9, 10, 11, 12, 13, 14, 15, 16, 17, 18, 19, 0] rfl (t_L_isSale_769 hl9 hZ hC hr  x15 x16 x17 x18 x19 s0 (8 * x19) M h)
def f_L_isSale_751 (N : Nat) (x15 : Int32) (x16 : Int32) (x17 : Int32) (x18 : Int32) (x19 : Int32) (M : gq_M) : Option (Int32 × gq_M) :=
  f_L_isSale_752 N  x15 x16 x17 x18 x19 0 M
set_option maxHeartbeats 1000000 in
set_option maxRecDepth 20000 in
theorem t_L_isSale_751 {N : Nat} {v9 : Int32} {M9 : gq_M} (hl9 : l.stackTraces = false) (hZ : gq_Zn A s) (hC : gq_C p s m args meth c D A cI cZ ad mtL RL cL_isSale 28) (hr : meth.sig.returnType = (some .boolean))   : ∀ (x15 : Int32) (x16 : Int32) (x17 : Int32) (x18 : Int32) (x19 : Int32) (M : gq_M), f_L_isSale_751 N  x15 x16 x17 x18 x19 M = some (v9, M9) → gq_W p l e (gq_rl 10 1 6) s m args below meth c D A cI cZ ad mtL 28 (gq_NQ below D cI cZ ad mtL v9 M9 args s 1 6 A) 751 [(0, .ref (ad 0)), (1, .ref (ad 109)), (2, .ref (ad 110)), (3, .ref (ad 111)), (4, .ref (ad 112)), (5, .ref (ad 113)), (6, .ref (ad 114)), (7, .ref (ad 115)), (8, .ref (ad 116)), (9, .ref (ad 117)), (10, .ref (ad 118)), (11, .ref (ad 119)), (13, .ref (ad 121)), (14, .ref (ad 122)), (15, .int x15), (16, .int x16), (17, .int x17), (18, .int x18), (19, .int x19)] [] M 0 0 := by
  intro x15 x16 x17 x18 x19 M h
  unfold f_L_isSale_751 at h
  refine g_iconst (v := 0) hC (by decide) dL_isSale_751 ?_
  exact g_weak [0, 1, 2, 3, 4, 5, 6, 7, 8, 9, 10, 11, 12, 13, 14, 15, 16, 17, 18] rfl (t_L_isSale_752 hl9 hZ hC hr  x15 x16 x17 x18 x19 0 M h)
def f_L_isSale_732 (N : Nat) (x15 : Int32) (x16 : Int32) (x17 : Int32) (x18 : Int32) (s0 : Int32) (M : gq_M) : Option (Int32 × gq_M) :=
  if 8 ≤ x18 then (f_L_isSale_751 N  x15 x16 x17 x18 s0 M) else (if 3 ≤ s0 then (f_L_isSale_751 N  x15 x16 x17 x18 s0 M) else (f_L_isSale_752 N  x15 x16 x17 x18 s0 1 M))
set_option maxHeartbeats 1000000 in
set_option maxRecDepth 20000 in
theorem t_L_isSale_732 {N : Nat} {v9 : Int32} {M9 : gq_M} (hl9 : l.stackTraces = false) (hZ : gq_Zn A s) (hC : gq_C p s m args meth c D A cI cZ ad mtL RL cL_isSale 28) (hr : meth.sig.returnType = (some .boolean))   : ∀ (x15 : Int32) (x16 : Int32) (x17 : Int32) (x18 : Int32) (s0 : Int32) (M : gq_M), f_L_isSale_732 N  x15 x16 x17 x18 s0 M = some (v9, M9) → gq_W p l e (gq_rl 10 1 6) s m args below meth c D A cI cZ ad mtL 28 (gq_NQ below D cI cZ ad mtL v9 M9 args s 1 6 A) 732 [(0, .ref (ad 0)), (1, .ref (ad 109)), (2, .ref (ad 110)), (3, .ref (ad 111)), (4, .ref (ad 112)), (5, .ref (ad 113)), (6, .ref (ad 114)), (7, .ref (ad 115)), (8, .ref (ad 116)), (9, .ref (ad 117)), (10, .ref (ad 118)), (11, .ref (ad 119)), (13, .ref (ad 121)), (14, .ref (ad 122)), (15, .int x15), (16, .int x16), (17, .int x17), (18, .int x18)] [.int s0] M 0 0 := by
  intro x15 x16 x17 x18 s0 M h
  unfold f_L_isSale_732 at h
  refine g_istore (L2 := [(19, .int s0), (0, .ref (ad 0)), (1, .ref (ad 109)), (2, .ref (ad 110)), (3, .ref (ad 111)), (4, .ref (ad 112)), (5, .ref (ad 113)), (6, .ref (ad 114)), (7, .ref (ad 115)), (8, .ref (ad 116)), (9, .ref (ad 117)), (10, .ref (ad 118)), (11, .ref (ad 119)), (13, .ref (ad 121)), (14, .ref (ad 122)), (15, .int x15), (16, .int x16), (17, .int x17), (18, .int x18)]) hC (by decide) rfl dL_isSale_732 ?_
  refine g_iload hC 18 rfl dL_isSale_734 ?_
  refine g_bipush (v := 8) hC (by decide) dL_isSale_736 ?_
  refine g_icmp_ge (tgt := 751) hC (by decide) dL_isSale_738 (fun c116 => ?_) (fun c116 => ?_)
  · replace h := gq_t c116 h
    exact g_weak [1, 2, 3, 4, 5, 6, 7, 8, 9, 10, 11, 12, 13, 14, 15, 16, 17, 18, 0] rfl (t_L_isSale_751 hl9 hZ hC hr  x15 x16 x17 x18 s0 M h)
  · replace h := gq_f c116 h
    refine g_iload hC 0 rfl dL_isSale_741 ?_
    refine g_iconst (v := 3) hC (by decide) dL_isSale_743 ?_
    refine g_icmp_ge (tgt := 751) hC (by decide) dL_isSale_744 (fun c117 => ?_) (fun c117 => ?_)
    · replace h := gq_t c117 h
      exact g_weak [1, 2, 3, 4, 5, 6, 7, 8, 9, 10, 11, 12, 13, 14, 15, 16, 17, 18, 0] rfl (t_L_isSale_751 hl9 hZ hC hr  x15 x16 x17 x18 s0 M h)
    · replace h := gq_f c117 h
      refine g_iconst (v := 1) hC (by decide) dL_isSale_747 ?_
      refine g_goto (tgt := 752) hC (by decide) dL_isSale_748 ?_
      exact g_weak [1, 2, 3, 4, 5, 6, 7, 8, 9, 10, 11, 12, 13, 14, 15, 16, 17, 18, 0] rfl (t_L_isSale_752 hl9 hZ hC hr  x15 x16 x17 x18 s0 1 M h)
def f_L_isSale_712 (N : Nat) (x15 : Int32) (x16 : Int32) (x17 : Int32) (s0 : Int32) (M : gq_M) : Option (Int32 × gq_M) :=
  if (x17 - x17 / 13 * 13) = 12 then (f_L_isSale_732 N  x15 x16 x17 s0 3 M) else (f_L_isSale_732 N  x15 x16 x17 s0 (x17 - x17 / 3 * 3) M)
set_option maxHeartbeats 1000000 in
set_option maxRecDepth 20000 in
theorem t_L_isSale_712 {N : Nat} {v9 : Int32} {M9 : gq_M} (hl9 : l.stackTraces = false) (hZ : gq_Zn A s) (hC : gq_C p s m args meth c D A cI cZ ad mtL RL cL_isSale 28) (hr : meth.sig.returnType = (some .boolean))   : ∀ (x15 : Int32) (x16 : Int32) (x17 : Int32) (s0 : Int32) (M : gq_M), f_L_isSale_712 N  x15 x16 x17 s0 M = some (v9, M9) → gq_W p l e (gq_rl 10 1 6) s m args below meth c D A cI cZ ad mtL 28 (gq_NQ below D cI cZ ad mtL v9 M9 args s 1 6 A) 712 [(0, .ref (ad 0)), (1, .ref (ad 109)), (2, .ref (ad 110)), (3, .ref (ad 111)), (4, .ref (ad 112)), (5, .ref (ad 113)), (6, .ref (ad 114)), (7, .ref (ad 115)), (8, .ref (ad 116)), (9, .ref (ad 117)), (10, .ref (ad 118)), (11, .ref (ad 119)), (13, .ref (ad 121)), (14, .ref (ad 122)), (15, .int x15), (16, .int x16), (17, .int x17)] [.int s0] M 0 0 := by
  intro x15 x16 x17 s0 M h
  unfold f_L_isSale_712 at h
  refine g_istore (L2 := [(18, .int s0), (0, .ref (ad 0)), (1, .ref (ad 109)), (2, .ref (ad 110)), (3, .ref (ad 111)), (4, .ref (ad 112)), (5, .ref (ad 113)), (6, .ref (ad 114)), (7, .ref (ad 115)), (8, .ref (ad 116)), (9, .ref (ad 117)), (10, .ref (ad 118)), (11, .ref (ad 119)), (13, .ref (ad 121)), (14, .ref (ad 122)), (15, .int x15), (16, .int x16), (17, .int x17)]) hC (by decide) rfl dL_isSale_712 ?_
  refine g_iload hC 17 rfl dL_isSale_714 ?_
  refine g_bipush (v := 13) hC (by decide) dL_isSale_716 ?_
  refine g_irem hC (by decide) dL_isSale_718 ?_
  refine g_bipush (v := 12) hC (by decide) dL_isSale_719 ?_
  refine g_icmp_ne (tgt := 728) hC (by decide) dL_isSale_721 (fun c115 => ?_) (fun c115 => ?_)
  · replace h := gq_f c115 h
    refine g_iload hC 17 rfl dL_isSale_728 ?_
    refine g_iconst (v := 3) hC (by decide) dL_isSale_730 ?_
    refine g_irem hC (by decide) dL_isSale_731 ?_
    exact g_weak [1, 2, 3, 4, 5, 6, 7, 8, 9, 10, 11, 12, 13, 14, 15, 16, 17, 0] rfl (t_L_isSale_732 hl9 hZ hC hr  x15 x16 x17 s0 (x17 - x17 / 3 * 3) M h)
  · replace h := gq_t c115 h
    refine g_iconst (v := 3) hC (by decide) dL_isSale_724 ?_
    refine g_goto (tgt := 732) hC (by decide) dL_isSale_725 ?_
    exact g_weak [1, 2, 3, 4, 5, 6, 7, 8, 9, 10, 11, 12, 13, 14, 15, 16, 17, 0] rfl (t_L_isSale_732 hl9 hZ hC hr  x15 x16 x17 s0 3 M h)
def f_L_isSale_692 (N : Nat) (s0 : Int32) (M : gq_M) : Option (Int32 × gq_M) :=
  gq_g (gq_bb s0) (some (s0, M))
set_option maxHeartbeats 1000000 in
set_option maxRecDepth 20000 in
theorem t_L_isSale_692 {N : Nat} {v9 : Int32} {M9 : gq_M} (hl9 : l.stackTraces = false) (hZ : gq_Zn A s) (hC : gq_C p s m args meth c D A cI cZ ad mtL RL cL_isSale 28) (hr : meth.sig.returnType = (some .boolean))   : ∀ (s0 : Int32) (M : gq_M), f_L_isSale_692 N  s0 M = some (v9, M9) → gq_W p l e (gq_rl 10 1 6) s m args below meth c D A cI cZ ad mtL 28 (gq_NQ below D cI cZ ad mtL v9 M9 args s 1 6 A) 692 [] [.int s0] M 1 6 := by
  intro s0 M h
  unfold f_L_isSale_692 at h
  obtain ⟨g114, h⟩ := gq_g_i h
  exact g_zretsN hC (by decide) (by decide) hr (gq_bb_i g114) h dL_isSale_692
def f_L_isSale_684 (N : Nat) (s0 : Int32) (s1 : Int32) (M : gq_M) : Option (Int32 × gq_M) :=
  if s0 = s1 then (f_L_isSale_692 N  1 M) else (f_L_isSale_692 N  0 M)
set_option maxHeartbeats 1000000 in
set_option maxRecDepth 20000 in
theorem t_L_isSale_684 {N : Nat} {v9 : Int32} {M9 : gq_M} (hl9 : l.stackTraces = false) (hZ : gq_Zn A s) (hC : gq_C p s m args meth c D A cI cZ ad mtL RL cL_isSale 28) (hr : meth.sig.returnType = (some .boolean))   : ∀ (s0 : Int32) (s1 : Int32) (M : gq_M), f_L_isSale_684 N  s0 s1 M = some (v9, M9) → gq_W p l e (gq_rl 10 1 6) s m args below meth c D A cI cZ ad mtL 28 (gq_NQ below D cI cZ ad mtL v9 M9 args s 1 6 A) 684 [] [.int s1, .int s0] M 1 6 := by
  intro s0 s1 M h
  unfold f_L_isSale_684 at h
  refine g_icmp_ne (tgt := 691) hC (by decide) dL_isSale_684 (fun c113 => ?_) (fun c113 => ?_)
  · replace h := gq_f c113 h
    refine g_iconst (v := 0) hC (by decide) dL_isSale_691 ?_
    exact g_weak [] rfl (t_L_isSale_692 hl9 hZ hC hr  0 M h)
  · replace h := gq_t c113 h
    refine g_iconst (v := 1) hC (by decide) dL_isSale_687 ?_
    refine g_goto (tgt := 692) hC (by decide) dL_isSale_688 ?_
    exact g_weak [] rfl (t_L_isSale_692 hl9 hZ hC hr  1 M h)
def f_L_isSale_660 (N : Nat) (x18 : Int32) (x19 : Int32) (M : gq_M) : Option (Int32 × gq_M) :=
  gq_b (f_L_does N 9 0 0 0 0 0 0 M) fun v109 M111 => if x19 = 0 then (f_L_isSale_684 N  v109 (-100000000) M111) else (f_L_isSale_684 N  v109 x18 M111)
set_option maxHeartbeats 1000000 in
set_option maxRecDepth 20000 in
theorem t_L_isSale_660 {N : Nat} {v9 : Int32} {M9 : gq_M} (hl9 : l.stackTraces = false) (hZ : gq_Zn A s) (hC : gq_C p s m args meth c D A cI cZ ad mtL RL cL_isSale 28) (hr : meth.sig.returnType = (some .boolean))   : ∀ (x18 : Int32) (x19 : Int32) (M : gq_M), f_L_isSale_660 N  x18 x19 M = some (v9, M9) → gq_W p l e (gq_rl 10 1 6) s m args below meth c D A cI cZ ad mtL 28 (gq_NQ below D cI cZ ad mtL v9 M9 args s 1 6 A) 660 [(0, .ref (ad 0)), (18, .int x18), (19, .int x19)] [] M 0 0 := by
  intro x18 x19 M h
  unfold f_L_isSale_660 at h
  refine g_aload_n hC 0 rfl rfl dL_isSale_660 ?_
  refine g_bipush (v := 9) hC (by decide) dL_isSale_661 ?_
  refine g_iconst (v := 0) hC (by decide) dL_isSale_663 ?_
  refine g_iconst (v := 0) hC (by decide) dL_isSale_664 ?_
  refine g_iconst (v := 0) hC (by decide) dL_isSale_665 ?_
  refine g_iconst (v := 0) hC (by decide) dL_isSale_666 ?_
  refine g_iconst (v := 0) hC (by decide) dL_isSale_667 ?_
  refine g_iconst (v := 0) hC (by decide) dL_isSale_668 ?_
  obtain ⟨v109, M111, c110, h⟩ := gq_b_i h
  refine g_LNH (as := [.ref (ad 0), .int 9, .int 0, .int 0, .int 0, .int 0, .int 0, .int 0]) hC hZ (t_L_does hl9 N _ _ _ _ _ _ _ _ _ _ c110) mH_L_does wm_L_183 rfl rfl (Nat.le_of_ble_eq_true rfl) ⟨Nat.le_of_ble_eq_true rfl, Nat.le_of_ble_eq_true rfl⟩ ⟨Nat.le_of_ble_eq_true rfl, Nat.le_of_ble_eq_true rfl⟩ dL_isSale_669 ?_
  refine g_iload hC 2 rfl dL_isSale_672 ?_
  refine g_if_eq (tgt := 682) hC (by decide) dL_isSale_674 (fun c112 => ?_) (fun c112 => ?_)
  · replace h := gq_t c112 h
    refine g_ldc (v := (-100000000)) hC wk_L_90 dL_isSale_682 ?_
    exact g_weak [] rfl (t_L_isSale_684 hl9 hZ hC hr  v109 (-100000000) M111 h)
  · replace h := gq_f c112 h
    refine g_iload hC 1 rfl dL_isSale_677 ?_
    refine g_goto (tgt := 684) hC (by decide) dL_isSale_679 ?_
    exact g_weak [] rfl (t_L_isSale_684 hl9 hZ hC hr  v109 x18 M111 h)
def f_L_isSale_640_b (N : Nat) (kh640 : Int32 → Int32 → Int32 → gq_M → Option (Int32 × gq_M)) (x18 : Int32) (x19 : Int32) (x20 : Int32) (M : gq_M) : Option (Int32 × gq_M) :=
  gq_g (gq_in 4 56) (gq_l (M 119 (4 : Int32).toNatClampNeg) fun v105 => if v105 ≤ x20 then (f_L_isSale_660 N  x18 x19 M) else (gq_g (gq_in x20 40) (gq_l (gq_up M 111 x20.toNatClampNeg (-1)) fun M108 => kh640 x18 x19 (x20 + 1) M108)))
def f_L_isSale_640 (N : Nat) : Nat → Int32 → Int32 → Int32 → gq_M → Option (Int32 × gq_M)
  | 0 => fun _ _ _ _ => none
  | n9 + 1 => f_L_isSale_640_b N  (f_L_isSale_640 N  n9)
set_option maxHeartbeats 1000000 in
set_option maxRecDepth 20000 in
theorem t_L_isSale_640_b {N : Nat} {kh640 : Int32 → Int32 → Int32 → gq_M → Option (Int32 × gq_M)} {v9 : Int32} {M9 : gq_M} (hl9 : l.stackTraces = false) (hZ : gq_Zn A s) (hC : gq_C p s m args meth c D A cI cZ ad mtL RL cL_isSale 28) (hr : meth.sig.returnType = (some .boolean))  (hk640 : ∀ (x18 : Int32) (x19 : Int32) (x20 : Int32) (M : gq_M), kh640 x18 x19 x20 M = some (v9, M9) → gq_W p l e (gq_rl 10 1 6) s m args below meth c D A cI cZ ad mtL 28 (gq_NQ below D cI cZ ad mtL v9 M9 args s 1 6 A) 640 [(0, .ref (ad 0)), (3, .ref (ad 111)), (11, .ref (ad 119)), (18, .int x18), (19, .int x19), (20, .int x20)] [] M 0 0) : ∀ (x18 : Int32) (x19 : Int32) (x20 : Int32) (M : gq_M), f_L_isSale_640_b N  kh640 x18 x19 x20 M = some (v9, M9) → gq_W p l e (gq_rl 10 1 6) s m args below meth c D A cI cZ ad mtL 28 (gq_NQ below D cI cZ ad mtL v9 M9 args s 1 6 A) 640 [(0, .ref (ad 0)), (3, .ref (ad 111)), (11, .ref (ad 119)), (18, .int x18), (19, .int x19), (20, .int x20)] [] M 0 0 := by
  intro x18 x19 x20 M h
  unfold f_L_isSale_640_b at h
  refine g_iload hC 5 rfl dL_isSale_640 ?_
  refine g_aload hC 2 rfl dL_isSale_642 ?_
  refine g_iconst (v := 4) hC (by decide) dL_isSale_644 ?_
  obtain ⟨g104, h⟩ := gq_g_i h
  refine g_iald hC arL_119 (gq_in_i g104) dL_isSale_645 ?_
  refine g_topi (fun v105 hv105 => ?_)
  replace h := gq_l_i hv105 h
  refine g_icmp_ge (tgt := 660) hC (by decide) dL_isSale_646 (fun c106 => ?_) (fun c106 => ?_)
  · replace h := gq_t c106 h
    exact g_weak [0, 3, 4] rfl (t_L_isSale_660 hl9 hZ hC hr  x18 x19 M h)
  · replace h := gq_f c106 h
    refine g_aload_n hC 1 rfl rfl dL_isSale_649 ?_
    refine g_iload hC 5 rfl dL_isSale_650 ?_
    refine g_iconst (v := (-1)) hC (by decide) dL_isSale_652 ?_
    obtain ⟨g107, h⟩ := gq_g_i h
    refine g_iast hC arL_111 (gq_in_i g107) dL_isSale_653 ?_
    refine g_topM (fun M108 hM108 => ?_)
    replace h := gq_l_i hM108 h
    refine g_iinc (v := (x20 + 1)) (L2 := [(20, .int (x20 + 1)), (0, .ref (ad 0)), (3, .ref (ad 111)), (11, .ref (ad 119)), (18, .int x18), (19, .int x19)]) hC 5 rfl (by first | rfl | decide) (by decide) rfl dL_isSale_654 ?_
    refine g_goto (tgt := 640) hC (by decide) dL_isSale_657 ?_
    exact g_weak [1, 2, 3, 4, 5, 0] rfl (hk640 x18 x19 (x20 + 1) M108 h)
theorem t_L_isSale_640 {N : Nat} {v9 : Int32} {M9 : gq_M} (hl9 : l.stackTraces = false) (hZ : gq_Zn A s) (hC : gq_C p s m args meth c D A cI cZ ad mtL RL cL_isSale 28) (hr : meth.sig.returnType = (some .boolean))  : ∀ (n9 : Nat) (x18 : Int32) (x19 : Int32) (x20 : Int32) (M : gq_M), f_L_isSale_640 N  n9 x18 x19 x20 M = some (v9, M9) → gq_W p l e (gq_rl 10 1 6) s m args below meth c D A cI cZ ad mtL 28 (gq_NQ below D cI cZ ad mtL v9 M9 args s 1 6 A) 640 [(0, .ref (ad 0)), (3, .ref (ad 111)), (11, .ref (ad 119)), (18, .int x18), (19, .int x19), (20, .int x20)] [] M 0 0 := by
  intro n9
  induction n9 with
  | zero => intro x18 x19 x20 M h; cases h
  | succ n9 ih => intro x18 x19 x20 M h; exact t_L_isSale_640_b hl9 hZ hC hr  ih x18 x19 x20 M h
def f_L_isSale_612_b (N : Nat) (kh612 : Int32 → Int32 → Int32 → gq_M → Option (Int32 × gq_M)) (x18 : Int32) (x19 : Int32) (x20 : Int32) (M : gq_M) : Option (Int32 × gq_M) :=
  if 3 ≤ x20 then (f_L_isSale_640 N  N x18 x19 0 M) else (gq_b (f_L_comes N x20 M) fun v101 M103 => kh612 x18 x19 (x20 + 1) M103)
def f_L_isSale_612 (N : Nat) : Nat → Int32 → Int32 → Int32 → gq_M → Option (Int32 × gq_M)
  | 0 => fun _ _ _ _ => none
  | n9 + 1 => f_L_isSale_612_b N  (f_L_isSale_612 N  n9)
set_option maxHeartbeats 1000000 in
set_option maxRecDepth 20000 in
theorem t_L_isSale_612_b {N : Nat} {kh612 : Int32 → Int32 → Int32 → gq_M → Option (Int32 × gq_M)} {v9 : Int32} {M9 : gq_M} (hl9 : l.stackTraces = false) (hZ : gq_Zn A s) (hC : gq_C p s m args meth c D A cI cZ ad mtL RL cL_isSale 28) (hr : meth.sig.returnType = (some .boolean))  (hk612 : ∀ (x18 : Int32) (x19 : Int32) (x20 : Int32) (M : gq_M), kh612 x18 x19 x20 M = some (v9, M9) → gq_W p l e (gq_rl 10 1 6) s m args below meth c D A cI cZ ad mtL 28 (gq_NQ below D cI cZ ad mtL v9 M9 args s 1 6 A) 612 [(0, .ref (ad 0)), (3, .ref (ad 111)), (6, .ref (ad 114)), (7, .ref (ad 115)), (8, .ref (ad 116)), (11, .ref (ad 119)), (18, .int x18), (19, .int x19), (20, .int x20)] [] M 0 0) : ∀ (x18 : Int32) (x19 : Int32) (x20 : Int32) (M : gq_M), f_L_isSale_612_b N  kh612 x18 x19 x20 M = some (v9, M9) → gq_W p l e (gq_rl 10 1 6) s m args below meth c D A cI cZ ad mtL 28 (gq_NQ below D cI cZ ad mtL v9 M9 args s 1 6 A) 612 [(0, .ref (ad 0)), (3, .ref (ad 111)), (6, .ref (ad 114)), (7, .ref (ad 115)), (8, .ref (ad 116)), (11, .ref (ad 119)), (18, .int x18), (19, .int x19), (20, .int x20)] [] M 0 0 := by
  intro x18 x19 x20 M h
  unfold f_L_isSale_612_b at h
  refine g_iload hC 8 rfl dL_isSale_612 ?_
  refine g_iconst (v := 3) hC (by decide) dL_isSale_614 ?_
  refine g_icmp_ge (tgt := 637) hC (by decide) dL_isSale_615 (fun c100 => ?_) (fun c100 => ?_)
  · replace h := gq_t c100 h
    refine g_iconst (v := 0) hC (by decide) dL_isSale_637 ?_
    refine g_istore (L2 := [(20, .int 0), (0, .ref (ad 0)), (3, .ref (ad 111)), (6, .ref (ad 114)), (7, .ref (ad 115)), (8, .ref (ad 116)), (11, .ref (ad 119)), (18, .int x18), (19, .int x19)]) hC (by decide) rfl dL_isSale_638 ?_
    exact g_weak [1, 2, 6, 7, 8, 0] rfl (t_L_isSale_640 hl9 hZ hC hr  N x18 x19 0 M h)
  · replace h := gq_f c100 h
    refine g_aload hC 2 rfl dL_isSale_618 ?_
    refine g_aload hC 3 rfl dL_isSale_620 ?_
    refine g_aload hC 4 rfl dL_isSale_622 ?_
    refine g_aload hC 5 rfl dL_isSale_624 ?_
    refine g_iload hC 8 rfl dL_isSale_626 ?_
    obtain ⟨v101, M103, c102, h⟩ := gq_b_i h
    refine g_Sv (as := [.ref (ad 114), .ref (ad 115), .ref (ad 116), .ref (ad 119), .int x20]) hC (t_L_comes N _ _ _ _ c102) mS_L_comes wm_L_111 rfl rfl (Nat.le_of_ble_eq_true rfl) ⟨Nat.le_of_ble_eq_true rfl, Nat.le_of_ble_eq_true rfl⟩ ⟨Nat.le_of_ble_eq_true rfl, Nat.le_of_ble_eq_true rfl⟩ dL_isSale_628 ?_
    refine g_iinc (v := (x20 + 1)) (L2 := [(20, .int (x20 + 1)), (0, .ref (ad 0)), (3, .ref (ad 111)), (6, .ref (ad 114)), (7, .ref (ad 115)), (8, .ref (ad 116)), (11, .ref (ad 119)), (18, .int x18), (19, .int x19)]) hC 8 rfl (by first | rfl | decide) (by decide) rfl dL_isSale_631 ?_
    refine g_goto (tgt := 612) hC (by decide) dL_isSale_634 ?_
    exact g_weak [1, 2, 3, 4, 5, 6, 7, 8, 0] rfl (hk612 x18 x19 (x20 + 1) M103 h)
theorem t_L_isSale_612 {N : Nat} {v9 : Int32} {M9 : gq_M} (hl9 : l.stackTraces = false) (hZ : gq_Zn A s) (hC : gq_C p s m args meth c D A cI cZ ad mtL RL cL_isSale 28) (hr : meth.sig.returnType = (some .boolean))  : ∀ (n9 : Nat) (x18 : Int32) (x19 : Int32) (x20 : Int32) (M : gq_M), f_L_isSale_612 N  n9 x18 x19 x20 M = some (v9, M9) → gq_W p l e (gq_rl 10 1 6) s m args below meth c D A cI cZ ad mtL 28 (gq_NQ below D cI cZ ad mtL v9 M9 args s 1 6 A) 612 [(0, .ref (ad 0)), (3, .ref (ad 111)), (6, .ref (ad 114)), (7, .ref (ad 115)), (8, .ref (ad 116)), (11, .ref (ad 119)), (18, .int x18), (19, .int x19), (20, .int x20)] [] M 0 0 := by
  intro n9
  induction n9 with
  | zero => intro x18 x19 x20 M h; cases h
  | succ n9 ih => intro x18 x19 x20 M h; exact t_L_isSale_612_b hl9 hZ hC hr  ih x18 x19 x20 M h
def f_L_isSale_586 (N : Nat) (x18 : Int32) (x19 : Int32) (M : gq_M) : Option (Int32 × gq_M) :=
  if x19 = 0 then (f_L_isSale_660 N  x18 x19 M) else (gq_g (gq_in 2 56) (gq_l (gq_up M 119 (2 : Int32).toNatClampNeg 0) fun M93 => gq_g (gq_in 5 56) (gq_l (gq_up M93 119 (5 : Int32).toNatClampNeg 0) fun M95 => gq_g (gq_in 1 56) (gq_l (M95 119 (1 : Int32).toNatClampNeg) fun v97 => gq_g (gq_in 1 56) (gq_l (gq_up M95 119 (1 : Int32).toNatClampNeg (v97 + 1)) fun M99 => f_L_isSale_612 N  N x18 x19 0 M99)))))
set_option maxHeartbeats 1000000 in
set_option maxRecDepth 20000 in
theorem t_L_isSale_586 {N : Nat} {v9 : Int32} {M9 : gq_M} (hl9 : l.stackTraces = false) (hZ : gq_Zn A s) (hC : gq_C p s m args meth c D A cI cZ ad mtL RL cL_isSale 28) (hr : meth.sig.returnType = (some .boolean))   : ∀ (x18 : Int32) (x19 : Int32) (M : gq_M), f_L_isSale_586 N  x18 x19 M = some (v9, M9) → gq_W p l e (gq_rl 10 1 6) s m args below meth c D A cI cZ ad mtL 28 (gq_NQ below D cI cZ ad mtL v9 M9 args s 1 6 A) 586 [(0, .ref (ad 0)), (3, .ref (ad 111)), (6, .ref (ad 114)), (7, .ref (ad 115)), (8, .ref (ad 116)), (11, .ref (ad 119)), (18, .int x18), (19, .int x19)] [] M 0 0 := by
  intro x18 x19 M h
  unfold f_L_isSale_586 at h
  refine g_iload hC 7 rfl dL_isSale_586 ?_
  refine g_if_eq (tgt := 660) hC (by decide) dL_isSale_588 (fun c91 => ?_) (fun c91 => ?_)
  · replace h := gq_t c91 h
    exact g_weak [0, 6, 7] rfl (t_L_isSale_660 hl9 hZ hC hr  x18 x19 M h)
  · replace h := gq_f c91 h
    refine g_aload hC 5 rfl dL_isSale_591 ?_
    refine g_iconst (v := 2) hC (by decide) dL_isSale_593 ?_
    refine g_iconst (v := 0) hC (by decide) dL_isSale_594 ?_
    obtain ⟨g92, h⟩ := gq_g_i h
    refine g_iast hC arL_119 (gq_in_i g92) dL_isSale_595 ?_
    refine g_topM (fun M93 hM93 => ?_)
    replace h := gq_l_i hM93 h
    refine g_aload hC 5 rfl dL_isSale_596 ?_
    refine g_iconst (v := 5) hC (by decide) dL_isSale_598 ?_
    refine g_iconst (v := 0) hC (by decide) dL_isSale_599 ?_
    obtain ⟨g94, h⟩ := gq_g_i h
    refine g_iast hC arL_119 (gq_in_i g94) dL_isSale_600 ?_
    refine g_topM (fun M95 hM95 => ?_)
    replace h := gq_l_i hM95 h
    refine g_aload hC 5 rfl dL_isSale_601 ?_
    refine g_iconst (v := 1) hC (by decide) dL_isSale_603 ?_
    refine g_dup2 hC rfl rfl dL_isSale_604 ?_
    obtain ⟨g96, h⟩ := gq_g_i h
    refine g_iald hC arL_119 (gq_in_i g96) dL_isSale_605 ?_
    refine g_topi (fun v97 hv97 => ?_)
    replace h := gq_l_i hv97 h
    refine g_iconst (v := 1) hC (by decide) dL_isSale_606 ?_
    refine g_iadd hC dL_isSale_607 ?_
    obtain ⟨g98, h⟩ := gq_g_i h
    refine g_iast hC arL_119 (gq_in_i g98) dL_isSale_608 ?_
    refine g_topM (fun M99 hM99 => ?_)
    replace h := gq_l_i hM99 h
    refine g_iconst (v := 0) hC (by decide) dL_isSale_609 ?_
    refine g_istore (L2 := [(20, .int 0), (0, .ref (ad 0)), (3, .ref (ad 111)), (6, .ref (ad 114)), (7, .ref (ad 115)), (8, .ref (ad 116)), (11, .ref (ad 119)), (18, .int x18), (19, .int x19)]) hC (by decide) rfl dL_isSale_610 ?_
    exact g_weak [1, 2, 3, 4, 5, 6, 7, 8, 0] rfl (t_L_isSale_612 hl9 hZ hC hr  N x18 x19 0 M99 h)
def f_L_isSale_549_b (N : Nat) (kh549 : Int32 → Int32 → Int32 → gq_M → Option (Int32 × gq_M)) (x18 : Int32) (x19 : Int32) (x20 : Int32) (M : gq_M) : Option (Int32 × gq_M) :=
  gq_g (gq_in 5 56) (gq_l (M 119 (5 : Int32).toNatClampNeg) fun v85 => if v85 ≤ x20 then (f_L_isSale_586 N  x18 x19 M) else (if x19 = 0 then (f_L_isSale_586 N  x18 x19 M) else (gq_b (f_L_withdraws N x20 M) fun v88 M90 => kh549 (x18 + v88) x19 (x20 + 1) M90)))
def f_L_isSale_549 (N : Nat) : Nat → Int32 → Int32 → Int32 → gq_M → Option (Int32 × gq_M)
  | 0 => fun _ _ _ _ => none
  | n9 + 1 => f_L_isSale_549_b N  (f_L_isSale_549 N  n9)
set_option maxHeartbeats 1000000 in
set_option maxRecDepth 20000 in
theorem t_L_isSale_549_b {N : Nat} {kh549 : Int32 → Int32 → Int32 → gq_M → Option (Int32 × gq_M)} {v9 : Int32} {M9 : gq_M} (hl9 : l.stackTraces = false) (hZ : gq_Zn A s) (hC : gq_C p s m args meth c D A cI cZ ad mtL RL cL_isSale 28) (hr : meth.sig.returnType = (some .boolean))  (hk549 : ∀ (x18 : Int32) (x19 : Int32) (x20 : Int32) (M : gq_M), kh549 x18 x19 x20 M = some (v9, M9) → gq_W p l e (gq_rl 10 1 6) s m args below meth c D A cI cZ ad mtL 28 (gq_NQ below D cI cZ ad mtL v9 M9 args s 1 6 A) 549 [(0, .ref (ad 0)), (1, .ref (ad 109)), (2, .ref (ad 110)), (3, .ref (ad 111)), (6, .ref (ad 114)), (7, .ref (ad 115)), (8, .ref (ad 116)), (11, .ref (ad 119)), (13, .ref (ad 121)), (18, .int x18), (19, .int x19), (20, .int x20)] [] M 0 0) : ∀ (x18 : Int32) (x19 : Int32) (x20 : Int32) (M : gq_M), f_L_isSale_549_b N  kh549 x18 x19 x20 M = some (v9, M9) → gq_W p l e (gq_rl 10 1 6) s m args below meth c D A cI cZ ad mtL 28 (gq_NQ below D cI cZ ad mtL v9 M9 args s 1 6 A) 549 [(0, .ref (ad 0)), (1, .ref (ad 109)), (2, .ref (ad 110)), (3, .ref (ad 111)), (6, .ref (ad 114)), (7, .ref (ad 115)), (8, .ref (ad 116)), (11, .ref (ad 119)), (13, .ref (ad 121)), (18, .int x18), (19, .int x19), (20, .int x20)] [] M 0 0 := by
  intro x18 x19 x20 M h
  unfold f_L_isSale_549_b at h
  refine g_iload hC 11 rfl dL_isSale_549 ?_
  refine g_aload hC 7 rfl dL_isSale_551 ?_
  refine g_iconst (v := 5) hC (by decide) dL_isSale_553 ?_
  obtain ⟨g84, h⟩ := gq_g_i h
  refine g_iald hC arL_119 (gq_in_i g84) dL_isSale_554 ?_
  refine g_topi (fun v85 hv85 => ?_)
  replace h := gq_l_i hv85 h
  refine g_icmp_ge (tgt := 586) hC (by decide) dL_isSale_555 (fun c86 => ?_) (fun c86 => ?_)
  · replace h := gq_t c86 h
    exact g_weak [0, 3, 4, 5, 6, 7, 9, 10] rfl (t_L_isSale_586 hl9 hZ hC hr  x18 x19 M h)
  · replace h := gq_f c86 h
    refine g_iload hC 10 rfl dL_isSale_558 ?_
    refine g_if_eq (tgt := 586) hC (by decide) dL_isSale_560 (fun c87 => ?_) (fun c87 => ?_)
    · replace h := gq_t c87 h
      exact g_weak [0, 3, 4, 5, 6, 7, 9, 10] rfl (t_L_isSale_586 hl9 hZ hC hr  x18 x19 M h)
    · replace h := gq_f c87 h
      refine g_iload hC 9 rfl dL_isSale_563 ?_
      refine g_aload_n hC 1 rfl rfl dL_isSale_565 ?_
      refine g_aload_n hC 2 rfl rfl dL_isSale_566 ?_
      refine g_aload_n hC 3 rfl rfl dL_isSale_567 ?_
      refine g_aload hC 7 rfl dL_isSale_568 ?_
      refine g_aload hC 8 rfl dL_isSale_570 ?_
      refine g_iload hC 11 rfl dL_isSale_572 ?_
      obtain ⟨v88, M90, c89, h⟩ := gq_b_i h
      refine g_Si (as := [.ref (ad 109), .ref (ad 110), .ref (ad 111), .ref (ad 119), .ref (ad 121), .int x20]) hC (t_L_withdraws N _ _ _ _ c89) mS_L_withdraws wm_L_128 rfl rfl (Nat.le_of_ble_eq_true rfl) ⟨Nat.le_of_ble_eq_true rfl, Nat.le_of_ble_eq_true rfl⟩ ⟨Nat.le_of_ble_eq_true rfl, Nat.le_of_ble_eq_true rfl⟩ dL_isSale_574 ?_
      refine g_iadd hC dL_isSale_577 ?_
      refine g_istore (L2 := [(18, .int (x18 + v88)), (0, .ref (ad 0)), (1, .ref (ad 109)), (2, .ref (ad 110)), (3, .ref (ad 111)), (6, .ref (ad 114)), (7, .ref (ad 115)), (8, .ref (ad 116)), (11, .ref (ad 119)), (13, .ref (ad 121)), (19, .int x19), (20, .int x20)]) hC (by decide) rfl dL_isSale_578 ?_
      refine g_iinc (v := (x20 + 1)) (L2 := [(20, .int (x20 + 1)), (18, .int (x18 + v88)), (0, .ref (ad 0)), (1, .ref (ad 109)), (2, .ref (ad 110)), (3, .ref (ad 111)), (6, .ref (ad 114)), (7, .ref (ad 115)), (8, .ref (ad 116)), (11, .ref (ad 119)), (13, .ref (ad 121)), (19, .int x19)]) hC 11 rfl (by first | rfl | decide) (by decide) rfl dL_isSale_580 ?_
      refine g_goto (tgt := 549) hC (by decide) dL_isSale_583 ?_
      exact g_weak [2, 3, 4, 5, 6, 7, 8, 9, 10, 1, 11, 0] rfl (hk549 (x18 + v88) x19 (x20 + 1) M90 h)
theorem t_L_isSale_549 {N : Nat} {v9 : Int32} {M9 : gq_M} (hl9 : l.stackTraces = false) (hZ : gq_Zn A s) (hC : gq_C p s m args meth c D A cI cZ ad mtL RL cL_isSale 28) (hr : meth.sig.returnType = (some .boolean))  : ∀ (n9 : Nat) (x18 : Int32) (x19 : Int32) (x20 : Int32) (M : gq_M), f_L_isSale_549 N  n9 x18 x19 x20 M = some (v9, M9) → gq_W p l e (gq_rl 10 1 6) s m args below meth c D A cI cZ ad mtL 28 (gq_NQ below D cI cZ ad mtL v9 M9 args s 1 6 A) 549 [(0, .ref (ad 0)), (1, .ref (ad 109)), (2, .ref (ad 110)), (3, .ref (ad 111)), (6, .ref (ad 114)), (7, .ref (ad 115)), (8, .ref (ad 116)), (11, .ref (ad 119)), (13, .ref (ad 121)), (18, .int x18), (19, .int x19), (20, .int x20)] [] M 0 0 := by
  intro n9
  induction n9 with
  | zero => intro x18 x19 x20 M h; cases h
  | succ n9 ih => intro x18 x19 x20 M h; exact t_L_isSale_549_b hl9 hZ hC hr  ih x18 x19 x20 M h
def f_L_isSale_544 (N : Nat) (x18 : Int32) (s0 : Int32) (M : gq_M) : Option (Int32 × gq_M) :=
  f_L_isSale_549 N  N x18 s0 0 M
set_option maxHeartbeats 1000000 in
set_option maxRecDepth 20000 in
theorem t_L_isSale_544 {N : Nat} {v9 : Int32} {M9 : gq_M} (hl9 : l.stackTraces = false) (hZ : gq_Zn A s) (hC : gq_C p s m args meth c D A cI cZ ad mtL RL cL_isSale 28) (hr : meth.sig.returnType = (some .boolean))   : ∀ (x18 : Int32) (s0 : Int32) (M : gq_M), f_L_isSale_544 N  x18 s0 M = some (v9, M9) → gq_W p l e (gq_rl 10 1 6) s m args below meth c D A cI cZ ad mtL 28 (gq_NQ below D cI cZ ad mtL v9 M9 args s 1 6 A) 544 [(0, .ref (ad 0)), (1, .ref (ad 109)), (2, .ref (ad 110)), (3, .ref (ad 111)), (6, .ref (ad 114)), (7, .ref (ad 115)), (8, .ref (ad 116)), (11, .ref (ad 119)), (13, .ref (ad 121)), (18, .int x18)] [.int s0] M 0 0 := by
  intro x18 s0 M h
  unfold f_L_isSale_544 at h
  refine g_istore (L2 := [(19, .int s0), (0, .ref (ad 0)), (1, .ref (ad 109)), (2, .ref (ad 110)), (3, .ref (ad 111)), (6, .ref (ad 114)), (7, .ref (ad 115)), (8, .ref (ad 116)), (11, .ref (ad 119)), (13, .ref (ad 121)), (18, .int x18)]) hC (by decide) rfl dL_isSale_544 ?_
  refine g_iconst (v := 0) hC (by decide) dL_isSale_546 ?_
  refine g_istore (L2 := [(20, .int 0), (19, .int s0), (0, .ref (ad 0)), (1, .ref (ad 109)), (2, .ref (ad 110)), (3, .ref (ad 111)), (6, .ref (ad 114)), (7, .ref (ad 115)), (8, .ref (ad 116)), (11, .ref (ad 119)), (13, .ref (ad 121)), (18, .int x18)]) hC (by decide) rfl dL_isSale_547 ?_
  exact g_weak [2, 3, 4, 5, 6, 7, 8, 9, 10, 11, 1, 0] rfl (t_L_isSale_549 hl9 hZ hC hr  N x18 s0 0 M h)
def f_L_isSale_521 (N : Nat) (s0 : Int32) (M : gq_M) : Option (Int32 × gq_M) :=
  gq_g (gq_bb s0) (some (s0, M))
set_option maxHeartbeats 1000000 in
set_option maxRecDepth 20000 in
theorem t_L_isSale_521 {N : Nat} {v9 : Int32} {M9 : gq_M} (hl9 : l.stackTraces = false) (hZ : gq_Zn A s) (hC : gq_C p s m args meth c D A cI cZ ad mtL RL cL_isSale 28) (hr : meth.sig.returnType = (some .boolean))   : ∀ (s0 : Int32) (M : gq_M), f_L_isSale_521 N  s0 M = some (v9, M9) → gq_W p l e (gq_rl 10 1 6) s m args below meth c D A cI cZ ad mtL 28 (gq_NQ below D cI cZ ad mtL v9 M9 args s 1 6 A) 521 [] [.int s0] M 1 6 := by
  intro s0 M h
  unfold f_L_isSale_521 at h
  obtain ⟨g83, h⟩ := gq_g_i h
  exact g_zretsN hC (by decide) (by decide) hr (gq_bb_i g83) h dL_isSale_521
def f_L_isSale_513 (N : Nat) (s0 : Int32) (s1 : Int32) (M : gq_M) : Option (Int32 × gq_M) :=
  if s0 = s1 then (f_L_isSale_521 N  1 M) else (f_L_isSale_521 N  0 M)
set_option maxHeartbeats 1000000 in
set_option maxRecDepth 20000 in
theorem t_L_isSale_513 {N : Nat} {v9 : Int32} {M9 : gq_M} (hl9 : l.stackTraces = false) (hZ : gq_Zn A s) (hC : gq_C p s m args meth c D A cI cZ ad mtL RL cL_isSale 28) (hr : meth.sig.returnType = (some .boolean))   : ∀ (s0 : Int32) (s1 : Int32) (M : gq_M), f_L_isSale_513 N  s0 s1 M = some (v9, M9) → gq_W p l e (gq_rl 10 1 6) s m args below meth c D A cI cZ ad mtL 28 (gq_NQ below D cI cZ ad mtL v9 M9 args s 1 6 A) 513 [] [.int s1, .int s0] M 1 6 := by
  intro s0 s1 M h
  unfold f_L_isSale_513 at h
  refine g_icmp_ne (tgt := 520) hC (by decide) dL_isSale_513 (fun c82 => ?_) (fun c82 => ?_)
  · replace h := gq_f c82 h
    refine g_iconst (v := 0) hC (by decide) dL_isSale_520 ?_
    exact g_weak [] rfl (t_L_isSale_521 hl9 hZ hC hr  0 M h)
  · replace h := gq_t c82 h
    refine g_iconst (v := 1) hC (by decide) dL_isSale_516 ?_
    refine g_goto (tgt := 521) hC (by decide) dL_isSale_517 ?_
    exact g_weak [] rfl (t_L_isSale_521 hl9 hZ hC hr  1 M h)
def f_L_isSale_511 (N : Nat) (s0 : Int32) (M : gq_M) : Option (Int32 × gq_M) :=
  f_L_isSale_513 N  s0 (-100000000) M
set_option maxHeartbeats 1000000 in
set_option maxRecDepth 20000 in
theorem t_L_isSale_511 {N : Nat} {v9 : Int32} {M9 : gq_M} (hl9 : l.stackTraces = false) (hZ : gq_Zn A s) (hC : gq_C p s m args meth c D A cI cZ ad mtL RL cL_isSale 28) (hr : meth.sig.returnType = (some .boolean))   : ∀ (s0 : Int32) (M : gq_M), f_L_isSale_511 N  s0 M = some (v9, M9) → gq_W p l e (gq_rl 10 1 6) s m args below meth c D A cI cZ ad mtL 28 (gq_NQ below D cI cZ ad mtL v9 M9 args s 1 6 A) 511 [] [.int s0] M 1 6 := by
  intro s0 M h
  unfold f_L_isSale_511 at h
  refine g_ldc (v := (-100000000)) hC wk_L_90 dL_isSale_511 ?_
  exact g_weak [] rfl (t_L_isSale_513 hl9 hZ hC hr  s0 (-100000000) M h)
def f_L_isSale_463 (N : Nat) (kh435 : Int32 → Int32 → Int32 → gq_M → Option (Int32 × gq_M)) (x18 : Int32) (x20 : Int32) (s0 : Int32) (M : gq_M) : Option (Int32 × gq_M) :=
  kh435 x18 s0 (x20 + 1) M
set_option maxHeartbeats 1000000 in
set_option maxRecDepth 20000 in
theorem t_L_isSale_463 {N : Nat} {kh435 : Int32 → Int32 → Int32 → gq_M → Option (Int32 × gq_M)} {v9 : Int32} {M9 : gq_M} (hl9 : l.stackTraces = false) (hZ : gq_Zn A s) (hC : gq_C p s m args meth c D A cI cZ ad mtL RL cL_isSale 28) (hr : meth.sig.returnType = (some .boolean)) (hk435 : ∀ (x18 : Int32) (x19 : Int32) (x20 : Int32) (M : gq_M), kh435 x18 x19 x20 M = some (v9, M9) → gq_W p l e (gq_rl 10 1 6) s m args below meth c D A cI cZ ad mtL 28 (gq_NQ below D cI cZ ad mtL v9 M9 args s 1 6 A) 435 [(0, .ref (ad 0)), (1, .ref (ad 109)), (3, .ref (ad 111)), (6, .ref (ad 114)), (7, .ref (ad 115)), (8, .ref (ad 116)), (11, .ref (ad 119)), (13, .ref (ad 121)), (18, .int x18), (19, .int x19), (20, .int x20)] [] M 0 0)  : ∀ (x18 : Int32) (x20 : Int32) (s0 : Int32) (M : gq_M), f_L_isSale_463 N kh435 x18 x20 s0 M = some (v9, M9) → gq_W p l e (gq_rl 10 1 6) s m args below meth c D A cI cZ ad mtL 28 (gq_NQ below D cI cZ ad mtL v9 M9 args s 1 6 A) 463 [(0, .ref (ad 0)), (1, .ref (ad 109)), (3, .ref (ad 111)), (6, .ref (ad 114)), (7, .ref (ad 115)), (8, .ref (ad 116)), (11, .ref (ad 119)), (13, .ref (ad 121)), (18, .int x18), (20, .int x20)] [.int s0] M 0 0 := by
  intro x18 x20 s0 M h
  unfold f_L_isSale_463 at h
  refine g_istore (L2 := [(19, .int s0), (0, .ref (ad 0)), (1, .ref (ad 109)), (3, .ref (ad 111)), (6, .ref (ad 114)), (7, .ref (ad 115)), (8, .ref (ad 116)), (11, .ref (ad 119)), (13, .ref (ad 121)), (18, .int x18), (20, .int x20)]) hC (by decide) rfl dL_isSale_463 ?_
  refine g_iinc (v := (x20 + 1)) (L2 := [(20, .int (x20 + 1)), (19, .int s0), (0, .ref (ad 0)), (1, .ref (ad 109)), (3, .ref (ad 111)), (6, .ref (ad 114)), (7, .ref (ad 115)), (8, .ref (ad 116)), (11, .ref (ad 119)), (13, .ref (ad 121)), (18, .int x18)]) hC 10 rfl (by first | rfl | decide) (by decide) rfl dL_isSale_465 ?_
  refine g_goto (tgt := 435) hC (by decide) dL_isSale_468 ?_
  exact g_weak [2, 3, 4, 5, 6, 7, 8, 9, 10, 1, 0] rfl (hk435 x18 s0 (x20 + 1) M h)
def f_L_isSale_458 (N : Nat) (kh435 : Int32 → Int32 → Int32 → gq_M → Option (Int32 × gq_M)) (x18 : Int32) (x20 : Int32) (M : gq_M) : Option (Int32 × gq_M) :=
  f_L_isSale_463 N kh435 x18 x20 1 M
set_option maxHeartbeats 1000000 in
set_option maxRecDepth 20000 in
theorem t_L_isSale_458 {N : Nat} {kh435 : Int32 → Int32 → Int32 → gq_M → Option (Int32 × gq_M)} {v9 : Int32} {M9 : gq_M} (hl9 : l.stackTraces = false) (hZ : gq_Zn A s) (hC : gq_C p s m args meth c D A cI cZ ad mtL RL cL_isSale 28) (hr : meth.sig.returnType = (some .boolean)) (hk435 : ∀ (x18 : Int32) (x19 : Int32) (x20 : Int32) (M : gq_M), kh435 x18 x19 x20 M = some (v9, M9) → gq_W p l e (gq_rl 10 1 6) s m args below meth c D A cI cZ ad mtL 28 (gq_NQ below D cI cZ ad mtL v9 M9 args s 1 6 A) 435 [(0, .ref (ad 0)), (1, .ref (ad 109)), (3, .ref (ad 111)), (6, .ref (ad 114)), (7, .ref (ad 115)), (8, .ref (ad 116)), (11, .ref (ad 119)), (13, .ref (ad 121)), (18, .int x18), (19, .int x19), (20, .int x20)] [] M 0 0)  : ∀ (x18 : Int32) (x20 : Int32) (M : gq_M), f_L_isSale_458 N kh435 x18 x20 M = some (v9, M9) → gq_W p l e (gq_rl 10 1 6) s m args below meth c D A cI cZ ad mtL 28 (gq_NQ below D cI cZ ad mtL v9 M9 args s 1 6 A) 458 [(0, .ref (ad 0)), (1, .ref (ad 109)), (3, .ref (ad 111)), (6, .ref (ad 114)), (7, .ref (ad 115)), (8, .ref (ad 116)), (11, .ref (ad 119)), (13, .ref (ad 121)), (18, .int x18), (20, .int x20)] [] M 0 0 := by
  intro x18 x20 M h
  unfold f_L_isSale_458 at h
  refine g_iconst (v := 1) hC (by decide) dL_isSale_458 ?_
  refine g_goto (tgt := 463) hC (by decide) dL_isSale_459 ?_
  exact g_weak [0, 1, 2, 3, 4, 5, 6, 7, 8, 9] rfl (t_L_isSale_463 hl9 hZ hC hr hk435 x18 x20 1 M h)
def f_L_isSale_435_b (N : Nat) (kh435 : Int32 → Int32 → Int32 → gq_M → Option (Int32 × gq_M)) (x18 : Int32) (x19 : Int32) (x20 : Int32) (M : gq_M) : Option (Int32 × gq_M) :=
  gq_g (gq_in 4 56) (gq_l (M 119 (4 : Int32).toNatClampNeg) fun v67 => if v67 ≤ x20 then (gq_b (f_L_does N 8 0 0 0 0 0 0 M) fun v69 M71 => if x18 = 0 then (f_L_isSale_511 N  v69 M71) else (if x19 = 0 then (f_L_isSale_511 N  v69 M71) else (gq_b (f_L_opens N M71) fun v74 M76 => f_L_isSale_513 N  v69 v74 M76))) else (if x19 = 0 then (gq_b (f_L_isToSell N x20 M) fun v78 M80 => if v78 = 0 then (f_L_isSale_463 N kh435 x18 x20 0 M80) else (f_L_isSale_458 N kh435 x18 x20 M80)) else (f_L_isSale_458 N kh435 x18 x20 M)))
def f_L_isSale_435 (N : Nat) : Nat → Int32 → Int32 → Int32 → gq_M → Option (Int32 × gq_M)
  | 0 => fun _ _ _ _ => none
  | n9 + 1 => f_L_isSale_435_b N  (f_L_isSale_435 N  n9)
set_option maxHeartbeats 1000000 in
set_option maxRecDepth 20000 in
theorem t_L_isSale_435_b {N : Nat} {kh435 : Int32 → Int32 → Int32 → gq_M → Option (Int32 × gq_M)} {v9 : Int32} {M9 : gq_M} (hl9 : l.stackTraces = false) (hZ : gq_Zn A s) (hC : gq_C p s m args meth c D A cI cZ ad mtL RL cL_isSale 28) (hr : meth.sig.returnType = (some .boolean))  (hk435 : ∀ (x18 : Int32) (x19 : Int32) (x20 : Int32) (M : gq_M), kh435 x18 x19 x20 M = some (v9, M9) → gq_W p l e (gq_rl 10 1 6) s m args below meth c D A cI cZ ad mtL 28 (gq_NQ below D cI cZ ad mtL v9 M9 args s 1 6 A) 435 [(0, .ref (ad 0)), (1, .ref (ad 109)), (3, .ref (ad 111)), (6, .ref (ad 114)), (7, .ref (ad 115)), (8, .ref (ad 116)), (11, .ref (ad 119)), (13, .ref (ad 121)), (18, .int x18), (19, .int x19), (20, .int x20)] [] M 0 0) : ∀ (x18 : Int32) (x19 : Int32) (x20 : Int32) (M : gq_M), f_L_isSale_435_b N  kh435 x18 x19 x20 M = some (v9, M9) → gq_W p l e (gq_rl 10 1 6) s m args below meth c D A cI cZ ad mtL 28 (gq_NQ below D cI cZ ad mtL v9 M9 args s 1 6 A) 435 [(0, .ref (ad 0)), (1, .ref (ad 109)), (3, .ref (ad 111)), (6, .ref (ad 114)), (7, .ref (ad 115)), (8, .ref (ad 116)), (11, .ref (ad 119)), (13, .ref (ad 121)), (18, .int x18), (19, .int x19), (20, .int x20)] [] M 0 0 := by
  intro x18 x19 x20 M h
  unfold f_L_isSale_435_b at h
  refine g_iload hC 10 rfl dL_isSale_435 ?_
  refine g_aload hC 6 rfl dL_isSale_437 ?_
  refine g_iconst (v := 4) hC (by decide) dL_isSale_439 ?_
  obtain ⟨g66, h⟩ := gq_g_i h
  refine g_iald hC arL_119 (gq_in_i g66) dL_isSale_440 ?_
  refine g_topi (fun v67 hv67 => ?_)
  replace h := gq_l_i hv67 h
  refine g_icmp_ge (tgt := 471) hC (by decide) dL_isSale_441 (fun c68 => ?_) (fun c68 => ?_)
  · replace h := gq_t c68 h
    refine g_aload_n hC 0 rfl rfl dL_isSale_471 ?_
    refine g_bipush (v := 8) hC (by decide) dL_isSale_472 ?_
    refine g_iconst (v := 0) hC (by decide) dL_isSale_474 ?_
    refine g_iconst (v := 0) hC (by decide) dL_isSale_475 ?_
    refine g_iconst (v := 0) hC (by decide) dL_isSale_476 ?_
    refine g_iconst (v := 0) hC (by decide) dL_isSale_477 ?_
    refine g_iconst (v := 0) hC (by decide) dL_isSale_478 ?_
    refine g_iconst (v := 0) hC (by decide) dL_isSale_479 ?_
    obtain ⟨v69, M71, c70, h⟩ := gq_b_i h
    refine g_LNH (as := [.ref (ad 0), .int 8, .int 0, .int 0, .int 0, .int 0, .int 0, .int 0]) hC hZ (t_L_does hl9 N _ _ _ _ _ _ _ _ _ _ c70) mH_L_does wm_L_183 rfl rfl (Nat.le_of_ble_eq_true rfl) ⟨Nat.le_of_ble_eq_true rfl, Nat.le_of_ble_eq_true rfl⟩ ⟨Nat.le_of_ble_eq_true rfl, Nat.le_of_ble_eq_true rfl⟩ dL_isSale_480 ?_
    refine g_iload hC 8 rfl dL_isSale_483 ?_
    refine g_if_eq (tgt := 511) hC (by decide) dL_isSale_485 (fun c72 => ?_) (fun c72 => ?_)
    · replace h := gq_t c72 h
      exact g_weak [] rfl (t_L_isSale_511 hl9 hZ hC hr  v69 M71 h)
    · replace h := gq_f c72 h
      refine g_iload hC 9 rfl dL_isSale_488 ?_
      refine g_if_eq (tgt := 511) hC (by decide) dL_isSale_490 (fun c73 => ?_) (fun c73 => ?_)
      · replace h := gq_t c73 h
        exact g_weak [] rfl (t_L_isSale_511 hl9 hZ hC hr  v69 M71 h)
      · replace h := gq_f c73 h
        refine g_aload_n hC 1 rfl rfl dL_isSale_493 ?_
        refine g_aload_n hC 2 rfl rfl dL_isSale_494 ?_
        refine g_aload hC 3 rfl dL_isSale_495 ?_
        refine g_aload hC 4 rfl dL_isSale_497 ?_
        refine g_aload hC 5 rfl dL_isSale_499 ?_
        refine g_aload hC 6 rfl dL_isSale_501 ?_
        refine g_aload hC 7 rfl dL_isSale_503 ?_
        obtain ⟨v74, M76, c75, h⟩ := gq_b_i h
        refine g_Si (as := [.ref (ad 109), .ref (ad 111), .ref (ad 114), .ref (ad 115), .ref (ad 116), .ref (ad 119), .ref (ad 121)]) hC (t_L_opens N _ _ _ c75) mS_L_opens wm_L_203 rfl rfl (Nat.le_of_ble_eq_true rfl) ⟨Nat.le_of_ble_eq_true rfl, Nat.le_of_ble_eq_true rfl⟩ ⟨Nat.le_of_ble_eq_true rfl, Nat.le_of_ble_eq_true rfl⟩ dL_isSale_505 ?_
        refine g_goto (tgt := 513) hC (by decide) dL_isSale_508 ?_
        exact g_weak [] rfl (t_L_isSale_513 hl9 hZ hC hr  v69 v74 M76 h)
  · replace h := gq_f c68 h
    refine g_iload hC 9 rfl dL_isSale_444 ?_
    refine g_if_ne (tgt := 458) hC (by decide) dL_isSale_446 (fun c77 => ?_) (fun c77 => ?_)
    · replace h := gq_f c77 h
      exact g_weak [0, 1, 2, 3, 4, 5, 6, 7, 8, 10] rfl (t_L_isSale_458 hl9 hZ hC hr hk435 x18 x20 M h)
    · replace h := gq_t c77 h
      refine g_aload_n hC 1 rfl rfl dL_isSale_449 ?_
      refine g_iload hC 10 rfl dL_isSale_450 ?_
      obtain ⟨v78, M80, c79, h⟩ := gq_b_i h
      refine g_Si (as := [.ref (ad 109), .int x20]) hC (t_L_isToSell N _ _ _ _ c79) mS_L_isToSell wm_L_148 rfl rfl (Nat.le_of_ble_eq_true rfl) ⟨Nat.le_of_ble_eq_true rfl, Nat.le_of_ble_eq_true rfl⟩ ⟨Nat.le_of_ble_eq_true rfl, Nat.le_of_ble_eq_true rfl⟩ dL_isSale_452 ?_
      refine g_if_eq (tgt := 462) hC (by decide) dL_isSale_455 (fun c81 => ?_) (fun c81 => ?_)
      · replace h := gq_t c81 h
        refine g_iconst (v := 0) hC (by decide) dL_isSale_462 ?_
        exact g_weak [0, 1, 2, 3, 4, 5, 6, 7, 8, 10] rfl (t_L_isSale_463 hl9 hZ hC hr hk435 x18 x20 0 M80 h)
      · replace h := gq_f c81 h
        exact g_weak [0, 1, 2, 3, 4, 5, 6, 7, 8, 10] rfl (t_L_isSale_458 hl9 hZ hC hr hk435 x18 x20 M80 h)
theorem t_L_isSale_435 {N : Nat} {v9 : Int32} {M9 : gq_M} (hl9 : l.stackTraces = false) (hZ : gq_Zn A s) (hC : gq_C p s m args meth c D A cI cZ ad mtL RL cL_isSale 28) (hr : meth.sig.returnType = (some .boolean))  : ∀ (n9 : Nat) (x18 : Int32) (x19 : Int32) (x20 : Int32) (M : gq_M), f_L_isSale_435 N  n9 x18 x19 x20 M = some (v9, M9) → gq_W p l e (gq_rl 10 1 6) s m args below meth c D A cI cZ ad mtL 28 (gq_NQ below D cI cZ ad mtL v9 M9 args s 1 6 A) 435 [(0, .ref (ad 0)), (1, .ref (ad 109)), (3, .ref (ad 111)), (6, .ref (ad 114)), (7, .ref (ad 115)), (8, .ref (ad 116)), (11, .ref (ad 119)), (13, .ref (ad 121)), (18, .int x18), (19, .int x19), (20, .int x20)] [] M 0 0 := by
  intro n9
  induction n9 with
  | zero => intro x18 x19 x20 M h; cases h
  | succ n9 ih => intro x18 x19 x20 M h; exact t_L_isSale_435_b hl9 hZ hC hr  ih x18 x19 x20 M h
def f_L_isSale_427 (N : Nat) (s0 : Int32) (M : gq_M) : Option (Int32 × gq_M) :=
  f_L_isSale_435 N  N s0 0 0 M
set_option maxHeartbeats 1000000 in
set_option maxRecDepth 20000 in
theorem t_L_isSale_427 {N : Nat} {v9 : Int32} {M9 : gq_M} (hl9 : l.stackTraces = false) (hZ : gq_Zn A s) (hC : gq_C p s m args meth c D A cI cZ ad mtL RL cL_isSale 28) (hr : meth.sig.returnType = (some .boolean))   : ∀ (s0 : Int32) (M : gq_M), f_L_isSale_427 N  s0 M = some (v9, M9) → gq_W p l e (gq_rl 10 1 6) s m args below meth c D A cI cZ ad mtL 28 (gq_NQ below D cI cZ ad mtL v9 M9 args s 1 6 A) 427 [(0, .ref (ad 0)), (1, .ref (ad 109)), (3, .ref (ad 111)), (6, .ref (ad 114)), (7, .ref (ad 115)), (8, .ref (ad 116)), (11, .ref (ad 119)), (13, .ref (ad 121))] [.int s0] M 0 0 := by
  intro s0 M h
  unfold f_L_isSale_427 at h
  refine g_istore (L2 := [(18, .int s0), (0, .ref (ad 0)), (1, .ref (ad 109)), (3, .ref (ad 111)), (6, .ref (ad 114)), (7, .ref (ad 115)), (8, .ref (ad 116)), (11, .ref (ad 119)), (13, .ref (ad 121))]) hC (by decide) rfl dL_isSale_427 ?_
  refine g_iconst (v := 0) hC (by decide) dL_isSale_429 ?_
  refine g_istore (L2 := [(19, .int 0), (18, .int s0), (0, .ref (ad 0)), (1, .ref (ad 109)), (3, .ref (ad 111)), (6, .ref (ad 114)), (7, .ref (ad 115)), (8, .ref (ad 116)), (11, .ref (ad 119)), (13, .ref (ad 121))]) hC (by decide) rfl dL_isSale_430 ?_
  refine g_iconst (v := 0) hC (by decide) dL_isSale_432 ?_
  refine g_istore (L2 := [(20, .int 0), (19, .int 0), (18, .int s0), (0, .ref (ad 0)), (1, .ref (ad 109)), (3, .ref (ad 111)), (6, .ref (ad 114)), (7, .ref (ad 115)), (8, .ref (ad 116)), (11, .ref (ad 119)), (13, .ref (ad 121))]) hC (by decide) rfl dL_isSale_433 ?_
  exact g_weak [3, 4, 5, 6, 7, 8, 9, 10, 2, 1, 0] rfl (t_L_isSale_435 hl9 hZ hC hr  N s0 0 0 M h)
def f_L_isSale_409 (N : Nat) (x15 : Int32) (x16 : Int32) (x17 : Int32) (M : gq_M) : Option (Int32 × gq_M) :=
  if 2 ≤ x15 then (if x15 = 2 then (gq_g (gq_in 2 56) (gq_l (M 119 (2 : Int32).toNatClampNeg) fun v61 => if v61 = 1 then (f_L_isSale_544 N  0 1 M) else (f_L_isSale_544 N  0 0 M))) else (if (x16 - x16 / 13 * 13) = 12 then (f_L_isSale_712 N  x15 x16 x17 8 M) else (f_L_isSale_712 N  x15 x16 x17 (x16 - x16 / 5 * 5) M))) else (gq_g (gq_in 2 56) (gq_l (M 119 (2 : Int32).toNatClampNeg) fun v64 => if v64 = 0 then (f_L_isSale_427 N  1 M) else (f_L_isSale_427 N  0 M)))
set_option maxHeartbeats 1000000 in
set_option maxRecDepth 20000 in
theorem t_L_isSale_409 {N : Nat} {v9 : Int32} {M9 : gq_M} (hl9 : l.stackTraces = false) (hZ : gq_Zn A s) (hC : gq_C p s m args meth c D A cI cZ ad mtL RL cL_isSale 28) (hr : meth.sig.returnType = (some .boolean))   : ∀ (x15 : Int32) (x16 : Int32) (x17 : Int32) (M : gq_M), f_L_isSale_409 N  x15 x16 x17 M = some (v9, M9) → gq_W p l e (gq_rl 10 1 6) s m args below meth c D A cI cZ ad mtL 28 (gq_NQ below D cI cZ ad mtL v9 M9 args s 1 6 A) 409 [(0, .ref (ad 0)), (1, .ref (ad 109)), (2, .ref (ad 110)), (3, .ref (ad 111)), (4, .ref (ad 112)), (5, .ref (ad 113)), (6, .ref (ad 114)), (7, .ref (ad 115)), (8, .ref (ad 116)), (9, .ref (ad 117)), (10, .ref (ad 118)), (11, .ref (ad 119)), (13, .ref (ad 121)), (14, .ref (ad 122)), (15, .int x15), (16, .int x16), (17, .int x17)] [] M 0 0 := by
  intro x15 x16 x17 M h
  unfold f_L_isSale_409 at h
  refine g_iload hC 14 rfl dL_isSale_409 ?_
  refine g_iconst (v := 2) hC (by decide) dL_isSale_411 ?_
  refine g_icmp_ge (tgt := 522) hC (by decide) dL_isSale_412 (fun c57 => ?_) (fun c57 => ?_)
  · replace h := gq_t c57 h
    refine g_iload hC 14 rfl dL_isSale_522 ?_
    refine g_iconst (v := 2) hC (by decide) dL_isSale_524 ?_
    refine g_icmp_ne (tgt := 693) hC (by decide) dL_isSale_525 (fun c58 => ?_) (fun c58 => ?_)
    · replace h := gq_f c58 h
      refine g_iload hC 15 rfl dL_isSale_693 ?_
      refine g_bipush (v := 13) hC (by decide) dL_isSale_695 ?_
      refine g_irem hC (by decide) dL_isSale_697 ?_
      refine g_bipush (v := 12) hC (by decide) dL_isSale_698 ?_
      refine g_icmp_ne (tgt := 708) hC (by decide) dL_isSale_700 (fun c59 => ?_) (fun c59 => ?_)
      · replace h := gq_f c59 h
        refine g_iload hC 15 rfl dL_isSale_708 ?_
        refine g_iconst (v := 5) hC (by decide) dL_isSale_710 ?_
        refine g_irem hC (by decide) dL_isSale_711 ?_
        exact g_weak [0, 1, 2, 3, 4, 5, 6, 7, 8, 9, 10, 11, 12, 13, 14, 15, 16] rfl (t_L_isSale_712 hl9 hZ hC hr  x15 x16 x17 (x16 - x16 / 5 * 5) M h)
      · replace h := gq_t c59 h
        refine g_bipush (v := 8) hC (by decide) dL_isSale_703 ?_
        refine g_goto (tgt := 712) hC (by decide) dL_isSale_705 ?_
        exact g_weak [0, 1, 2, 3, 4, 5, 6, 7, 8, 9, 10, 11, 12, 13, 14, 15, 16] rfl (t_L_isSale_712 hl9 hZ hC hr  x15 x16 x17 8 M h)
    · replace h := gq_t c58 h
      refine g_iconst (v := 0) hC (by decide) dL_isSale_528 ?_
      refine g_istore (L2 := [(18, .int 0), (0, .ref (ad 0)), (1, .ref (ad 109)), (2, .ref (ad 110)), (3, .ref (ad 111)), (4, .ref (ad 112)), (5, .ref (ad 113)), (6, .ref (ad 114)), (7, .ref (ad 115)), (8, .ref (ad 116)), (9, .ref (ad 117)), (10, .ref (ad 118)), (11, .ref (ad 119)), (13, .ref (ad 121)), (14, .ref (ad 122)), (15, .int x15), (16, .int x16), (17, .int x17)]) hC (by decide) rfl dL_isSale_529 ?_
      refine g_aload hC 12 rfl dL_isSale_531 ?_
      refine g_iconst (v := 2) hC (by decide) dL_isSale_533 ?_
      obtain ⟨g60, h⟩ := gq_g_i h
      refine g_iald hC arL_119 (gq_in_i g60) dL_isSale_534 ?_
      refine g_topi (fun v61 hv61 => ?_)
      replace h := gq_l_i hv61 h
      refine g_iconst (v := 1) hC (by decide) dL_isSale_535 ?_
      refine g_icmp_ne (tgt := 543) hC (by decide) dL_isSale_536 (fun c62 => ?_) (fun c62 => ?_)
      · replace h := gq_f c62 h
        refine g_iconst (v := 0) hC (by decide) dL_isSale_543 ?_
        exact g_weak [1, 2, 3, 4, 7, 8, 9, 12, 13, 0] rfl (t_L_isSale_544 hl9 hZ hC hr  0 0 M h)
      · replace h := gq_t c62 h
        refine g_iconst (v := 1) hC (by decide) dL_isSale_539 ?_
        refine g_goto (tgt := 544) hC (by decide) dL_isSale_540 ?_
        exact g_weak [1, 2, 3, 4, 7, 8, 9, 12, 13, 0] rfl (t_L_isSale_544 hl9 hZ hC hr  0 1 M h)
  · replace h := gq_f c57 h
    refine g_aload hC 11 rfl dL_isSale_415 ?_
    refine g_iconst (v := 2) hC (by decide) dL_isSale_417 ?_
    obtain ⟨g63, h⟩ := gq_g_i h
    refine g_iald hC arL_119 (gq_in_i g63) dL_isSale_418 ?_
    refine g_topi (fun v64 hv64 => ?_)
    replace h := gq_l_i hv64 h
    refine g_if_ne (tgt := 426) hC (by decide) dL_isSale_419 (fun c65 => ?_) (fun c65 => ?_)
    · replace h := gq_f c65 h
      refine g_iconst (v := 0) hC (by decide) dL_isSale_426 ?_
      exact g_weak [0, 1, 3, 6, 7, 8, 11, 12] rfl (t_L_isSale_427 hl9 hZ hC hr  0 M h)
    · replace h := gq_t c65 h
      refine g_iconst (v := 1) hC (by decide) dL_isSale_422 ?_
      refine g_goto (tgt := 427) hC (by decide) dL_isSale_423 ?_
      exact g_weak [0, 1, 3, 6, 7, 8, 11, 12] rfl (t_L_isSale_427 hl9 hZ hC hr  1 M h)
def f_L_isSale_408 (N : Nat) (s0 : Int32) (M : gq_M) : Option (Int32 × gq_M) :=
  gq_g (gq_bb s0) (some (s0, M))
set_option maxHeartbeats 1000000 in
set_option maxRecDepth 20000 in
theorem t_L_isSale_408 {N : Nat} {v9 : Int32} {M9 : gq_M} (hl9 : l.stackTraces = false) (hZ : gq_Zn A s) (hC : gq_C p s m args meth c D A cI cZ ad mtL RL cL_isSale 28) (hr : meth.sig.returnType = (some .boolean))   : ∀ (s0 : Int32) (M : gq_M), f_L_isSale_408 N  s0 M = some (v9, M9) → gq_W p l e (gq_rl 10 1 6) s m args below meth c D A cI cZ ad mtL 28 (gq_NQ below D cI cZ ad mtL v9 M9 args s 1 6 A) 408 [] [.int s0] M 1 6 := by
  intro s0 M h
  unfold f_L_isSale_408 at h
  obtain ⟨g56, h⟩ := gq_g_i h
  exact g_zretsN hC (by decide) (by decide) hr (gq_bb_i g56) h dL_isSale_408
def f_L_isSale_400 (N : Nat) (s0 : Int32) (s1 : Int32) (M : gq_M) : Option (Int32 × gq_M) :=
  if s0 = s1 then (f_L_isSale_408 N  1 M) else (f_L_isSale_408 N  0 M)
set_option maxHeartbeats 1000000 in
set_option maxRecDepth 20000 in
theorem t_L_isSale_400 {N : Nat} {v9 : Int32} {M9 : gq_M} (hl9 : l.stackTraces = false) (hZ : gq_Zn A s) (hC : gq_C p s m args meth c D A cI cZ ad mtL RL cL_isSale 28) (hr : meth.sig.returnType = (some .boolean))   : ∀ (s0 : Int32) (s1 : Int32) (M : gq_M), f_L_isSale_400 N  s0 s1 M = some (v9, M9) → gq_W p l e (gq_rl 10 1 6) s m args below meth c D A cI cZ ad mtL 28 (gq_NQ below D cI cZ ad mtL v9 M9 args s 1 6 A) 400 [] [.int s1, .int s0] M 1 6 := by
  intro s0 s1 M h
  unfold f_L_isSale_400 at h
  refine g_icmp_ne (tgt := 407) hC (by decide) dL_isSale_400 (fun c55 => ?_) (fun c55 => ?_)
  · replace h := gq_f c55 h
    refine g_iconst (v := 0) hC (by decide) dL_isSale_407 ?_
    exact g_weak [] rfl (t_L_isSale_408 hl9 hZ hC hr  0 M h)
  · replace h := gq_t c55 h
    refine g_iconst (v := 1) hC (by decide) dL_isSale_403 ?_
    refine g_goto (tgt := 408) hC (by decide) dL_isSale_404 ?_
    exact g_weak [] rfl (t_L_isSale_408 hl9 hZ hC hr  1 M h)
def f_L_isSale_354 (N : Nat) (x18 : Int32) (x19 : Int32) (x20 : Int32) (x21 : Int32) (x22 : Int32) (x23 : Int32) (x25 : Int32) (M : gq_M) : Option (Int32 × gq_M) :=
  gq_b (f_L_does N 7 x18 x19 x20 x21 x22 x23 M) fun v48 M50 => if x18 = 8 then (f_L_isSale_400 N  v48 (-300000000) M50) else (if x25 = 0 then (f_L_isSale_400 N  v48 (-200000000) M50) else (gq_g (gq_in 4 56) (gq_l (M50 119 (4 : Int32).toNatClampNeg) fun v54 => f_L_isSale_400 N  v48 (v54 - 1) M50)))
set_option maxHeartbeats 1000000 in
set_option maxRecDepth 20000 in
theorem t_L_isSale_354 {N : Nat} {v9 : Int32} {M9 : gq_M} (hl9 : l.stackTraces = false) (hZ : gq_Zn A s) (hC : gq_C p s m args meth c D A cI cZ ad mtL RL cL_isSale 28) (hr : meth.sig.returnType = (some .boolean))   : ∀ (x18 : Int32) (x19 : Int32) (x20 : Int32) (x21 : Int32) (x22 : Int32) (x23 : Int32) (x25 : Int32) (M : gq_M), f_L_isSale_354 N  x18 x19 x20 x21 x22 x23 x25 M = some (v9, M9) → gq_W p l e (gq_rl 10 1 6) s m args below meth c D A cI cZ ad mtL 28 (gq_NQ below D cI cZ ad mtL v9 M9 args s 1 6 A) 354 [(0, .ref (ad 0)), (11, .ref (ad 119)), (18, .int x18), (19, .int x19), (20, .int x20), (21, .int x21), (22, .int x22), (23, .int x23), (25, .int x25)] [] M 0 0 := by
  intro x18 x19 x20 x21 x22 x23 x25 M h
  unfold f_L_isSale_354 at h
  refine g_aload_n hC 0 rfl rfl dL_isSale_354 ?_
  refine g_bipush (v := 7) hC (by decide) dL_isSale_355 ?_
  refine g_iload hC 2 rfl dL_isSale_357 ?_
  refine g_iload hC 3 rfl dL_isSale_359 ?_
  refine g_iload hC 4 rfl dL_isSale_361 ?_
  refine g_iload hC 5 rfl dL_isSale_363 ?_
  refine g_iload hC 6 rfl dL_isSale_365 ?_
  refine g_iload hC 7 rfl dL_isSale_367 ?_
  obtain ⟨v48, M50, c49, h⟩ := gq_b_i h
  refine g_LNH (as := [.ref (ad 0), .int 7, .int x18, .int x19, .int x20, .int x21, .int x22, .int x23]) hC hZ (t_L_does hl9 N _ _ _ _ _ _ _ _ _ _ c49) mH_L_does wm_L_183 rfl rfl (Nat.le_of_ble_eq_true rfl) ⟨Nat.le_of_ble_eq_true rfl, Nat.le_of_ble_eq_true rfl⟩ ⟨Nat.le_of_ble_eq_true rfl, Nat.le_of_ble_eq_true rfl⟩ dL_isSale_369 ?_
  refine g_iload hC 2 rfl dL_isSale_372 ?_
  refine g_bipush (v := 8) hC (by decide) dL_isSale_374 ?_
  refine g_icmp_ne (tgt := 384) hC (by decide) dL_isSale_376 (fun c51 => ?_) (fun c51 => ?_)
  · replace h := gq_f c51 h
    refine g_iload hC 8 rfl dL_isSale_384 ?_
    refine g_if_eq (tgt := 398) hC (by decide) dL_isSale_386 (fun c52 => ?_) (fun c52 => ?_)
    · replace h := gq_t c52 h
      refine g_ldc (v := (-200000000)) hC wk_L_87 dL_isSale_398 ?_
      exact g_weak [] rfl (t_L_isSale_400 hl9 hZ hC hr  v48 (-200000000) M50 h)
    · replace h := gq_f c52 h
      refine g_aload hC 1 rfl dL_isSale_389 ?_
      refine g_iconst (v := 4) hC (by decide) dL_isSale_391 ?_
      obtain ⟨g53, h⟩ := gq_g_i h
      refine g_iald hC arL_119 (gq_in_i g53) dL_isSale_392 ?_
      refine g_topi (fun v54 hv54 => ?_)
      replace h := gq_l_i hv54 h
      refine g_iconst (v := 1) hC (by decide) dL_isSale_393 ?_
      refine g_isub hC dL_isSale_394 ?_
      refine g_goto (tgt := 400) hC (by decide) dL_isSale_395 ?_
      exact g_weak [] rfl (t_L_isSale_400 hl9 hZ hC hr  v48 (v54 - 1) M50 h)
  · replace h := gq_t c51 h
    refine g_ldc (v := (-300000000)) hC wk_L_84 dL_isSale_379 ?_
    refine g_goto (tgt := 400) hC (by decide) dL_isSale_381 ?_
    exact g_weak [] rfl (t_L_isSale_400 hl9 hZ hC hr  v48 (-300000000) M50 h)
def f_L_isSale_322 (N : Nat) (x18 : Int32) (x19 : Int32) (x20 : Int32) (x21 : Int32) (x22 : Int32) (x23 : Int32) (x25 : Int32) (s1 : Int32) (s2 : Int32) (s3 : Int32) (M : gq_M) : Option (Int32 × gq_M) :=
  gq_g (gq_in s1 40) (gq_l (gq_up M 109 s1.toNatClampNeg (s2 + s3)) fun M35 => gq_g (gq_in 4 56) (gq_l (M35 119 (4 : Int32).toNatClampNeg) fun v37 => gq_g (gq_in v37 40) (gq_l (gq_up M35 110 v37.toNatClampNeg (x22 + (128 * x23))) fun M39 => gq_g (gq_in 4 56) (gq_l (M39 119 (4 : Int32).toNatClampNeg) fun v41 => gq_g (gq_in v41 40) (gq_l (gq_up M39 111 v41.toNatClampNeg (-1)) fun M43 => gq_g (gq_in 4 56) (gq_l (M43 119 (4 : Int32).toNatClampNeg) fun v45 => gq_g (gq_in 4 56) (gq_l (gq_up M43 119 (4 : Int32).toNatClampNeg (v45 + 1)) fun M47 => f_L_isSale_354 N  x18 x19 x20 x21 x22 x23 x25 M47)))))))
set_option maxHeartbeats 1000000 in
set_option maxRecDepth 20000 in
theorem t_L_isSale_322 {N : Nat} {v9 : Int32} {M9 : gq_M} (hl9 : l.stackTraces = false) (hZ : gq_Zn A s) (hC : gq_C p s m args meth c D A cI cZ ad mtL RL cL_isSale 28) (hr : meth.sig.returnType = (some .boolean))   : ∀ (x18 : Int32) (x19 : Int32) (x20 : Int32) (x21 : Int32) (x22 : Int32) (x23 : Int32) (x25 : Int32) (s1 : Int32) (s2 : Int32) (s3 : Int32) (M : gq_M), f_L_isSale_322 N  x18 x19 x20 x21 x22 x23 x25 s1 s2 s3 M = some (v9, M9) → gq_W p l e (gq_rl 10 1 6) s m args below meth c D A cI cZ ad mtL 28 (gq_NQ below D cI cZ ad mtL v9 M9 args s 1 6 A) 322 [(0, .ref (ad 0)), (2, .ref (ad 110)), (3, .ref (ad 111)), (11, .ref (ad 119)), (18, .int x18), (19, .int x19), (20, .int x20), (21, .int x21), (22, .int x22), (23, .int x23), (25, .int x25)] [.int s3, .int s2, .int s1, .ref (ad 109)] M 0 0 := by
  intro x18 x19 x20 x21 x22 x23 x25 s1 s2 s3 M h
  unfold f_L_isSale_322 at h
  refine g_iadd hC dL_isSale_322 ?_
  obtain ⟨g34, h⟩ := gq_g_i h
  refine g_iast hC arL_109 (gq_in_i g34) dL_isSale_323 ?_
  refine g_topM (fun M35 hM35 => ?_)
  replace h := gq_l_i hM35 h
  refine g_aload_n hC 1 rfl rfl dL_isSale_324 ?_
  refine g_aload hC 3 rfl dL_isSale_325 ?_
  refine g_iconst (v := 4) hC (by decide) dL_isSale_327 ?_
  obtain ⟨g36, h⟩ := gq_g_i h
  refine g_iald hC arL_119 (gq_in_i g36) dL_isSale_328 ?_
  refine g_topi (fun v37 hv37 => ?_)
  replace h := gq_l_i hv37 h
  refine g_iload hC 8 rfl dL_isSale_329 ?_
  refine g_sipush (v := 128) hC (by decide) dL_isSale_331 ?_
  refine g_iload hC 9 rfl dL_isSale_334 ?_
  refine g_imul hC dL_isSale_336 ?_
  refine g_iadd hC dL_isSale_337 ?_
  obtain ⟨g38, h⟩ := gq_g_i h
  refine g_iast hC arL_110 (gq_in_i g38) dL_isSale_338 ?_
  refine g_topM (fun M39 hM39 => ?_)
  replace h := gq_l_i hM39 h
  refine g_aload_n hC 2 rfl rfl dL_isSale_339 ?_
  refine g_aload hC 3 rfl dL_isSale_340 ?_
  refine g_iconst (v := 4) hC (by decide) dL_isSale_342 ?_
  obtain ⟨g40, h⟩ := gq_g_i h
  refine g_iald hC arL_119 (gq_in_i g40) dL_isSale_343 ?_
  refine g_topi (fun v41 hv41 => ?_)
  replace h := gq_l_i hv41 h
  refine g_iconst (v := (-1)) hC (by decide) dL_isSale_344 ?_
  obtain ⟨g42, h⟩ := gq_g_i h
  refine g_iast hC arL_111 (gq_in_i g42) dL_isSale_345 ?_
  refine g_topM (fun M43 hM43 => ?_)
  replace h := gq_l_i hM43 h
  refine g_aload hC 3 rfl dL_isSale_346 ?_
  refine g_iconst (v := 4) hC (by decide) dL_isSale_348 ?_
  refine g_dup2 hC rfl rfl dL_isSale_349 ?_
  obtain ⟨g44, h⟩ := gq_g_i h
  refine g_iald hC arL_119 (gq_in_i g44) dL_isSale_350 ?_
  refine g_topi (fun v45 hv45 => ?_)
  replace h := gq_l_i hv45 h
  refine g_iconst (v := 1) hC (by decide) dL_isSale_351 ?_
  refine g_iadd hC dL_isSale_352 ?_
  obtain ⟨g46, h⟩ := gq_g_i h
  refine g_iast hC arL_119 (gq_in_i g46) dL_isSale_353 ?_
  refine g_topM (fun M47 hM47 => ?_)
  replace h := gq_l_i hM47 h
  exact g_weak [0, 3, 4, 5, 6, 7, 8, 9, 10] rfl (t_L_isSale_354 hl9 hZ hC hr  x18 x19 x20 x21 x22 x23 x25 M47 h)
def f_L_isSale_282 (N : Nat) (x18 : Int32) (x19 : Int32) (x20 : Int32) (x21 : Int32) (x22 : Int32) (x23 : Int32) (x25 : Int32) (s0 : Int32) (M : gq_M) : Option (Int32 × gq_M) :=
  gq_g (gq_in 4 56) (gq_l (M 119 (4 : Int32).toNatClampNeg) fun v31 => gq_l (((x18 + (8 * x19)) + (32 * x20)) + (128 * x21)) fun v32 => if s0 = 0 then (f_L_isSale_322 N  x18 x19 x20 x21 x22 x23 x25 v31 v32 0 M) else (f_L_isSale_322 N  x18 x19 x20 x21 x22 x23 x25 v31 v32 2048 M))
set_option maxHeartbeats 1000000 in
set_option maxRecDepth 20000 in
theorem t_L_isSale_282 {N : Nat} {v9 : Int32} {M9 : gq_M} (hl9 : l.stackTraces = false) (hZ : gq_Zn A s) (hC : gq_C p s m args meth c D A cI cZ ad mtL RL cL_isSale 28) (hr : meth.sig.returnType = (some .boolean))   : ∀ (x18 : Int32) (x19 : Int32) (x20 : Int32) (x21 : Int32) (x22 : Int32) (x23 : Int32) (x25 : Int32) (s0 : Int32) (M : gq_M), f_L_isSale_282 N  x18 x19 x20 x21 x22 x23 x25 s0 M = some (v9, M9) → gq_W p l e (gq_rl 10 1 6) s m args below meth c D A cI cZ ad mtL 28 (gq_NQ below D cI cZ ad mtL v9 M9 args s 1 6 A) 282 [(0, .ref (ad 0)), (1, .ref (ad 109)), (2, .ref (ad 110)), (3, .ref (ad 111)), (11, .ref (ad 119)), (18, .int x18), (19, .int x19), (20, .int x20), (21, .int x21), (22, .int x22), (23, .int x23), (25, .int x25)] [.int s0] M 0 0 := by
  intro x18 x19 x20 x21 x22 x23 x25 s0 M h
  unfold f_L_isSale_282 at h
  refine g_istore (L2 := [(27, .int s0), (0, .ref (ad 0)), (1, .ref (ad 109)), (2, .ref (ad 110)), (3, .ref (ad 111)), (11, .ref (ad 119)), (18, .int x18), (19, .int x19), (20, .int x20), (21, .int x21), (22, .int x22), (23, .int x23), (25, .int x25)]) hC (by decide) rfl dL_isSale_282 ?_
  refine g_aload_n hC 2 rfl rfl dL_isSale_284 ?_
  refine g_aload hC 5 rfl dL_isSale_285 ?_
  refine g_iconst (v := 4) hC (by decide) dL_isSale_287 ?_
  obtain ⟨g30, h⟩ := gq_g_i h
  refine g_iald hC arL_119 (gq_in_i g30) dL_isSale_288 ?_
  refine g_topi (fun v31 hv31 => ?_)
  replace h := gq_l_i hv31 h
  refine g_iload hC 6 rfl dL_isSale_289 ?_
  refine g_bipush (v := 8) hC (by decide) dL_isSale_291 ?_
  refine g_iload hC 7 rfl dL_isSale_293 ?_
  refine g_imul hC dL_isSale_295 ?_
  refine g_iadd hC dL_isSale_296 ?_
  refine g_bipush (v := 32) hC (by decide) dL_isSale_297 ?_
  refine g_iload hC 8 rfl dL_isSale_299 ?_
  refine g_imul hC dL_isSale_301 ?_
  refine g_iadd hC dL_isSale_302 ?_
  refine g_sipush (v := 128) hC (by decide) dL_isSale_303 ?_
  refine g_iload hC 9 rfl dL_isSale_306 ?_
  refine g_imul hC dL_isSale_308 ?_
  refine g_iadd hC dL_isSale_309 ?_
  refine g_topi (fun v32 hv32 => ?_)
  replace h := gq_l_i hv32 h
  refine g_iload hC 0 rfl dL_isSale_310 ?_
  refine g_if_eq (tgt := 321) hC (by decide) dL_isSale_312 (fun c33 => ?_) (fun c33 => ?_)
  · replace h := gq_t c33 h
    refine g_iconst (v := 0) hC (by decide) dL_isSale_321 ?_
    exact g_weak [1, 3, 4, 5, 6, 7, 8, 9, 10, 11, 12] rfl (t_L_isSale_322 hl9 hZ hC hr  x18 x19 x20 x21 x22 x23 x25 v31 v32 0 M h)
  · replace h := gq_f c33 h
    refine g_sipush (v := 2048) hC (by decide) dL_isSale_315 ?_
    refine g_goto (tgt := 322) hC (by decide) dL_isSale_318 ?_
    exact g_weak [1, 3, 4, 5, 6, 7, 8, 9, 10, 11, 12] rfl (t_L_isSale_322 hl9 hZ hC hr  x18 x19 x20 x21 x22 x23 x25 v31 v32 2048 M h)
def f_L_isSale_223 (N : Nat) (x18 : Int32) (x19 : Int32) (x20 : Int32) (x21 : Int32) (x22 : Int32) (x23 : Int32) (s0 : Int32) (M : gq_M) : Option (Int32 × gq_M) :=
  if s0 = 0 then (f_L_isSale_354 N  x18 x19 x20 x21 x22 x23 s0 M) else (gq_g (gq_in (32 + ((4 * x18) + x19)) 64) (gq_l (M 120 ((32 + ((4 * x18) + x19)) : Int32).toNatClampNeg) fun v20 => gq_g (gq_in (32 + ((4 * x18) + x19)) 64) (gq_l (gq_up M 120 ((32 + ((4 * x18) + x19)) : Int32).toNatClampNeg (v20 + x22)) fun M22 => gq_g (gq_in (32 + ((4 * x18) + x19)) 64) (gq_l (M22 120 ((32 + ((4 * x18) + x19)) : Int32).toNatClampNeg) fun v24 => gq_g (gq_in ((4 * x18) + x19) 64) (gq_l (M22 120 (((4 * x18) + x19) : Int32).toNatClampNeg) fun v26 => gq_g (gq_in ((4 * x18) + x19) 64) (gq_l (M22 120 (((4 * x18) + x19) : Int32).toNatClampNeg) fun v28 => if v24 ≤ (v26 + (v28 / 10)) then (f_L_isSale_282 N  x18 x19 x20 x21 x22 x23 s0 0 M22) else (f_L_isSale_282 N  x18 x19 x20 x21 x22 x23 s0 1 M22)))))))
set_option maxHeartbeats 1000000 in
set_option maxRecDepth 20000 in
theorem t_L_isSale_223 {N : Nat} {v9 : Int32} {M9 : gq_M} (hl9 : l.stackTraces = false) (hZ : gq_Zn A s) (hC : gq_C p s m args meth c D A cI cZ ad mtL RL cL_isSale 28) (hr : meth.sig.returnType = (some .boolean))   : ∀ (x18 : Int32) (x19 : Int32) (x20 : Int32) (x21 : Int32) (x22 : Int32) (x23 : Int32) (s0 : Int32) (M : gq_M), f_L_isSale_223 N  x18 x19 x20 x21 x22 x23 s0 M = some (v9, M9) → gq_W p l e (gq_rl 10 1 6) s m args below meth c D A cI cZ ad mtL 28 (gq_NQ below D cI cZ ad mtL v9 M9 args s 1 6 A) 223 [(0, .ref (ad 0)), (1, .ref (ad 109)), (2, .ref (ad 110)), (3, .ref (ad 111)), (11, .ref (ad 119)), (12, .ref (ad 120)), (18, .int x18), (19, .int x19), (20, .int x20), (21, .int x21), (22, .int x22), (23, .int x23)] [.int s0] M 0 0 := by
  intro x18 x19 x20 x21 x22 x23 s0 M h
  unfold f_L_isSale_223 at h
  refine g_istore (L2 := [(25, .int s0), (0, .ref (ad 0)), (1, .ref (ad 109)), (2, .ref (ad 110)), (3, .ref (ad 111)), (11, .ref (ad 119)), (12, .ref (ad 120)), (18, .int x18), (19, .int x19), (20, .int x20), (21, .int x21), (22, .int x22), (23, .int x23)]) hC (by decide) rfl dL_isSale_223 ?_
  refine g_iload hC 0 rfl dL_isSale_225 ?_
  refine g_if_eq (tgt := 354) hC (by decide) dL_isSale_227 (fun c18 => ?_) (fun c18 => ?_)
  · replace h := gq_t c18 h
    exact g_weak [1, 5, 7, 8, 9, 10, 11, 12, 0] rfl (t_L_isSale_354 hl9 hZ hC hr  x18 x19 x20 x21 x22 x23 s0 M h)
  · replace h := gq_f c18 h
    refine g_iconst (v := 4) hC (by decide) dL_isSale_230 ?_
    refine g_iload hC 7 rfl dL_isSale_231 ?_
    refine g_imul hC dL_isSale_233 ?_
    refine g_iload hC 8 rfl dL_isSale_234 ?_
    refine g_iadd hC dL_isSale_236 ?_
    refine g_istore (L2 := [(26, .int ((4 * x18) + x19)), (25, .int s0), (0, .ref (ad 0)), (1, .ref (ad 109)), (2, .ref (ad 110)), (3, .ref (ad 111)), (11, .ref (ad 119)), (12, .ref (ad 120)), (18, .int x18), (19, .int x19), (20, .int x20), (21, .int x21), (22, .int x22), (23, .int x23)]) hC (by decide) rfl dL_isSale_237 ?_
    refine g_aload hC 7 rfl dL_isSale_239 ?_
    refine g_bipush (v := 32) hC (by decide) dL_isSale_241 ?_
    refine g_iload hC 0 rfl dL_isSale_243 ?_
    refine g_iadd hC dL_isSale_245 ?_
    refine g_dup2 hC rfl rfl dL_isSale_246 ?_
    obtain ⟨g19, h⟩ := gq_g_i h
    refine g_iald hC arL_120 (gq_in_i g19) dL_isSale_247 ?_
    refine g_topi (fun v20 hv20 => ?_)
    replace h := gq_l_i hv20 h
    refine g_iload hC 12 rfl dL_isSale_248 ?_
    refine g_iadd hC dL_isSale_250 ?_
    obtain ⟨g21, h⟩ := gq_g_i h
    refine g_iast hC arL_120 (gq_in_i g21) dL_isSale_251 ?_
    refine g_topM (fun M22 hM22 => ?_)
    replace h := gq_l_i hM22 h
    refine g_aload hC 7 rfl dL_isSale_252 ?_
    refine g_bipush (v := 32) hC (by decide) dL_isSale_254 ?_
    refine g_iload hC 0 rfl dL_isSale_256 ?_
    refine g_iadd hC dL_isSale_258 ?_
    obtain ⟨g23, h⟩ := gq_g_i h
    refine g_iald hC arL_120 (gq_in_i g23) dL_isSale_259 ?_
    refine g_topi (fun v24 hv24 => ?_)
    replace h := gq_l_i hv24 h
    refine g_aload hC 7 rfl dL_isSale_260 ?_
    refine g_iload hC 0 rfl dL_isSale_262 ?_
    obtain ⟨g25, h⟩ := gq_g_i h
    refine g_iald hC arL_120 (gq_in_i g25) dL_isSale_264 ?_
    refine g_topi (fun v26 hv26 => ?_)
    replace h := gq_l_i hv26 h
    refine g_aload hC 7 rfl dL_isSale_265 ?_
    refine g_iload hC 0 rfl dL_isSale_267 ?_
    obtain ⟨g27, h⟩ := gq_g_i h
    refine g_iald hC arL_120 (gq_in_i g27) dL_isSale_269 ?_
    refine g_topi (fun v28 hv28 => ?_)
    replace h := gq_l_i hv28 h
    refine g_bipush (v := 10) hC (by decide) dL_isSale_270 ?_
    refine g_idiv hC (by decide) dL_isSale_272 ?_
    refine g_iadd hC dL_isSale_273 ?_
    refine g_icmp_le (tgt := 281) hC (by decide) dL_isSale_274 (fun c29 => ?_) (fun c29 => ?_)
    · replace h := gq_t c29 h
      refine g_iconst (v := 0) hC (by decide) dL_isSale_281 ?_
      exact g_weak [2, 3, 4, 5, 6, 8, 9, 10, 11, 12, 13, 1] rfl (t_L_isSale_282 hl9 hZ hC hr  x18 x19 x20 x21 x22 x23 s0 0 M22 h)
    · replace h := gq_f c29 h
      refine g_iconst (v := 1) hC (by decide) dL_isSale_277 ?_
      refine g_goto (tgt := 282) hC (by decide) dL_isSale_278 ?_
      exact g_weak [2, 3, 4, 5, 6, 8, 9, 10, 11, 12, 13, 1] rfl (t_L_isSale_282 hl9 hZ hC hr  x18 x19 x20 x21 x22 x23 s0 1 M22 h)
def f_L_isSale_222 (N : Nat) (x18 : Int32) (x19 : Int32) (x20 : Int32) (x21 : Int32) (x22 : Int32) (x23 : Int32) (M : gq_M) : Option (Int32 × gq_M) :=
  f_L_isSale_223 N  x18 x19 x20 x21 x22 x23 0 M
set_option maxHeartbeats 1000000 in
set_option maxRecDepth 20000 in
theorem t_L_isSale_222 {N : Nat} {v9 : Int32} {M9 : gq_M} (hl9 : l.stackTraces = false) (hZ : gq_Zn A s) (hC : gq_C p s m args meth c D A cI cZ ad mtL RL cL_isSale 28) (hr : meth.sig.returnType = (some .boolean))   : ∀ (x18 : Int32) (x19 : Int32) (x20 : Int32) (x21 : Int32) (x22 : Int32) (x23 : Int32) (M : gq_M), f_L_isSale_222 N  x18 x19 x20 x21 x22 x23 M = some (v9, M9) → gq_W p l e (gq_rl 10 1 6) s m args below meth c D A cI cZ ad mtL 28 (gq_NQ below D cI cZ ad mtL v9 M9 args s 1 6 A) 222 [(0, .ref (ad 0)), (1, .ref (ad 109)), (2, .ref (ad 110)), (3, .ref (ad 111)), (11, .ref (ad 119)), (12, .ref (ad 120)), (18, .int x18), (19, .int x19), (20, .int x20), (21, .int x21), (22, .int x22), (23, .int x23)] [] M 0 0 := by
  intro x18 x19 x20 x21 x22 x23 M h
  unfold f_L_isSale_222 at h
  refine g_iconst (v := 0) hC (by decide) dL_isSale_222 ?_
  exact g_weak [0, 1, 2, 3, 4, 5, 6, 7, 8, 9, 10, 11] rfl (t_L_isSale_223 hl9 hZ hC hr  x18 x19 x20 x21 x22 x23 0 M h)
def f_L_isSale_204 (N : Nat) (x18 : Int32) (x19 : Int32) (x20 : Int32) (x21 : Int32) (x22 : Int32) (x23 : Int32) (s0 : Int32) (M : gq_M) : Option (Int32 × gq_M) :=
  if 8 ≤ x18 then (f_L_isSale_222 N  x18 x19 x20 x21 x22 x23 M) else (if s0 = 0 then (f_L_isSale_222 N  x18 x19 x20 x21 x22 x23 M) else (f_L_isSale_223 N  x18 x19 x20 x21 x22 x23 1 M))
set_option maxHeartbeats 1000000 in
set_option maxRecDepth 20000 in
theorem t_L_isSale_204 {N : Nat} {v9 : Int32} {M9 : gq_M} (hl9 : l.stackTraces = false) (hZ : gq_Zn A s) (hC : gq_C p s m args meth c D A cI cZ ad mtL RL cL_isSale 28) (hr : meth.sig.returnType = (some .boolean))   : ∀ (x18 : Int32) (x19 : Int32) (x20 : Int32) (x21 : Int32) (x22 : Int32) (x23 : Int32) (s0 : Int32) (M : gq_M), f_L_isSale_204 N  x18 x19 x20 x21 x22 x23 s0 M = some (v9, M9) → gq_W p l e (gq_rl 10 1 6) s m args below meth c D A cI cZ ad mtL 28 (gq_NQ below D cI cZ ad mtL v9 M9 args s 1 6 A) 204 [(0, .ref (ad 0)), (1, .ref (ad 109)), (2, .ref (ad 110)), (3, .ref (ad 111)), (11, .ref (ad 119)), (12, .ref (ad 120)), (18, .int x18), (19, .int x19), (20, .int x20), (21, .int x21), (22, .int x22), (23, .int x23)] [.int s0] M 0 0 := by
  intro x18 x19 x20 x21 x22 x23 s0 M h
  unfold f_L_isSale_204 at h
  refine g_istore (L2 := [(24, .int s0), (0, .ref (ad 0)), (1, .ref (ad 109)), (2, .ref (ad 110)), (3, .ref (ad 111)), (11, .ref (ad 119)), (12, .ref (ad 120)), (18, .int x18), (19, .int x19), (20, .int x20), (21, .int x21), (22, .int x22), (23, .int x23)]) hC (by decide) rfl dL_isSale_204 ?_
  refine g_iload hC 7 rfl dL_isSale_206 ?_
  refine g_bipush (v := 8) hC (by decide) dL_isSale_208 ?_
  refine g_icmp_ge (tgt := 222) hC (by decide) dL_isSale_210 (fun c16 => ?_) (fun c16 => ?_)
  · replace h := gq_t c16 h
    exact g_weak [1, 2, 3, 4, 5, 6, 7, 8, 9, 10, 11, 12] rfl (t_L_isSale_222 hl9 hZ hC hr  x18 x19 x20 x21 x22 x23 M h)
  · replace h := gq_f c16 h
    refine g_iload hC 0 rfl dL_isSale_213 ?_
    refine g_if_eq (tgt := 222) hC (by decide) dL_isSale_215 (fun c17 => ?_) (fun c17 => ?_)
    · replace h := gq_t c17 h
      exact g_weak [1, 2, 3, 4, 5, 6, 7, 8, 9, 10, 11, 12] rfl (t_L_isSale_222 hl9 hZ hC hr  x18 x19 x20 x21 x22 x23 M h)
    · replace h := gq_f c17 h
      refine g_iconst (v := 1) hC (by decide) dL_isSale_218 ?_
      refine g_goto (tgt := 223) hC (by decide) dL_isSale_219 ?_
      exact g_weak [1, 2, 3, 4, 5, 6, 7, 8, 9, 10, 11, 12] rfl (t_L_isSale_223 hl9 hZ hC hr  x18 x19 x20 x21 x22 x23 1 M h)
def f_L_isSale_203 (N : Nat) (x18 : Int32) (x19 : Int32) (x20 : Int32) (x21 : Int32) (x22 : Int32) (x23 : Int32) (M : gq_M) : Option (Int32 × gq_M) :=
  f_L_isSale_204 N  x18 x19 x20 x21 x22 x23 0 M
set_option maxHeartbeats 1000000 in
set_option maxRecDepth 20000 in
theorem t_L_isSale_203 {N : Nat} {v9 : Int32} {M9 : gq_M} (hl9 : l.stackTraces = false) (hZ : gq_Zn A s) (hC : gq_C p s m args meth c D A cI cZ ad mtL RL cL_isSale 28) (hr : meth.sig.returnType = (some .boolean))   : ∀ (x18 : Int32) (x19 : Int32) (x20 : Int32) (x21 : Int32) (x22 : Int32) (x23 : Int32) (M : gq_M), f_L_isSale_203 N  x18 x19 x20 x21 x22 x23 M = some (v9, M9) → gq_W p l e (gq_rl 10 1 6) s m args below meth c D A cI cZ ad mtL 28 (gq_NQ below D cI cZ ad mtL v9 M9 args s 1 6 A) 203 [(0, .ref (ad 0)), (1, .ref (ad 109)), (2, .ref (ad 110)), (3, .ref (ad 111)), (11, .ref (ad 119)), (12, .ref (ad 120)), (18, .int x18), (19, .int x19), (20, .int x20), (21, .int x21), (22, .int x22), (23, .int x23)] [] M 0 0 := by
  intro x18 x19 x20 x21 x22 x23 M h
  unfold f_L_isSale_203 at h
  refine g_iconst (v := 0) hC (by decide) dL_isSale_203 ?_
  exact g_weak [0, 1, 2, 3, 4, 5, 6, 7, 8, 9, 10, 11] rfl (t_L_isSale_204 hl9 hZ hC hr  x18 x19 x20 x21 x22 x23 0 M h)
def f_L_isSale_167 (N : Nat) (x18 : Int32) (x19 : Int32) (x20 : Int32) (x21 : Int32) (x22 : Int32) (s0 : Int32) (M : gq_M) : Option (Int32 × gq_M) :=
  if 3 ≤ x20 then (f_L_isSale_203 N  x18 x19 x20 x21 x22 s0 M) else (if x21 ≤ 0 then (f_L_isSale_203 N  x18 x19 x20 x21 x22 s0 M) else (if 10 ≤ x21 then (f_L_isSale_203 N  x18 x19 x20 x21 x22 s0 M) else (if x22 ≤ 0 then (f_L_isSale_203 N  x18 x19 x20 x21 x22 s0 M) else (if 101 ≤ x22 then (f_L_isSale_203 N  x18 x19 x20 x21 x22 s0 M) else (f_L_isSale_204 N  x18 x19 x20 x21 x22 s0 1 M)))))
set_option maxHeartbeats 1000000 in
set_option maxRecDepth 20000 in
theorem t_L_isSale_167 {N : Nat} {v9 : Int32} {M9 : gq_M} (hl9 : l.stackTraces = false) (hZ : gq_Zn A s) (hC : gq_C p s m args meth c D A cI cZ ad mtL RL cL_isSale 28) (hr : meth.sig.returnType = (some .boolean))   : ∀ (x18 : Int32) (x19 : Int32) (x20 : Int32) (x21 : Int32) (x22 : Int32) (s0 : Int32) (M : gq_M), f_L_isSale_167 N  x18 x19 x20 x21 x22 s0 M = some (v9, M9) → gq_W p l e (gq_rl 10 1 6) s m args below meth c D A cI cZ ad mtL 28 (gq_NQ below D cI cZ ad mtL v9 M9 args s 1 6 A) 167 [(0, .ref (ad 0)), (1, .ref (ad 109)), (2, .ref (ad 110)), (3, .ref (ad 111)), (11, .ref (ad 119)), (12, .ref (ad 120)), (18, .int x18), (19, .int x19), (20, .int x20), (21, .int x21), (22, .int x22)] [.int s0] M 0 0 := by
  intro x18 x19 x20 x21 x22 s0 M h
  unfold f_L_isSale_167 at h
  refine g_istore (L2 := [(23, .int s0), (0, .ref (ad 0)), (1, .ref (ad 109)), (2, .ref (ad 110)), (3, .ref (ad 111)), (11, .ref (ad 119)), (12, .ref (ad 120)), (18, .int x18), (19, .int x19), (20, .int x20), (21, .int x21), (22, .int x22)]) hC (by decide) rfl dL_isSale_167 ?_
  refine g_iload hC 9 rfl dL_isSale_169 ?_
  refine g_iconst (v := 3) hC (by decide) dL_isSale_171 ?_
  refine g_icmp_ge (tgt := 203) hC (by decide) dL_isSale_172 (fun c11 => ?_) (fun c11 => ?_)
  · replace h := gq_t c11 h
    exact g_weak [1, 2, 3, 4, 5, 6, 7, 8, 9, 10, 11, 0] rfl (t_L_isSale_203 hl9 hZ hC hr  x18 x19 x20 x21 x22 s0 M h)
  · replace h := gq_f c11 h
    refine g_iload hC 10 rfl dL_isSale_175 ?_
    refine g_if_le (tgt := 203) hC (by decide) dL_isSale_177 (fun c12 => ?_) (fun c12 => ?_)
    · replace h := gq_t c12 h
      exact g_weak [1, 2, 3, 4, 5, 6, 7, 8, 9, 10, 11, 0] rfl (t_L_isSale_203 hl9 hZ hC hr  x18 x19 x20 x21 x22 s0 M h)
    · replace h := gq_f c12 h
      refine g_iload hC 10 rfl dL_isSale_180 ?_
      refine g_bipush (v := 10) hC (by decide) dL_isSale_182 ?_
      refine g_icmp_ge (tgt := 203) hC (by decide) dL_isSale_184 (fun c13 => ?_) (fun c13 => ?_)
      · replace h := gq_t c13 h
        exact g_weak [1, 2, 3, 4, 5, 6, 7, 8, 9, 10, 11, 0] rfl (t_L_isSale_203 hl9 hZ hC hr  x18 x19 x20 x21 x22 s0 M h)
      · replace h := gq_f c13 h
        refine g_iload hC 11 rfl dL_isSale_187 ?_
        refine g_if_le (tgt := 203) hC (by decide) dL_isSale_189 (fun c14 => ?_) (fun c14 => ?_)
        · replace h := gq_t c14 h
          exact g_weak [1, 2, 3, 4, 5, 6, 7, 8, 9, 10, 11, 0] rfl (t_L_isSale_203 hl9 hZ hC hr  x18 x19 x20 x21 x22 s0 M h)
        · replace h := gq_f c14 h
          refine g_iload hC 11 rfl dL_isSale_192 ?_
          refine g_bipush (v := 101) hC (by decide) dL_isSale_194 ?_
          refine g_icmp_ge (tgt := 203) hC (by decide) dL_isSale_196 (fun c15 => ?_) (fun c15 => ?_)
          · replace h := gq_t c15 h
            exact g_weak [1, 2, 3, 4, 5, 6, 7, 8, 9, 10, 11, 0] rfl (t_L_isSale_203 hl9 hZ hC hr  x18 x19 x20 x21 x22 s0 M h)
          · replace h := gq_f c15 h
            refine g_iconst (v := 1) hC (by decide) dL_isSale_199 ?_
            refine g_goto (tgt := 204) hC (by decide) dL_isSale_200 ?_
            exact g_weak [1, 2, 3, 4, 5, 6, 7, 8, 9, 10, 11, 0] rfl (t_L_isSale_204 hl9 hZ hC hr  x18 x19 x20 x21 x22 s0 1 M h)
def f_L_isSale_152 (N : Nat) (x18 : Int32) (x19 : Int32) (x20 : Int32) (x21 : Int32) (x22 : Int32) (M : gq_M) : Option (Int32 × gq_M) :=
  f_L_isSale_167 N  x18 x19 x20 x21 x22 1 M
set_option maxHeartbeats 1000000 in
set_option maxRecDepth 20000 in
theorem t_L_isSale_152 {N : Nat} {v9 : Int32} {M9 : gq_M} (hl9 : l.stackTraces = false) (hZ : gq_Zn A s) (hC : gq_C p s m args meth c D A cI cZ ad mtL RL cL_isSale 28) (hr : meth.sig.returnType = (some .boolean))   : ∀ (x18 : Int32) (x19 : Int32) (x20 : Int32) (x21 : Int32) (x22 : Int32) (M : gq_M), f_L_isSale_152 N  x18 x19 x20 x21 x22 M = some (v9, M9) → gq_W p l e (gq_rl 10 1 6) s m args below meth c D A cI cZ ad mtL 28 (gq_NQ below D cI cZ ad mtL v9 M9 args s 1 6 A) 152 [(0, .ref (ad 0)), (1, .ref (ad 109)), (2, .ref (ad 110)), (3, .ref (ad 111)), (11, .ref (ad 119)), (12, .ref (ad 120)), (18, .int x18), (19, .int x19), (20, .int x20), (21, .int x21), (22, .int x22)] [] M 0 0 := by
  intro x18 x19 x20 x21 x22 M h
  unfold f_L_isSale_152 at h
  refine g_iconst (v := 1) hC (by decide) dL_isSale_152 ?_
  refine g_goto (tgt := 167) hC (by decide) dL_isSale_153 ?_
  exact g_weak [0, 1, 2, 3, 4, 5, 6, 7, 8, 9, 10] rfl (t_L_isSale_167 hl9 hZ hC hr  x18 x19 x20 x21 x22 1 M h)
def f_L_isSale_128 (N : Nat) (x16 : Int32) (x18 : Int32) (x19 : Int32) (x20 : Int32) (x21 : Int32) (s0 : Int32) (M : gq_M) : Option (Int32 × gq_M) :=
  if (s0 - ((x16 / 396) - (x16 / 396) / 3 * 3)) < 1 then (f_L_isSale_152 N  x18 x19 x20 x21 s0 M) else (if s0 ≤ 100 then (f_L_isSale_167 N  x18 x19 x20 x21 s0 (s0 - ((x16 / 396) - (x16 / 396) / 3 * 3)) M) else (f_L_isSale_152 N  x18 x19 x20 x21 s0 M))
set_option maxHeartbeats 1000000 in
set_option maxRecDepth 20000 in
theorem t_L_isSale_128 {N : Nat} {v9 : Int32} {M9 : gq_M} (hl9 : l.stackTraces = false) (hZ : gq_Zn A s) (hC : gq_C p s m args meth c D A cI cZ ad mtL RL cL_isSale 28) (hr : meth.sig.returnType = (some .boolean))   : ∀ (x16 : Int32) (x18 : Int32) (x19 : Int32) (x20 : Int32) (x21 : Int32) (s0 : Int32) (M : gq_M), f_L_isSale_128 N  x16 x18 x19 x20 x21 s0 M = some (v9, M9) → gq_W p l e (gq_rl 10 1 6) s m args below meth c D A cI cZ ad mtL 28 (gq_NQ below D cI cZ ad mtL v9 M9 args s 1 6 A) 128 [(0, .ref (ad 0)), (1, .ref (ad 109)), (2, .ref (ad 110)), (3, .ref (ad 111)), (11, .ref (ad 119)), (12, .ref (ad 120)), (16, .int x16), (18, .int x18), (19, .int x19), (20, .int x20), (21, .int x21)] [.int s0] M 0 0 := by
  intro x16 x18 x19 x20 x21 s0 M h
  unfold f_L_isSale_128 at h
  refine g_istore (L2 := [(22, .int s0), (0, .ref (ad 0)), (1, .ref (ad 109)), (2, .ref (ad 110)), (3, .ref (ad 111)), (11, .ref (ad 119)), (12, .ref (ad 120)), (16, .int x16), (18, .int x18), (19, .int x19), (20, .int x20), (21, .int x21)]) hC (by decide) rfl dL_isSale_128 ?_
  refine g_iload hC 0 rfl dL_isSale_130 ?_
  refine g_iload hC 7 rfl dL_isSale_132 ?_
  refine g_sipush (v := 396) hC (by decide) dL_isSale_134 ?_
  refine g_idiv hC (by decide) dL_isSale_137 ?_
  refine g_iconst (v := 3) hC (by decide) dL_isSale_138 ?_
  refine g_irem hC (by decide) dL_isSale_139 ?_
  refine g_isub hC dL_isSale_140 ?_
  refine g_iconst (v := 1) hC (by decide) dL_isSale_141 ?_
  refine g_icmp_lt (tgt := 152) hC (by decide) dL_isSale_142 (fun c9 => ?_) (fun c9 => ?_)
  · replace h := gq_t c9 h
    exact g_weak [1, 2, 3, 4, 5, 6, 8, 9, 10, 11, 0] rfl (t_L_isSale_152 hl9 hZ hC hr  x18 x19 x20 x21 s0 M h)
  · replace h := gq_f c9 h
    refine g_iload hC 0 rfl dL_isSale_145 ?_
    refine g_bipush (v := 100) hC (by decide) dL_isSale_147 ?_
    refine g_icmp_le (tgt := 156) hC (by decide) dL_isSale_149 (fun c10 => ?_) (fun c10 => ?_)
    · replace h := gq_t c10 h
      refine g_iload hC 0 rfl dL_isSale_156 ?_
      refine g_iload hC 7 rfl dL_isSale_158 ?_
      refine g_sipush (v := 396) hC (by decide) dL_isSale_160 ?_
      refine g_idiv hC (by decide) dL_isSale_163 ?_
      refine g_iconst (v := 3) hC (by decide) dL_isSale_164 ?_
      refine g_irem hC (by decide) dL_isSale_165 ?_
      refine g_isub hC dL_isSale_166 ?_
      exact g_weak [1, 2, 3, 4, 5, 6, 8, 9, 10, 11, 0] rfl (t_L_isSale_167 hl9 hZ hC hr  x18 x19 x20 x21 s0 (s0 - ((x16 / 396) - (x16 / 396) / 3 * 3)) M h)
    · replace h := gq_f c10 h
      exact g_weak [1, 2, 3, 4, 5, 6, 8, 9, 10, 11, 0] rfl (t_L_isSale_152 hl9 hZ hC hr  x18 x19 x20 x21 s0 M h)
def f_L_isSale_93 (N : Nat) (x16 : Int32) (x18 : Int32) (x19 : Int32) (x20 : Int32) (s0 : Int32) (M : gq_M) : Option (Int32 × gq_M) :=
  if ((x16 / 11) - (x16 / 11) / 12 * 12) = 0 then (f_L_isSale_128 N  x16 x18 x19 x20 s0 ((x16 / 132) - (x16 / 132) / 102 * 102) M) else (f_L_isSale_128 N  x16 x18 x19 x20 s0 (5 + ((x16 / 11) - (x16 / 11) / 30 * 30)) M)
set_option maxHeartbeats 1000000 in
set_option maxRecDepth 20000 in
theorem t_L_isSale_93 {N : Nat} {v9 : Int32} {M9 : gq_M} (hl9 : l.stackTraces = false) (hZ : gq_Zn A s) (hC : gq_C p s m args meth c D A cI cZ ad mtL RL cL_isSale 28) (hr : meth.sig.returnType = (some .boolean))   : ∀ (x16 : Int32) (x18 : Int32) (x19 : Int32) (x20 : Int32) (s0 : Int32) (M : gq_M), f_L_isSale_93 N  x16 x18 x19 x20 s0 M = some (v9, M9) → gq_W p l e (gq_rl 10 1 6) s m args below meth c D A cI cZ ad mtL 28 (gq_NQ below D cI cZ ad mtL v9 M9 args s 1 6 A) 93 [(0, .ref (ad 0)), (1, .ref (ad 109)), (2, .ref (ad 110)), (3, .ref (ad 111)), (11, .ref (ad 119)), (12, .ref (ad 120)), (16, .int x16), (18, .int x18), (19, .int x19), (20, .int x20)] [.int s0] M 0 0 := by
  intro x16 x18 x19 x20 s0 M h
  unfold f_L_isSale_93 at h
  refine g_istore (L2 := [(21, .int s0), (0, .ref (ad 0)), (1, .ref (ad 109)), (2, .ref (ad 110)), (3, .ref (ad 111)), (11, .ref (ad 119)), (12, .ref (ad 120)), (16, .int x16), (18, .int x18), (19, .int x19), (20, .int x20)]) hC (by decide) rfl dL_isSale_93 ?_
  refine g_iload hC 7 rfl dL_isSale_95 ?_
  refine g_bipush (v := 11) hC (by decide) dL_isSale_97 ?_
  refine g_idiv hC (by decide) dL_isSale_99 ?_
  refine g_bipush (v := 12) hC (by decide) dL_isSale_100 ?_
  refine g_irem hC (by decide) dL_isSale_102 ?_
  refine g_if_ne (tgt := 118) hC (by decide) dL_isSale_103 (fun c8 => ?_) (fun c8 => ?_)
  · replace h := gq_f c8 h
    refine g_iconst (v := 5) hC (by decide) dL_isSale_118 ?_
    refine g_iload hC 7 rfl dL_isSale_119 ?_
    refine g_bipush (v := 11) hC (by decide) dL_isSale_121 ?_
    refine g_idiv hC (by decide) dL_isSale_123 ?_
    refine g_bipush (v := 30) hC (by decide) dL_isSale_124 ?_
    refine g_irem hC (by decide) dL_isSale_126 ?_
    refine g_iadd hC dL_isSale_127 ?_
    exact g_weak [1, 2, 3, 4, 5, 6, 7, 8, 9, 10, 0] rfl (t_L_isSale_128 hl9 hZ hC hr  x16 x18 x19 x20 s0 (5 + ((x16 / 11) - (x16 / 11) / 30 * 30)) M h)
  · replace h := gq_t c8 h
    refine g_iload hC 7 rfl dL_isSale_106 ?_
    refine g_sipush (v := 132) hC (by decide) dL_isSale_108 ?_
    refine g_idiv hC (by decide) dL_isSale_111 ?_
    refine g_bipush (v := 102) hC (by decide) dL_isSale_112 ?_
    refine g_irem hC (by decide) dL_isSale_114 ?_
    refine g_goto (tgt := 128) hC (by decide) dL_isSale_115 ?_
    exact g_weak [1, 2, 3, 4, 5, 6, 7, 8, 9, 10, 0] rfl (t_L_isSale_128 hl9 hZ hC hr  x16 x18 x19 x20 s0 ((x16 / 132) - (x16 / 132) / 102 * 102) M h)
def f_L_isSale_61 (N : Nat) (x16 : Int32) (x17 : Int32) (x18 : Int32) (x19 : Int32) (s0 : Int32) (M : gq_M) : Option (Int32 × gq_M) :=
  if ((x17 / 36) - (x17 / 36) / 10 * 10) = 0 then (f_L_isSale_93 N  x16 x18 x19 s0 (10 * (x16 - x16 / 2 * 2)) M) else (f_L_isSale_93 N  x16 x18 x19 s0 (1 + ((x17 / 36) - (x17 / 36) / 3 * 3)) M)
set_option maxHeartbeats 1000000 in
set_option maxRecDepth 20000 in
theorem t_L_isSale_61 {N : Nat} {v9 : Int32} {M9 : gq_M} (hl9 : l.stackTraces = false) (hZ : gq_Zn A s) (hC : gq_C p s m args meth c D A cI cZ ad mtL RL cL_isSale 28) (hr : meth.sig.returnType = (some .boolean))   : ∀ (x16 : Int32) (x17 : Int32) (x18 : Int32) (x19 : Int32) (s0 : Int32) (M : gq_M), f_L_isSale_61 N  x16 x17 x18 x19 s0 M = some (v9, M9) → gq_W p l e (gq_rl 10 1 6) s m args below meth c D A cI cZ ad mtL 28 (gq_NQ below D cI cZ ad mtL v9 M9 args s 1 6 A) 61 [(0, .ref (ad 0)), (1, .ref (ad 109)), (2, .ref (ad 110)), (3, .ref (ad 111)), (11, .ref (ad 119)), (12, .ref (ad 120)), (16, .int x16), (17, .int x17), (18, .int x18), (19, .int x19)] [.int s0] M 0 0 := by
  intro x16 x17 x18 x19 s0 M h
  unfold f_L_isSale_61 at h
  refine g_istore (L2 := [(20, .int s0), (0, .ref (ad 0)), (1, .ref (ad 109)), (2, .ref (ad 110)), (3, .ref (ad 111)), (11, .ref (ad 119)), (12, .ref (ad 120)), (16, .int x16), (17, .int x17), (18, .int x18), (19, .int x19)]) hC (by decide) rfl dL_isSale_61 ?_
  refine g_iload hC 8 rfl dL_isSale_63 ?_
  refine g_bipush (v := 36) hC (by decide) dL_isSale_65 ?_
  refine g_idiv hC (by decide) dL_isSale_67 ?_
  refine g_bipush (v := 10) hC (by decide) dL_isSale_68 ?_
  refine g_irem hC (by decide) dL_isSale_70 ?_
  refine g_if_ne (tgt := 84) hC (by decide) dL_isSale_71 (fun c7 => ?_) (fun c7 => ?_)
  · replace h := gq_f c7 h
    refine g_iconst (v := 1) hC (by decide) dL_isSale_84 ?_
    refine g_iload hC 8 rfl dL_isSale_85 ?_
    refine g_bipush (v := 36) hC (by decide) dL_isSale_87 ?_
    refine g_idiv hC (by decide) dL_isSale_89 ?_
    refine g_iconst (v := 3) hC (by decide) dL_isSale_90 ?_
    refine g_irem hC (by decide) dL_isSale_91 ?_
    refine g_iadd hC dL_isSale_92 ?_
    exact g_weak [1, 2, 3, 4, 5, 6, 7, 9, 10, 0] rfl (t_L_isSale_93 hl9 hZ hC hr  x16 x18 x19 s0 (1 + ((x17 / 36) - (x17 / 36) / 3 * 3)) M h)
  · replace h := gq_t c7 h
    refine g_bipush (v := 10) hC (by decide) dL_isSale_74 ?_
    refine g_iload hC 7 rfl dL_isSale_76 ?_
    refine g_iconst (v := 2) hC (by decide) dL_isSale_78 ?_
    refine g_irem hC (by decide) dL_isSale_79 ?_
    refine g_imul hC dL_isSale_80 ?_
    refine g_goto (tgt := 93) hC (by decide) dL_isSale_81 ?_
    exact g_weak [1, 2, 3, 4, 5, 6, 7, 9, 10, 0] rfl (t_L_isSale_93 hl9 hZ hC hr  x16 x18 x19 s0 (10 * (x16 - x16 / 2 * 2)) M h)
def f_L_isSale_33 (N : Nat) (x16 : Int32) (x17 : Int32) (s0 : Int32) (M : gq_M) : Option (Int32 × gq_M) :=
  if ((x17 / 4) - (x17 / 4) / 9 * 9) = 0 then (f_L_isSale_61 N  x16 x17 s0 (x17 - x17 / 4 * 4) 3 M) else (f_L_isSale_61 N  x16 x17 s0 (x17 - x17 / 4 * 4) ((x17 / 4) - (x17 / 4) / 3 * 3) M)
set_option maxHeartbeats 1000000 in
set_option maxRecDepth 20000 in
theorem t_L_isSale_33 {N : Nat} {v9 : Int32} {M9 : gq_M} (hl9 : l.stackTraces = false) (hZ : gq_Zn A s) (hC : gq_C p s m args meth c D A cI cZ ad mtL RL cL_isSale 28) (hr : meth.sig.returnType = (some .boolean))   : ∀ (x16 : Int32) (x17 : Int32) (s0 : Int32) (M : gq_M), f_L_isSale_33 N  x16 x17 s0 M = some (v9, M9) → gq_W p l e (gq_rl 10 1 6) s m args below meth c D A cI cZ ad mtL 28 (gq_NQ below D cI cZ ad mtL v9 M9 args s 1 6 A) 33 [(0, .ref (ad 0)), (1, .ref (ad 109)), (2, .ref (ad 110)), (3, .ref (ad 111)), (11, .ref (ad 119)), (12, .ref (ad 120)), (16, .int x16), (17, .int x17)] [.int s0] M 0 0 := by
  intro x16 x17 s0 M h
  unfold f_L_isSale_33 at h
  refine g_istore (L2 := [(18, .int s0), (0, .ref (ad 0)), (1, .ref (ad 109)), (2, .ref (ad 110)), (3, .ref (ad 111)), (11, .ref (ad 119)), (12, .ref (ad 120)), (16, .int x16), (17, .int x17)]) hC (by decide) rfl dL_isSale_33 ?_
  refine g_iload hC 8 rfl dL_isSale_35 ?_
  refine g_iconst (v := 4) hC (by decide) dL_isSale_37 ?_
  refine g_irem hC (by decide) dL_isSale_38 ?_
  refine g_istore (L2 := [(19, .int (x17 - x17 / 4 * 4)), (18, .int s0), (0, .ref (ad 0)), (1, .ref (ad 109)), (2, .ref (ad 110)), (3, .ref (ad 111)), (11, .ref (ad 119)), (12, .ref (ad 120)), (16, .int x16), (17, .int x17)]) hC (by decide) rfl dL_isSale_39 ?_
  refine g_iload hC 9 rfl dL_isSale_41 ?_
  refine g_iconst (v := 4) hC (by decide) dL_isSale_43 ?_
  refine g_idiv hC (by decide) dL_isSale_44 ?_
  refine g_bipush (v := 9) hC (by decide) dL_isSale_45 ?_
  refine g_irem hC (by decide) dL_isSale_47 ?_
  refine g_if_ne (tgt := 55) hC (by decide) dL_isSale_48 (fun c6 => ?_) (fun c6 => ?_)
  · replace h := gq_f c6 h
    refine g_iload hC 9 rfl dL_isSale_55 ?_
    refine g_iconst (v := 4) hC (by decide) dL_isSale_57 ?_
    refine g_idiv hC (by decide) dL_isSale_58 ?_
    refine g_iconst (v := 3) hC (by decide) dL_isSale_59 ?_
    refine g_irem hC (by decide) dL_isSale_60 ?_
    exact g_weak [2, 3, 4, 5, 6, 7, 8, 9, 1, 0] rfl (t_L_isSale_61 hl9 hZ hC hr  x16 x17 s0 (x17 - x17 / 4 * 4) ((x17 / 4) - (x17 / 4) / 3 * 3) M h)
  · replace h := gq_t c6 h
    refine g_iconst (v := 3) hC (by decide) dL_isSale_51 ?_
    refine g_goto (tgt := 61) hC (by decide) dL_isSale_52 ?_
    exact g_weak [2, 3, 4, 5, 6, 7, 8, 9, 1, 0] rfl (t_L_isSale_61 hl9 hZ hC hr  x16 x17 s0 (x17 - x17 / 4 * 4) 3 M h)
def f_L_isSale (N : Nat) (a15 : Int32) (a16 : Int32) (a17 : Int32) (M : gq_M) : Option (Int32 × gq_M) :=
  if a15 = 0 then (gq_g (gq_in 4 56) (gq_l (M 119 (4 : Int32).toNatClampNeg) fun v3 => if 40 ≤ v3 then (f_L_isSale_409 N  a15 a16 a17 M) else (if (a16 - a16 / 11 * 11) = 10 then (f_L_isSale_33 N  a16 a17 8 M) else (f_L_isSale_33 N  a16 a17 (a16 - a16 / 4 * 4) M)))) else (f_L_isSale_409 N  a15 a16 a17 M)
set_option maxHeartbeats 4000000 in
set_option maxRecDepth 20000 in
theorem t_L_isSale {l : Launch} (hl9 : l.stackTraces = false) {D : va_G} {cI cZ : ClassId} {ad : Nat → Nat} (N : Nat) (a15 : Int32) (a16 : Int32) (a17 : Int32) (M : gq_M) (v9 : Int32) (M9 : gq_M) (h : f_L_isSale N a15 a16 a17 M = some (v9, M9)) : gq_Ni l D cI cZ ad mtL yL_isSale (.code yL_isSale cL_isSale 28 (some .boolean)) 10 1 6 [.ref (ad 0), .ref (ad 109), .ref (ad 110), .ref (ad 111), .ref (ad 112), .ref (ad 113), .ref (ad 114), .ref (ad 115), .ref (ad 116), .ref (ad 117), .ref (ad 118), .ref (ad 119), .ref (ad 120), .ref (ad 121), .ref (ad 122), .int a15, .int a16, .int a17] M v9 M9 := by
  refine gq_introN (own := RL) (by decide) rfl (Nat.le_of_ble_eq_true rfl) ?_
  intro p e s m below meth c hC hr hZ
  refine g_cast (L2 := [(0, .ref (ad 0)), (1, .ref (ad 109)), (2, .ref (ad 110)), (3, .ref (ad 111)), (4, .ref (ad 112)), (5, .ref (ad 113)), (6, .ref (ad 114)), (7, .ref (ad 115)), (8, .ref (ad 116)), (9, .ref (ad 117)), (10, .ref (ad 118)), (11, .ref (ad 119)), (12, .ref (ad 120)), (13, .ref (ad 121)), (14, .ref (ad 122)), (15, .int a15), (16, .int a16), (17, .int a17)]) ?_ rfl rfl rfl rfl
  unfold f_L_isSale at h
  refine g_iload hC 15 rfl dL_isSale_0 ?_
  refine g_if_ne (tgt := 409) hC (by decide) dL_isSale_2 (fun c1 => ?_) (fun c1 => ?_)
  · replace h := gq_f c1 h
    exact g_weak [0, 1, 2, 3, 4, 5, 6, 7, 8, 9, 10, 11, 13, 14, 15, 16, 17] rfl (t_L_isSale_409 hl9 hZ hC hr  a15 a16 a17 M h)
  · replace h := gq_t c1 h
    refine g_aload hC 11 rfl dL_isSale_5 ?_
    refine g_iconst (v := 4) hC (by decide) dL_isSale_7 ?_
    obtain ⟨g2, h⟩ := gq_g_i h
    refine g_iald hC arL_119 (gq_in_i g2) dL_isSale_8 ?_
    refine g_topi (fun v3 hv3 => ?_)
    replace h := gq_l_i hv3 h
    refine g_bipush (v := 40) hC (by decide) dL_isSale_9 ?_
    refine g_icmp_ge (tgt := 409) hC (by decide) dL_isSale_11 (fun c4 => ?_) (fun c4 => ?_)
    · replace h := gq_t c4 h
      exact g_weak [0, 1, 2, 3, 4, 5, 6, 7, 8, 9, 10, 11, 13, 14, 15, 16, 17] rfl (t_L_isSale_409 hl9 hZ hC hr  a15 a16 a17 M h)
    · replace h := gq_f c4 h
      refine g_iload hC 16 rfl dL_isSale_14 ?_
      refine g_bipush (v := 11) hC (by decide) dL_isSale_16 ?_
      refine g_irem hC (by decide) dL_isSale_18 ?_
      refine g_bipush (v := 10) hC (by decide) dL_isSale_19 ?_
      refine g_icmp_ne (tgt := 29) hC (by decide) dL_isSale_21 (fun c5 => ?_) (fun c5 => ?_)
      · replace h := gq_f c5 h
        refine g_iload hC 16 rfl dL_isSale_29 ?_
        refine g_iconst (v := 4) hC (by decide) dL_isSale_31 ?_
        refine g_irem hC (by decide) dL_isSale_32 ?_
        exact g_weak [0, 1, 2, 3, 11, 12, 16, 17] rfl (t_L_isSale_33 hl9 hZ hC hr  a16 a17 (a16 - a16 / 4 * 4) M h)
      · replace h := gq_t c5 h
        refine g_bipush (v := 8) hC (by decide) dL_isSale_24 ?_
        refine g_goto (tgt := 33) hC (by decide) dL_isSale_26 ?_
        exact g_weak [0, 1, 2, 3, 11, 12, 16, 17] rfl (t_L_isSale_33 hl9 hZ hC hr  a16 a17 8 M h)
end
