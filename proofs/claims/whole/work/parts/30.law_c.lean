/-! the law: one call of the script -/
def gq_h {β : Type} (o : Option (Int32 × Int64 × gq_M)) (f : Int32 → Int64 → gq_M → Option β) : Option β := match o with
  | some (v, w, M) => f v w M
  | none => none
theorem gq_h_i {β : Type} {o : Option (Int32 × Int64 × gq_M)} {f : Int32 → Int64 → gq_M → Option β} {r : β} (h : gq_h o f = some r) : ∃ (v : Int32) (w : Int64) (M : gq_M), o = some (v, w, M) ∧ f v w M = some r := by
  cases o with
  | none => cases h
  | some q => exact ⟨q.1, q.2.1, q.2.2, rfl, h⟩
section
variable {p : Program} {l : Launch} {e : Env} {s : State} {m : MethodId} {args : Array Value} {below : List Frame} {meth : Method} {c : Code} {Q : State → Prop} {D : va_G} {A : Nat → Prop} {cI cZ cL : ClassId} {adC adR : Nat → Nat} {oa b Ln : Nat} {xs : Nat → Int32} {x4 : Int32} {kc ks : Nat}
def fl_0 (N : Nat) (p1 : Int32) (p2 : Int32) (p3 : Int32) (p4 : Int32) (p5 : Int32) (p6 : Int32) (C R : gq_M) (ov : Int64) : Option (gq_M × gq_M × Int64) := gq_h (fh_L_quota N p1 p2 p3 C ov) fun k1 o4 C2 => gq_b (f_X10_quota N p1 p2 p3 R) fun v5 M6 => gq_b (f_X10_thrown N  M6) fun v8 M9 => if v8 = k1 then (if k1 = 0 then (if (lg_cmp o4 (v5 : Int32).toInt64) = 0 then (some (C2, M9, o4)) else (none)) else (some (C2, M9, o4))) else (none)
set_option maxHeartbeats 4000000 in
set_option maxRecDepth 20000 in
theorem q_law_0 (hl9 : l.stackTraces = false) (hC : gc_C p s m args meth c D A cI cZ RL cL_law 7) (hKL : gl_K D cI cZ cL s) (hZ : gq_Z A s) (hN : gl_N s) (hX : va_X b Ln xs s s.heap) (hbl : b < s.heap.size) (hbA : ¬ A b) (hx1 : vp_in (x4 + 1) Ln) (hx2 : vp_in (x4 + 2) Ln) (hx3 : vp_in (x4 + 3) Ln) (hx4 : vp_in (x4 + 4) Ln) (hx5 : vp_in (x4 + 5) Ln) (hx6 : vp_in (x4 + 6) Ln) (hkR : kc + 1 ≤ room_1.cells ∧ ks + 6 ≤ room_1.slots) (N : Nat) {C R C9 R9 : gq_M} {ov ov9 : Int64} (h : fl_0 N (xs (x4 + 1).toNatClampNeg) (xs (x4 + 2).toNatClampNeg) (xs (x4 + 3).toNatClampNeg) (xs (x4 + 4).toNatClampNeg) (xs (x4 + 5).toNatClampNeg) (xs (x4 + 6).toNatClampNeg) C R ov = some (C9, R9, ov9)) (hk : gc_W p l e room_1 s m args below meth c D A 7 Q ((gl_out cL oa ov9 :: gq_ws cI cZ adC C9 0 mtC) ++ gq_ws cI cZ adR R9 0 mtR) 2100 [(4, .int x4), (3, .ref oa), (2, .ref (adR 0)), (1, .ref (adC 0)), (0, .ref b)] [] (kc + 1) (ks + 6)) : gc_W p l e room_1 s m args below meth c D A 7 Q ((gl_out cL oa ov :: gq_ws cI cZ adC C 0 mtC) ++ gq_ws cI cZ adR R 0 mtR) 176 [(4, .int x4), (3, .ref oa), (2, .ref (adR 0)), (1, .ref (adC 0)), (0, .ref b)] [] kc ks := by
  unfold fl_0 at h
  refine gc_aload_n hC 3 rfl rfl dL_law_176 ?_
  refine gc_aload_n hC 4 rfl rfl dL_law_177 ?_
  refine gl_iload hC 0 rfl dL_law_178 ?_
  refine gc_iconst (v := 1) hC (by decide) dL_law_180 ?_
  refine gl_iadd hC dL_law_181 ?_
  refine gl_sld hC hX hbl hbA hx1 dL_law_182 ?_
  refine gc_aload_n hC 4 rfl rfl dL_law_183 ?_
  refine gl_iload hC 0 rfl dL_law_184 ?_
  refine gc_iconst (v := 2) hC (by decide) dL_law_186 ?_
  refine gl_iadd hC dL_law_187 ?_
  refine gl_sld hC hX hbl hbA hx2 dL_law_188 ?_
  refine gc_aload_n hC 4 rfl rfl dL_law_189 ?_
  refine gl_iload hC 0 rfl dL_law_190 ?_
  refine gc_iconst (v := 3) hC (by decide) dL_law_192 ?_
  refine gl_iadd hC dL_law_193 ?_
  refine gl_sld hC hX hbl hbA hx3 dL_law_194 ?_
  refine gc_aload_n hC 1 rfl rfl dL_law_195 ?_
  obtain ⟨k1, o4, C2, e3, h⟩ := gq_h_i h
  refine gl_comm ?_
  refine gl_H (as := [.ref (adC 0), .int (xs (x4 + 1).toNatClampNeg), .int (xs (x4 + 2).toNatClampNeg), .int (xs (x4 + 3).toNatClampNeg), .ref oa]) hC hKL hZ hN (h_L_quota hl9 N _ _ _ _ _ _ _ _ _ e3) (by show oa :: _ = oa :: _; rw [gq_ws_fst 0 mtC]) mH_L_quota wm_L_105 rfl rfl (Nat.le_of_ble_eq_true rfl) ⟨by decide, by decide⟩ hkR dL_law_196 ?_
  refine gl_comm ?_
  refine gl_istore (L2 := [(5, .int k1), (4, .int x4), (3, .ref oa), (2, .ref (adR 0)), (1, .ref (adC 0)), (0, .ref b)]) hC (by decide) rfl dL_law_199 ?_
  refine gc_aload_n hC 3 rfl rfl dL_law_201 ?_
  refine gc_aload_n hC 5 rfl rfl dL_law_202 ?_
  refine gl_iload hC 1 rfl dL_law_203 ?_
  refine gc_iconst (v := 1) hC (by decide) dL_law_205 ?_
  refine gl_iadd hC dL_law_206 ?_
  refine gl_sld hC hX hbl hbA hx1 dL_law_207 ?_
  refine gc_aload_n hC 5 rfl rfl dL_law_208 ?_
  refine gl_iload hC 1 rfl dL_law_209 ?_
  refine gc_iconst (v := 2) hC (by decide) dL_law_211 ?_
  refine gl_iadd hC dL_law_212 ?_
  refine gl_sld hC hX hbl hbA hx2 dL_law_213 ?_
  refine gc_aload_n hC 5 rfl rfl dL_law_214 ?_
  refine gl_iload hC 1 rfl dL_law_215 ?_
  refine gc_iconst (v := 3) hC (by decide) dL_law_217 ?_
  refine gl_iadd hC dL_law_218 ?_
  refine gl_sld hC hX hbl hbA hx3 dL_law_219 ?_
  obtain ⟨v5, M6, e7, h⟩ := gq_b_i h
  refine gl_Vi (q := 0) (as := [.int (xs (x4 + 1).toNatClampNeg), .int (xs (x4 + 2).toNatClampNeg), .int (xs (x4 + 3).toNatClampNeg)]) hC (t_X10_quota N _ _ _ _ _ _ e7) mV_X10_quota wm_L_110 obR_0 rfl rfl (Nat.le_of_ble_eq_true rfl) ⟨by decide, by decide⟩ hkR dL_law_220 ?_
  refine gl_istore (L2 := [(6, .int v5), (5, .int k1), (4, .int x4), (3, .ref oa), (2, .ref (adR 0)), (1, .ref (adC 0)), (0, .ref b)]) hC (by decide) rfl dL_law_223 ?_
  refine gc_aload_n hC 4 rfl rfl dL_law_225 ?_
  obtain ⟨v8, M9, e10, h⟩ := gq_b_i h
  refine gl_Vi (q := 0) (as := []) hC (t_X10_thrown N  _ _ _ e10) mV_X10_thrown wm_L_111 obR_0 rfl rfl (Nat.le_of_ble_eq_true rfl) ⟨by decide, by decide⟩ hkR dL_law_226 ?_
  refine gl_iload hC 1 rfl dL_law_229 ?_
  refine gl_icmp_eq (tgt := 236) hC (by decide) dL_law_231 (fun c11 => ?_) (fun c11 => ?_)
  · replace h := gq_t c11 h
    refine gl_iload hC 1 rfl dL_law_236 ?_
    refine gl_if_ne (tgt := 253) hC (by decide) dL_law_238 (fun c12 => ?_) (fun c12 => ?_)
    · replace h := gq_f c12 h
      refine gl_goto (tgt := 2100) hC (by decide) dL_law_253 ?_
      cases h
      refine gl_weak [2, 3, 4, 5, 6] rfl ?_
      exact hk
    · replace h := gq_t c12 h
      refine gc_aload_n hC 3 rfl rfl dL_law_241 ?_
      refine gc_iconst (v := 0) hC (by decide) dL_law_242 ?_
      refine gl_lald hC hKL dL_law_243 ?_
      refine gc_cast (ws2 := ((gl_out cL oa o4 :: gq_ws cI cZ adC C2 0 mtC) ++ gq_ws cI cZ adR M9 0 mtR)) ?_ rfl rfl rfl rfl rfl rfl
      refine gl_iload hC 0 rfl dL_law_244 ?_
      refine gl_i2l hC dL_law_246 ?_
      refine gl_lcmp hC dL_law_247 ?_
      refine gl_if_eq (tgt := 253) hC (by decide) dL_law_248 (fun c13 => ?_) (fun c13 => ?_)
      · replace h := gq_t c13 h
        refine gl_goto (tgt := 2100) hC (by decide) dL_law_253 ?_
        cases h
        refine gl_weak [2, 3, 4, 5, 6] rfl ?_
        exact hk
      · replace h := gq_f c13 h
        refine gc_iconst (v := 0) hC (by decide) dL_law_251 ?_
        cases h
  · replace h := gq_f c11 h
    refine gc_iconst (v := 0) hC (by decide) dL_law_234 ?_
    cases h
def fl_1 (N : Nat) (p1 : Int32) (p2 : Int32) (p3 : Int32) (p4 : Int32) (p5 : Int32) (p6 : Int32) (C R : gq_M) (ov : Int64) : Option (gq_M × gq_M × Int64) := if p3 = 0 then (gq_h (fh_L_aid N p1 p2 0 C ov) fun k2 o5 C3 => if p3 = 0 then (gq_b (f_X10_aid N p1 p2 0 R) fun v7 M8 => gq_b (f_X10_thrown N  M8) fun v10 M11 => if v10 = k2 then (if k2 = 0 then (if (lg_cmp o5 (v7 : Int32).toInt64) = 0 then (some (C3, M11, o5)) else (none)) else (some (C3, M11, o5))) else (none)) else (gq_b (f_X10_aid N p1 p2 1 R) fun v16 M17 => gq_b (f_X10_thrown N  M17) fun v19 M20 => if v19 = k2 then (if k2 = 0 then (if (lg_cmp o5 (v16 : Int32).toInt64) = 0 then (some (C3, M20, o5)) else (none)) else (some (C3, M20, o5))) else (none))) else (gq_h (fh_L_aid N p1 p2 1 C ov) fun k25 o28 C26 => if p3 = 0 then (gq_b (f_X10_aid N p1 p2 0 R) fun v30 M31 => gq_b (f_X10_thrown N  M31) fun v33 M34 => if v33 = k25 then (if k25 = 0 then (if (lg_cmp o28 (v30 : Int32).toInt64) = 0 then (some (C26, M34, o28)) else (none)) else (some (C26, M34, o28))) else (none)) else (gq_b (f_X10_aid N p1 p2 1 R) fun v39 M40 => gq_b (f_X10_thrown N  M40) fun v42 M43 => if v42 = k25 then (if k25 = 0 then (if (lg_cmp o28 (v39 : Int32).toInt64) = 0 then (some (C26, M43, o28)) else (none)) else (some (C26, M43, o28))) else (none)))
set_option maxHeartbeats 4000000 in
set_option maxRecDepth 20000 in
theorem q_law_1 (hl9 : l.stackTraces = false) (hC : gc_C p s m args meth c D A cI cZ RL cL_law 7) (hKL : gl_K D cI cZ cL s) (hZ : gq_Z A s) (hN : gl_N s) (hX : va_X b Ln xs s s.heap) (hbl : b < s.heap.size) (hbA : ¬ A b) (hx1 : vp_in (x4 + 1) Ln) (hx2 : vp_in (x4 + 2) Ln) (hx3 : vp_in (x4 + 3) Ln) (hx4 : vp_in (x4 + 4) Ln) (hx5 : vp_in (x4 + 5) Ln) (hx6 : vp_in (x4 + 6) Ln) (hkR : kc + 1 ≤ room_1.cells ∧ ks + 6 ≤ room_1.slots) (N : Nat) {C R C9 R9 : gq_M} {ov ov9 : Int64} (h : fl_1 N (xs (x4 + 1).toNatClampNeg) (xs (x4 + 2).toNatClampNeg) (xs (x4 + 3).toNatClampNeg) (xs (x4 + 4).toNatClampNeg) (xs (x4 + 5).toNatClampNeg) (xs (x4 + 6).toNatClampNeg) C R ov = some (C9, R9, ov9)) (hk : gc_W p l e room_1 s m args below meth c D A 7 Q ((gl_out cL oa ov9 :: gq_ws cI cZ adC C9 0 mtC) ++ gq_ws cI cZ adR R9 0 mtR) 2100 [(4, .int x4), (3, .ref oa), (2, .ref (adR 0)), (1, .ref (adC 0)), (0, .ref b)] [] (kc + 1) (ks + 6)) : gc_W p l e room_1 s m args below meth c D A 7 Q ((gl_out cL oa ov :: gq_ws cI cZ adC C 0 mtC) ++ gq_ws cI cZ adR R 0 mtR) 256 [(4, .int x4), (3, .ref oa), (2, .ref (adR 0)), (1, .ref (adC 0)), (0, .ref b)] [] kc ks := by
  unfold fl_1 at h
  refine gc_aload_n hC 3 rfl rfl dL_law_256 ?_
  refine gc_aload_n hC 4 rfl rfl dL_law_257 ?_
  refine gl_iload hC 0 rfl dL_law_258 ?_
  refine gc_iconst (v := 1) hC (by decide) dL_law_260 ?_
  refine gl_iadd hC dL_law_261 ?_
  refine gl_sld hC hX hbl hbA hx1 dL_law_262 ?_
  refine gc_aload_n hC 4 rfl rfl dL_law_263 ?_
  refine gl_iload hC 0 rfl dL_law_264 ?_
  refine gc_iconst (v := 2) hC (by decide) dL_law_266 ?_
  refine gl_iadd hC dL_law_267 ?_
  refine gl_sld hC hX hbl hbA hx2 dL_law_268 ?_
  refine gc_aload_n hC 4 rfl rfl dL_law_269 ?_
  refine gl_iload hC 0 rfl dL_law_270 ?_
  refine gc_iconst (v := 3) hC (by decide) dL_law_272 ?_
  refine gl_iadd hC dL_law_273 ?_
  refine gl_sld hC hX hbl hbA hx3 dL_law_274 ?_
  refine gl_if_eq (tgt := 282) hC (by decide) dL_law_275 (fun c1 => ?_) (fun c1 => ?_)
  · replace h := gq_t c1 h
    refine gc_iconst (v := 0) hC (by decide) dL_law_282 ?_
    refine gc_aload_n hC 1 rfl rfl dL_law_283 ?_
    obtain ⟨k2, o5, C3, e4, h⟩ := gq_h_i h
    refine gl_comm ?_
    refine gl_H (as := [.ref (adC 0), .int (xs (x4 + 1).toNatClampNeg), .int (xs (x4 + 2).toNatClampNeg), .int 0, .ref oa]) hC hKL hZ hN (h_L_aid hl9 N _ _ _ _ _ _ _ _ _ e4) (by show oa :: _ = oa :: _; rw [gq_ws_fst 0 mtC]) mH_L_aid wm_L_114 rfl rfl (Nat.le_of_ble_eq_true rfl) ⟨by decide, by decide⟩ hkR dL_law_284 ?_
    refine gl_comm ?_
    refine gl_istore (L2 := [(5, .int k2), (4, .int x4), (3, .ref oa), (2, .ref (adR 0)), (1, .ref (adC 0)), (0, .ref b)]) hC (by decide) rfl dL_law_287 ?_
    refine gc_aload_n hC 3 rfl rfl dL_law_289 ?_
    refine gc_aload_n hC 5 rfl rfl dL_law_290 ?_
    refine gl_iload hC 1 rfl dL_law_291 ?_
    refine gc_iconst (v := 1) hC (by decide) dL_law_293 ?_
    refine gl_iadd hC dL_law_294 ?_
    refine gl_sld hC hX hbl hbA hx1 dL_law_295 ?_
    refine gc_aload_n hC 5 rfl rfl dL_law_296 ?_
    refine gl_iload hC 1 rfl dL_law_297 ?_
    refine gc_iconst (v := 2) hC (by decide) dL_law_299 ?_
    refine gl_iadd hC dL_law_300 ?_
    refine gl_sld hC hX hbl hbA hx2 dL_law_301 ?_
    refine gc_aload_n hC 5 rfl rfl dL_law_302 ?_
    refine gl_iload hC 1 rfl dL_law_303 ?_
    refine gc_iconst (v := 3) hC (by decide) dL_law_305 ?_
    refine gl_iadd hC dL_law_306 ?_
    refine gl_sld hC hX hbl hbA hx3 dL_law_307 ?_
    refine gl_if_eq (tgt := 315) hC (by decide) dL_law_308 (fun c6 => ?_) (fun c6 => ?_)
    · replace h := gq_t c6 h
      refine gc_iconst (v := 0) hC (by decide) dL_law_315 ?_
      obtain ⟨v7, M8, e9, h⟩ := gq_b_i h
      refine gl_Vi (q := 0) (as := [.int (xs (x4 + 1).toNatClampNeg), .int (xs (x4 + 2).toNatClampNeg), .int 0]) hC (t_X10_aid N _ _ _ _ _ _ e9) mV_X10_aid wm_L_117 obR_0 rfl rfl (Nat.le_of_ble_eq_true rfl) ⟨by decide, by decide⟩ hkR dL_law_316 ?_
      refine gl_istore (L2 := [(6, .int v7), (5, .int k2), (4, .int x4), (3, .ref oa), (2, .ref (adR 0)), (1, .ref (adC 0)), (0, .ref b)]) hC (by decide) rfl dL_law_319 ?_
      refine gc_aload_n hC 4 rfl rfl dL_law_321 ?_
      obtain ⟨v10, M11, e12, h⟩ := gq_b_i h
      refine gl_Vi (q := 0) (as := []) hC (t_X10_thrown N  _ _ _ e12) mV_X10_thrown wm_L_111 obR_0 rfl rfl (Nat.le_of_ble_eq_true rfl) ⟨by decide, by decide⟩ hkR dL_law_322 ?_
      refine gl_iload hC 1 rfl dL_law_325 ?_
      refine gl_icmp_eq (tgt := 332) hC (by decide) dL_law_327 (fun c13 => ?_) (fun c13 => ?_)
      · replace h := gq_t c13 h
        refine gl_iload hC 1 rfl dL_law_332 ?_
        refine gl_if_ne (tgt := 349) hC (by decide) dL_law_334 (fun c14 => ?_) (fun c14 => ?_)
        · replace h := gq_f c14 h
          refine gl_goto (tgt := 2100) hC (by decide) dL_law_349 ?_
          cases h
          refine gl_weak [2, 3, 4, 5, 6] rfl ?_
          exact hk
        · replace h := gq_t c14 h
          refine gc_aload_n hC 3 rfl rfl dL_law_337 ?_
          refine gc_iconst (v := 0) hC (by decide) dL_law_338 ?_
          refine gl_lald hC hKL dL_law_339 ?_
          refine gc_cast (ws2 := ((gl_out cL oa o5 :: gq_ws cI cZ adC C3 0 mtC) ++ gq_ws cI cZ adR M11 0 mtR)) ?_ rfl rfl rfl rfl rfl rfl
          refine gl_iload hC 0 rfl dL_law_340 ?_
          refine gl_i2l hC dL_law_342 ?_
          refine gl_lcmp hC dL_law_343 ?_
          refine gl_if_eq (tgt := 349) hC (by decide) dL_law_344 (fun c15 => ?_) (fun c15 => ?_)
          · replace h := gq_t c15 h
            refine gl_goto (tgt := 2100) hC (by decide) dL_law_349 ?_
            cases h
            refine gl_weak [2, 3, 4, 5, 6] rfl ?_
            exact hk
          · replace h := gq_f c15 h
            refine gc_iconst (v := 0) hC (by decide) dL_law_347 ?_
            cases h
      · replace h := gq_f c13 h
        refine gc_iconst (v := 0) hC (by decide) dL_law_330 ?_
        cases h
    · replace h := gq_f c6 h
      refine gc_iconst (v := 1) hC (by decide) dL_law_311 ?_
      refine gl_goto (tgt := 316) hC (by decide) dL_law_312 ?_
      obtain ⟨v16, M17, e18, h⟩ := gq_b_i h
      refine gl_Vi (q := 0) (as := [.int (xs (x4 + 1).toNatClampNeg), .int (xs (x4 + 2).toNatClampNeg), .int 1]) hC (t_X10_aid N _ _ _ _ _ _ e18) mV_X10_aid wm_L_117 obR_0 rfl rfl (Nat.le_of_ble_eq_true rfl) ⟨by decide, by decide⟩ hkR dL_law_316 ?_
      refine gl_istore (L2 := [(6, .int v16), (5, .int k2), (4, .int x4), (3, .ref oa), (2, .ref (adR 0)), (1, .ref (adC 0)), (0, .ref b)]) hC (by decide) rfl dL_law_319 ?_
      refine gc_aload_n hC 4 rfl rfl dL_law_321 ?_
      obtain ⟨v19, M20, e21, h⟩ := gq_b_i h
      refine gl_Vi (q := 0) (as := []) hC (t_X10_thrown N  _ _ _ e21) mV_X10_thrown wm_L_111 obR_0 rfl rfl (Nat.le_of_ble_eq_true rfl) ⟨by decide, by decide⟩ hkR dL_law_322 ?_
      refine gl_iload hC 1 rfl dL_law_325 ?_
      refine gl_icmp_eq (tgt := 332) hC (by decide) dL_law_327 (fun c22 => ?_) (fun c22 => ?_)
      · replace h := gq_t c22 h
        refine gl_iload hC 1 rfl dL_law_332 ?_
        refine gl_if_ne (tgt := 349) hC (by decide) dL_law_334 (fun c23 => ?_) (fun c23 => ?_)
        · replace h := gq_f c23 h
          refine gl_goto (tgt := 2100) hC (by decide) dL_law_349 ?_
          cases h
          refine gl_weak [2, 3, 4, 5, 6] rfl ?_
          exact hk
        · replace h := gq_t c23 h
          refine gc_aload_n hC 3 rfl rfl dL_law_337 ?_
          refine gc_iconst (v := 0) hC (by decide) dL_law_338 ?_
          refine gl_lald hC hKL dL_law_339 ?_
          refine gc_cast (ws2 := ((gl_out cL oa o5 :: gq_ws cI cZ adC C3 0 mtC) ++ gq_ws cI cZ adR M20 0 mtR)) ?_ rfl rfl rfl rfl rfl rfl
          refine gl_iload hC 0 rfl dL_law_340 ?_
          refine gl_i2l hC dL_law_342 ?_
          refine gl_lcmp hC dL_law_343 ?_
          refine gl_if_eq (tgt := 349) hC (by decide) dL_law_344 (fun c24 => ?_) (fun c24 => ?_)
          · replace h := gq_t c24 h
            refine gl_goto (tgt := 2100) hC (by decide) dL_law_349 ?_
            cases h
            refine gl_weak [2, 3, 4, 5, 6] rfl ?_
            exact hk
          · replace h := gq_f c24 h
            refine gc_iconst (v := 0) hC (by decide) dL_law_347 ?_
            cases h
      · replace h := gq_f c22 h
        refine gc_iconst (v := 0) hC (by decide) dL_law_330 ?_
        cases h
  · replace h := gq_f c1 h
    refine gc_iconst (v := 1) hC (by decide) dL_law_278 ?_
    refine gl_goto (tgt := 283) hC (by decide) dL_law_279 ?_
    refine gc_aload_n hC 1 rfl rfl dL_law_283 ?_
    obtain ⟨k25, o28, C26, e27, h⟩ := gq_h_i h
    refine gl_comm ?_
    refine gl_H (as := [.ref (adC 0), .int (xs (x4 + 1).toNatClampNeg), .int (xs (x4 + 2).toNatClampNeg), .int 1, .ref oa]) hC hKL hZ hN (h_L_aid hl9 N _ _ _ _ _ _ _ _ _ e27) (by show oa :: _ = oa :: _; rw [gq_ws_fst 0 mtC]) mH_L_aid wm_L_114 rfl rfl (Nat.le_of_ble_eq_true rfl) ⟨by decide, by decide⟩ hkR dL_law_284 ?_
    refine gl_comm ?_
    refine gl_istore (L2 := [(5, .int k25), (4, .int x4), (3, .ref oa), (2, .ref (adR 0)), (1, .ref (adC 0)), (0, .ref b)]) hC (by decide) rfl dL_law_287 ?_
    refine gc_aload_n hC 3 rfl rfl dL_law_289 ?_
    refine gc_aload_n hC 5 rfl rfl dL_law_290 ?_
    refine gl_iload hC 1 rfl dL_law_291 ?_
    refine gc_iconst (v := 1) hC (by decide) dL_law_293 ?_
    refine gl_iadd hC dL_law_294 ?_
    refine gl_sld hC hX hbl hbA hx1 dL_law_295 ?_
    refine gc_aload_n hC 5 rfl rfl dL_law_296 ?_
    refine gl_iload hC 1 rfl dL_law_297 ?_
    refine gc_iconst (v := 2) hC (by decide) dL_law_299 ?_
    refine gl_iadd hC dL_law_300 ?_
    refine gl_sld hC hX hbl hbA hx2 dL_law_301 ?_
    refine gc_aload_n hC 5 rfl rfl dL_law_302 ?_
    refine gl_iload hC 1 rfl dL_law_303 ?_
    refine gc_iconst (v := 3) hC (by decide) dL_law_305 ?_
    refine gl_iadd hC dL_law_306 ?_
    refine gl_sld hC hX hbl hbA hx3 dL_law_307 ?_
    refine gl_if_eq (tgt := 315) hC (by decide) dL_law_308 (fun c29 => ?_) (fun c29 => ?_)
    · replace h := gq_t c29 h
      refine gc_iconst (v := 0) hC (by decide) dL_law_315 ?_
      obtain ⟨v30, M31, e32, h⟩ := gq_b_i h
      refine gl_Vi (q := 0) (as := [.int (xs (x4 + 1).toNatClampNeg), .int (xs (x4 + 2).toNatClampNeg), .int 0]) hC (t_X10_aid N _ _ _ _ _ _ e32) mV_X10_aid wm_L_117 obR_0 rfl rfl (Nat.le_of_ble_eq_true rfl) ⟨by decide, by decide⟩ hkR dL_law_316 ?_
      refine gl_istore (L2 := [(6, .int v30), (5, .int k25), (4, .int x4), (3, .ref oa), (2, .ref (adR 0)), (1, .ref (adC 0)), (0, .ref b)]) hC (by decide) rfl dL_law_319 ?_
      refine gc_aload_n hC 4 rfl rfl dL_law_321 ?_
      obtain ⟨v33, M34, e35, h⟩ := gq_b_i h
      refine gl_Vi (q := 0) (as := []) hC (t_X10_thrown N  _ _ _ e35) mV_X10_thrown wm_L_111 obR_0 rfl rfl (Nat.le_of_ble_eq_true rfl) ⟨by decide, by decide⟩ hkR dL_law_322 ?_
      refine gl_iload hC 1 rfl dL_law_325 ?_
      refine gl_icmp_eq (tgt := 332) hC (by decide) dL_law_327 (fun c36 => ?_) (fun c36 => ?_)
      · replace h := gq_t c36 h
        refine gl_iload hC 1 rfl dL_law_332 ?_
        refine gl_if_ne (tgt := 349) hC (by decide) dL_law_334 (fun c37 => ?_) (fun c37 => ?_)
        · replace h := gq_f c37 h
          refine gl_goto (tgt := 2100) hC (by decide) dL_law_349 ?_
          cases h
          refine gl_weak [2, 3, 4, 5, 6] rfl ?_
          exact hk
        · replace h := gq_t c37 h
          refine gc_aload_n hC 3 rfl rfl dL_law_337 ?_
          refine gc_iconst (v := 0) hC (by decide) dL_law_338 ?_
          refine gl_lald hC hKL dL_law_339 ?_
          refine gc_cast (ws2 := ((gl_out cL oa o28 :: gq_ws cI cZ adC C26 0 mtC) ++ gq_ws cI cZ adR M34 0 mtR)) ?_ rfl rfl rfl rfl rfl rfl
          refine gl_iload hC 0 rfl dL_law_340 ?_
          refine gl_i2l hC dL_law_342 ?_
          refine gl_lcmp hC dL_law_343 ?_
          refine gl_if_eq (tgt := 349) hC (by decide) dL_law_344 (fun c38 => ?_) (fun c38 => ?_)
          · replace h := gq_t c38 h
            refine gl_goto (tgt := 2100) hC (by decide) dL_law_349 ?_
            cases h
            refine gl_weak [2, 3, 4, 5, 6] rfl ?_
            exact hk
          · replace h := gq_f c38 h
            refine gc_iconst (v := 0) hC (by decide) dL_law_347 ?_
            cases h
      · replace h := gq_f c36 h
        refine gc_iconst (v := 0) hC (by decide) dL_law_330 ?_
        cases h
    · replace h := gq_f c29 h
      refine gc_iconst (v := 1) hC (by decide) dL_law_311 ?_
      refine gl_goto (tgt := 316) hC (by decide) dL_law_312 ?_
      obtain ⟨v39, M40, e41, h⟩ := gq_b_i h
      refine gl_Vi (q := 0) (as := [.int (xs (x4 + 1).toNatClampNeg), .int (xs (x4 + 2).toNatClampNeg), .int 1]) hC (t_X10_aid N _ _ _ _ _ _ e41) mV_X10_aid wm_L_117 obR_0 rfl rfl (Nat.le_of_ble_eq_true rfl) ⟨by decide, by decide⟩ hkR dL_law_316 ?_
      refine gl_istore (L2 := [(6, .int v39), (5, .int k25), (4, .int x4), (3, .ref oa), (2, .ref (adR 0)), (1, .ref (adC 0)), (0, .ref b)]) hC (by decide) rfl dL_law_319 ?_
      refine gc_aload_n hC 4 rfl rfl dL_law_321 ?_
      obtain ⟨v42, M43, e44, h⟩ := gq_b_i h
      refine gl_Vi (q := 0) (as := []) hC (t_X10_thrown N  _ _ _ e44) mV_X10_thrown wm_L_111 obR_0 rfl rfl (Nat.le_of_ble_eq_true rfl) ⟨by decide, by decide⟩ hkR dL_law_322 ?_
      refine gl_iload hC 1 rfl dL_law_325 ?_
      refine gl_icmp_eq (tgt := 332) hC (by decide) dL_law_327 (fun c45 => ?_) (fun c45 => ?_)
      · replace h := gq_t c45 h
        refine gl_iload hC 1 rfl dL_law_332 ?_
        refine gl_if_ne (tgt := 349) hC (by decide) dL_law_334 (fun c46 => ?_) (fun c46 => ?_)
        · replace h := gq_f c46 h
          refine gl_goto (tgt := 2100) hC (by decide) dL_law_349 ?_
          cases h
          refine gl_weak [2, 3, 4, 5, 6] rfl ?_
          exact hk
        · replace h := gq_t c46 h
          refine gc_aload_n hC 3 rfl rfl dL_law_337 ?_
          refine gc_iconst (v := 0) hC (by decide) dL_law_338 ?_
          refine gl_lald hC hKL dL_law_339 ?_
          refine gc_cast (ws2 := ((gl_out cL oa o28 :: gq_ws cI cZ adC C26 0 mtC) ++ gq_ws cI cZ adR M43 0 mtR)) ?_ rfl rfl rfl rfl rfl rfl
          refine gl_iload hC 0 rfl dL_law_340 ?_
          refine gl_i2l hC dL_law_342 ?_
          refine gl_lcmp hC dL_law_343 ?_
          refine gl_if_eq (tgt := 349) hC (by decide) dL_law_344 (fun c47 => ?_) (fun c47 => ?_)
          · replace h := gq_t c47 h
            refine gl_goto (tgt := 2100) hC (by decide) dL_law_349 ?_
            cases h
            refine gl_weak [2, 3, 4, 5, 6] rfl ?_
            exact hk
          · replace h := gq_f c47 h
            refine gc_iconst (v := 0) hC (by decide) dL_law_347 ?_
            cases h
      · replace h := gq_f c45 h
        refine gc_iconst (v := 0) hC (by decide) dL_law_330 ?_
        cases h
def fl_2 (N : Nat) (p1 : Int32) (p2 : Int32) (p3 : Int32) (p4 : Int32) (p5 : Int32) (p6 : Int32) (C R : gq_M) (ov : Int64) : Option (gq_M × gq_M × Int64) := gq_b (fh_L_kind N p1 p2 p3 p4 C) fun k1 C2 => gq_b (f_X10_kind N p1 p2 p3 p4 R) fun v4 M5 => gq_b (f_X10_thrown N  M5) fun v7 M8 => if v7 = k1 then (some (C2, M8, ov)) else (none)
set_option maxHeartbeats 4000000 in
set_option maxRecDepth 20000 in
theorem q_law_2 (hl9 : l.stackTraces = false) (hC : gc_C p s m args meth c D A cI cZ RL cL_law 7) (hKL : gl_K D cI cZ cL s) (hZ : gq_Z A s) (hN : gl_N s) (hX : va_X b Ln xs s s.heap) (hbl : b < s.heap.size) (hbA : ¬ A b) (hx1 : vp_in (x4 + 1) Ln) (hx2 : vp_in (x4 + 2) Ln) (hx3 : vp_in (x4 + 3) Ln) (hx4 : vp_in (x4 + 4) Ln) (hx5 : vp_in (x4 + 5) Ln) (hx6 : vp_in (x4 + 6) Ln) (hkR : kc + 1 ≤ room_1.cells ∧ ks + 6 ≤ room_1.slots) (N : Nat) {C R C9 R9 : gq_M} {ov ov9 : Int64} (h : fl_2 N (xs (x4 + 1).toNatClampNeg) (xs (x4 + 2).toNatClampNeg) (xs (x4 + 3).toNatClampNeg) (xs (x4 + 4).toNatClampNeg) (xs (x4 + 5).toNatClampNeg) (xs (x4 + 6).toNatClampNeg) C R ov = some (C9, R9, ov9)) (hk : gc_W p l e room_1 s m args below meth c D A 7 Q ((gl_out cL oa ov9 :: gq_ws cI cZ adC C9 0 mtC) ++ gq_ws cI cZ adR R9 0 mtR) 2100 [(4, .int x4), (3, .ref oa), (2, .ref (adR 0)), (1, .ref (adC 0)), (0, .ref b)] [] (kc + 1) (ks + 6)) : gc_W p l e room_1 s m args below meth c D A 7 Q ((gl_out cL oa ov :: gq_ws cI cZ adC C 0 mtC) ++ gq_ws cI cZ adR R 0 mtR) 352 [(4, .int x4), (3, .ref oa), (2, .ref (adR 0)), (1, .ref (adC 0)), (0, .ref b)] [] kc ks := by
  unfold fl_2 at h
  refine gc_aload_n hC 3 rfl rfl dL_law_352 ?_
  refine gc_aload_n hC 4 rfl rfl dL_law_353 ?_
  refine gl_iload hC 0 rfl dL_law_354 ?_
  refine gc_iconst (v := 1) hC (by decide) dL_law_356 ?_
  refine gl_iadd hC dL_law_357 ?_
  refine gl_sld hC hX hbl hbA hx1 dL_law_358 ?_
  refine gc_aload_n hC 4 rfl rfl dL_law_359 ?_
  refine gl_iload hC 0 rfl dL_law_360 ?_
  refine gc_iconst (v := 2) hC (by decide) dL_law_362 ?_
  refine gl_iadd hC dL_law_363 ?_
  refine gl_sld hC hX hbl hbA hx2 dL_law_364 ?_
  refine gc_aload_n hC 4 rfl rfl dL_law_365 ?_
  refine gl_iload hC 0 rfl dL_law_366 ?_
  refine gc_iconst (v := 3) hC (by decide) dL_law_368 ?_
  refine gl_iadd hC dL_law_369 ?_
  refine gl_sld hC hX hbl hbA hx3 dL_law_370 ?_
  refine gc_aload_n hC 4 rfl rfl dL_law_371 ?_
  refine gl_iload hC 0 rfl dL_law_372 ?_
  refine gc_iconst (v := 4) hC (by decide) dL_law_374 ?_
  refine gl_iadd hC dL_law_375 ?_
  refine gl_sld hC hX hbl hbA hx4 dL_law_376 ?_
  obtain ⟨k1, C2, e3, h⟩ := gq_b_i h
  refine gl_comm ?_
  refine gc_cast (ws2 := ((gq_ws cI cZ adR R 0 mtR ++ [gl_out cL oa ov]) ++ gq_ws cI cZ adC C 0 mtC)) ?_ rfl rfl rfl (by simp) rfl rfl
  refine gl_H (as := [.ref (adC 0), .int (xs (x4 + 1).toNatClampNeg), .int (xs (x4 + 2).toNatClampNeg), .int (xs (x4 + 3).toNatClampNeg), .int (xs (x4 + 4).toNatClampNeg)]) hC hKL hZ hN (h_L_kind hl9 N _ _ _ _ _ _ _ e3) (gq_ws_fst 0 mtC) mH_L_kind wm_L_118 rfl rfl (Nat.le_of_ble_eq_true rfl) ⟨by decide, by decide⟩ hkR dL_law_377 ?_
  refine gc_cast (ws2 := (gq_ws cI cZ adR R 0 mtR ++ (gl_out cL oa ov :: gq_ws cI cZ adC C2 0 mtC))) ?_ rfl rfl rfl (by simp) rfl rfl
  refine gl_comm ?_
  refine gl_istore (L2 := [(5, .int k1), (4, .int x4), (3, .ref oa), (2, .ref (adR 0)), (1, .ref (adC 0)), (0, .ref b)]) hC (by decide) rfl dL_law_380 ?_
  refine gc_aload_n hC 3 rfl rfl dL_law_382 ?_
  refine gc_aload_n hC 5 rfl rfl dL_law_383 ?_
  refine gl_iload hC 1 rfl dL_law_384 ?_
  refine gc_iconst (v := 1) hC (by decide) dL_law_386 ?_
  refine gl_iadd hC dL_law_387 ?_
  refine gl_sld hC hX hbl hbA hx1 dL_law_388 ?_
  refine gc_aload_n hC 5 rfl rfl dL_law_389 ?_
  refine gl_iload hC 1 rfl dL_law_390 ?_
  refine gc_iconst (v := 2) hC (by decide) dL_law_392 ?_
  refine gl_iadd hC dL_law_393 ?_
  refine gl_sld hC hX hbl hbA hx2 dL_law_394 ?_
  refine gc_aload_n hC 5 rfl rfl dL_law_395 ?_
  refine gl_iload hC 1 rfl dL_law_396 ?_
  refine gc_iconst (v := 3) hC (by decide) dL_law_398 ?_
  refine gl_iadd hC dL_law_399 ?_
  refine gl_sld hC hX hbl hbA hx3 dL_law_400 ?_
  refine gc_aload_n hC 5 rfl rfl dL_law_401 ?_
  refine gl_iload hC 1 rfl dL_law_402 ?_
  refine gc_iconst (v := 4) hC (by decide) dL_law_404 ?_
  refine gl_iadd hC dL_law_405 ?_
  refine gl_sld hC hX hbl hbA hx4 dL_law_406 ?_
  obtain ⟨v4, M5, e6, h⟩ := gq_b_i h
  refine gl_Vv (q := 0) (as := [.int (xs (x4 + 1).toNatClampNeg), .int (xs (x4 + 2).toNatClampNeg), .int (xs (x4 + 3).toNatClampNeg), .int (xs (x4 + 4).toNatClampNeg)]) hC (t_X10_kind N _ _ _ _ _ _ _ e6) mV_X10_kind wm_L_121 obR_0 rfl rfl (Nat.le_of_ble_eq_true rfl) ⟨by decide, by decide⟩ hkR dL_law_407 ?_
  refine gc_aload_n hC 3 rfl rfl dL_law_410 ?_
  obtain ⟨v7, M8, e9, h⟩ := gq_b_i h
  refine gl_Vi (q := 0) (as := []) hC (t_X10_thrown N  _ _ _ e9) mV_X10_thrown wm_L_111 obR_0 rfl rfl (Nat.le_of_ble_eq_true rfl) ⟨by decide, by decide⟩ hkR dL_law_411 ?_
  refine gl_iload hC 0 rfl dL_law_414 ?_
  refine gl_icmp_eq (tgt := 421) hC (by decide) dL_law_416 (fun c10 => ?_) (fun c10 => ?_)
  · replace h := gq_t c10 h
    refine gl_goto (tgt := 2100) hC (by decide) dL_law_421 ?_
    cases h
    refine gl_weak [1, 2, 3, 4, 5] rfl ?_
    exact hk
  · replace h := gq_f c10 h
    refine gc_iconst (v := 0) hC (by decide) dL_law_419 ?_
    cases h
def fl_3 (N : Nat) (p1 : Int32) (p2 : Int32) (p3 : Int32) (p4 : Int32) (p5 : Int32) (p6 : Int32) (C R : gq_M) (ov : Int64) : Option (gq_M × gq_M × Int64) := gq_h (fh_L_step N p1 p2 C ov) fun k1 o4 C2 => gq_b (f_X10_step N p1 p2 R) fun v5 M6 => gq_b (f_X10_thrown N  M6) fun v8 M9 => if v8 = k1 then (if k1 = 0 then (if (lg_cmp o4 (v5 : Int32).toInt64) = 0 then (some (C2, M9, o4)) else (none)) else (some (C2, M9, o4))) else (none)
set_option maxHeartbeats 4000000 in
set_option maxRecDepth 20000 in
theorem q_law_3 (hl9 : l.stackTraces = false) (hC : gc_C p s m args meth c D A cI cZ RL cL_law 7) (hKL : gl_K D cI cZ cL s) (hZ : gq_Z A s) (hN : gl_N s) (hX : va_X b Ln xs s s.heap) (hbl : b < s.heap.size) (hbA : ¬ A b) (hx1 : vp_in (x4 + 1) Ln) (hx2 : vp_in (x4 + 2) Ln) (hx3 : vp_in (x4 + 3) Ln) (hx4 : vp_in (x4 + 4) Ln) (hx5 : vp_in (x4 + 5) Ln) (hx6 : vp_in (x4 + 6) Ln) (hkR : kc + 1 ≤ room_1.cells ∧ ks + 6 ≤ room_1.slots) (N : Nat) {C R C9 R9 : gq_M} {ov ov9 : Int64} (h : fl_3 N (xs (x4 + 1).toNatClampNeg) (xs (x4 + 2).toNatClampNeg) (xs (x4 + 3).toNatClampNeg) (xs (x4 + 4).toNatClampNeg) (xs (x4 + 5).toNatClampNeg) (xs (x4 + 6).toNatClampNeg) C R ov = some (C9, R9, ov9)) (hk : gc_W p l e room_1 s m args below meth c D A 7 Q ((gl_out cL oa ov9 :: gq_ws cI cZ adC C9 0 mtC) ++ gq_ws cI cZ adR R9 0 mtR) 2100 [(4, .int x4), (3, .ref oa), (2, .ref (adR 0)), (1, .ref (adC 0)), (0, .ref b)] [] (kc + 1) (ks + 6)) : gc_W p l e room_1 s m args below meth c D A 7 Q ((gl_out cL oa ov :: gq_ws cI cZ adC C 0 mtC) ++ gq_ws cI cZ adR R 0 mtR) 424 [(4, .int x4), (3, .ref oa), (2, .ref (adR 0)), (1, .ref (adC 0)), (0, .ref b)] [] kc ks := by
  unfold fl_3 at h
  refine gc_aload_n hC 3 rfl rfl dL_law_424 ?_
  refine gc_aload_n hC 4 rfl rfl dL_law_425 ?_
  refine gl_iload hC 0 rfl dL_law_426 ?_
  refine gc_iconst (v := 1) hC (by decide) dL_law_428 ?_
  refine gl_iadd hC dL_law_429 ?_
  refine gl_sld hC hX hbl hbA hx1 dL_law_430 ?_
  refine gc_aload_n hC 4 rfl rfl dL_law_431 ?_
  refine gl_iload hC 0 rfl dL_law_432 ?_
  refine gc_iconst (v := 2) hC (by decide) dL_law_434 ?_
  refine gl_iadd hC dL_law_435 ?_
  refine gl_sld hC hX hbl hbA hx2 dL_law_436 ?_
  refine gc_aload_n hC 1 rfl rfl dL_law_437 ?_
  obtain ⟨k1, o4, C2, e3, h⟩ := gq_h_i h
  refine gl_comm ?_
  refine gl_H (as := [.ref (adC 0), .int (xs (x4 + 1).toNatClampNeg), .int (xs (x4 + 2).toNatClampNeg), .ref oa]) hC hKL hZ hN (h_L_step hl9 N _ _ _ _ _ _ _ _ e3) (by show oa :: _ = oa :: _; rw [gq_ws_fst 0 mtC]) mH_L_step wm_L_122 rfl rfl (Nat.le_of_ble_eq_true rfl) ⟨by decide, by decide⟩ hkR dL_law_438 ?_
  refine gl_comm ?_
  refine gl_istore (L2 := [(5, .int k1), (4, .int x4), (3, .ref oa), (2, .ref (adR 0)), (1, .ref (adC 0)), (0, .ref b)]) hC (by decide) rfl dL_law_441 ?_
  refine gc_aload_n hC 3 rfl rfl dL_law_443 ?_
  refine gc_aload_n hC 5 rfl rfl dL_law_444 ?_
  refine gl_iload hC 1 rfl dL_law_445 ?_
  refine gc_iconst (v := 1) hC (by decide) dL_law_447 ?_
  refine gl_iadd hC dL_law_448 ?_
  refine gl_sld hC hX hbl hbA hx1 dL_law_449 ?_
  refine gc_aload_n hC 5 rfl rfl dL_law_450 ?_
  refine gl_iload hC 1 rfl dL_law_451 ?_
  refine gc_iconst (v := 2) hC (by decide) dL_law_453 ?_
  refine gl_iadd hC dL_law_454 ?_
  refine gl_sld hC hX hbl hbA hx2 dL_law_455 ?_
  obtain ⟨v5, M6, e7, h⟩ := gq_b_i h
  refine gl_Vi (q := 0) (as := [.int (xs (x4 + 1).toNatClampNeg), .int (xs (x4 + 2).toNatClampNeg)]) hC (t_X10_step N _ _ _ _ _ e7) mV_X10_step wm_L_125 obR_0 rfl rfl (Nat.le_of_ble_eq_true rfl) ⟨by decide, by decide⟩ hkR dL_law_456 ?_
  refine gl_istore (L2 := [(6, .int v5), (5, .int k1), (4, .int x4), (3, .ref oa), (2, .ref (adR 0)), (1, .ref (adC 0)), (0, .ref b)]) hC (by decide) rfl dL_law_459 ?_
  refine gc_aload_n hC 4 rfl rfl dL_law_461 ?_
  obtain ⟨v8, M9, e10, h⟩ := gq_b_i h
  refine gl_Vi (q := 0) (as := []) hC (t_X10_thrown N  _ _ _ e10) mV_X10_thrown wm_L_111 obR_0 rfl rfl (Nat.le_of_ble_eq_true rfl) ⟨by decide, by decide⟩ hkR dL_law_462 ?_
  refine gl_iload hC 1 rfl dL_law_465 ?_
  refine gl_icmp_eq (tgt := 472) hC (by decide) dL_law_467 (fun c11 => ?_) (fun c11 => ?_)
  · replace h := gq_t c11 h
    refine gl_iload hC 1 rfl dL_law_472 ?_
    refine gl_if_ne (tgt := 489) hC (by decide) dL_law_474 (fun c12 => ?_) (fun c12 => ?_)
    · replace h := gq_f c12 h
      refine gl_goto (tgt := 2100) hC (by decide) dL_law_489 ?_
      cases h
      refine gl_weak [2, 3, 4, 5, 6] rfl ?_
      exact hk
    · replace h := gq_t c12 h
      refine gc_aload_n hC 3 rfl rfl dL_law_477 ?_
      refine gc_iconst (v := 0) hC (by decide) dL_law_478 ?_
      refine gl_lald hC hKL dL_law_479 ?_
      refine gc_cast (ws2 := ((gl_out cL oa o4 :: gq_ws cI cZ adC C2 0 mtC) ++ gq_ws cI cZ adR M9 0 mtR)) ?_ rfl rfl rfl rfl rfl rfl
      refine gl_iload hC 0 rfl dL_law_480 ?_
      refine gl_i2l hC dL_law_482 ?_
      refine gl_lcmp hC dL_law_483 ?_
      refine gl_if_eq (tgt := 489) hC (by decide) dL_law_484 (fun c13 => ?_) (fun c13 => ?_)
      · replace h := gq_t c13 h
        refine gl_goto (tgt := 2100) hC (by decide) dL_law_489 ?_
        cases h
        refine gl_weak [2, 3, 4, 5, 6] rfl ?_
        exact hk
      · replace h := gq_f c13 h
        refine gc_iconst (v := 0) hC (by decide) dL_law_487 ?_
        cases h
  · replace h := gq_f c11 h
    refine gc_iconst (v := 0) hC (by decide) dL_law_470 ?_
    cases h
def fl_4 (N : Nat) (p1 : Int32) (p2 : Int32) (p3 : Int32) (p4 : Int32) (p5 : Int32) (p6 : Int32) (C R : gq_M) (ov : Int64) : Option (gq_M × gq_M × Int64) := gq_h (fh_L_buyer N p1 p2 p3 C ov) fun k1 o4 C2 => gq_b (f_X10_buyer N p1 p2 p3 R) fun v5 M6 => gq_b (f_X10_thrown N  M6) fun v8 M9 => if v8 = k1 then (if k1 = 0 then (if (lg_cmp o4 (v5 : Int32).toInt64) = 0 then (some (C2, M9, o4)) else (none)) else (some (C2, M9, o4))) else (none)
set_option maxHeartbeats 4000000 in
set_option maxRecDepth 20000 in
theorem q_law_4 (hl9 : l.stackTraces = false) (hC : gc_C p s m args meth c D A cI cZ RL cL_law 7) (hKL : gl_K D cI cZ cL s) (hZ : gq_Z A s) (hN : gl_N s) (hX : va_X b Ln xs s s.heap) (hbl : b < s.heap.size) (hbA : ¬ A b) (hx1 : vp_in (x4 + 1) Ln) (hx2 : vp_in (x4 + 2) Ln) (hx3 : vp_in (x4 + 3) Ln) (hx4 : vp_in (x4 + 4) Ln) (hx5 : vp_in (x4 + 5) Ln) (hx6 : vp_in (x4 + 6) Ln) (hkR : kc + 1 ≤ room_1.cells ∧ ks + 6 ≤ room_1.slots) (N : Nat) {C R C9 R9 : gq_M} {ov ov9 : Int64} (h : fl_4 N (xs (x4 + 1).toNatClampNeg) (xs (x4 + 2).toNatClampNeg) (xs (x4 + 3).toNatClampNeg) (xs (x4 + 4).toNatClampNeg) (xs (x4 + 5).toNatClampNeg) (xs (x4 + 6).toNatClampNeg) C R ov = some (C9, R9, ov9)) (hk : gc_W p l e room_1 s m args below meth c D A 7 Q ((gl_out cL oa ov9 :: gq_ws cI cZ adC C9 0 mtC) ++ gq_ws cI cZ adR R9 0 mtR) 2100 [(4, .int x4), (3, .ref oa), (2, .ref (adR 0)), (1, .ref (adC 0)), (0, .ref b)] [] (kc + 1) (ks + 6)) : gc_W p l e room_1 s m args below meth c D A 7 Q ((gl_out cL oa ov :: gq_ws cI cZ adC C 0 mtC) ++ gq_ws cI cZ adR R 0 mtR) 492 [(4, .int x4), (3, .ref oa), (2, .ref (adR 0)), (1, .ref (adC 0)), (0, .ref b)] [] kc ks := by
  unfold fl_4 at h
  refine gc_aload_n hC 3 rfl rfl dL_law_492 ?_
  refine gc_aload_n hC 4 rfl rfl dL_law_493 ?_
  refine gl_iload hC 0 rfl dL_law_494 ?_
  refine gc_iconst (v := 1) hC (by decide) dL_law_496 ?_
  refine gl_iadd hC dL_law_497 ?_
  refine gl_sld hC hX hbl hbA hx1 dL_law_498 ?_
  refine gc_aload_n hC 4 rfl rfl dL_law_499 ?_
  refine gl_iload hC 0 rfl dL_law_500 ?_
  refine gc_iconst (v := 2) hC (by decide) dL_law_502 ?_
  refine gl_iadd hC dL_law_503 ?_
  refine gl_sld hC hX hbl hbA hx2 dL_law_504 ?_
  refine gc_aload_n hC 4 rfl rfl dL_law_505 ?_
  refine gl_iload hC 0 rfl dL_law_506 ?_
  refine gc_iconst (v := 3) hC (by decide) dL_law_508 ?_
  refine gl_iadd hC dL_law_509 ?_
  refine gl_sld hC hX hbl hbA hx3 dL_law_510 ?_
  refine gc_aload_n hC 1 rfl rfl dL_law_511 ?_
  obtain ⟨k1, o4, C2, e3, h⟩ := gq_h_i h
  refine gl_comm ?_
  refine gl_H (as := [.ref (adC 0), .int (xs (x4 + 1).toNatClampNeg), .int (xs (x4 + 2).toNatClampNeg), .int (xs (x4 + 3).toNatClampNeg), .ref oa]) hC hKL hZ hN (h_L_buyer hl9 N _ _ _ _ _ _ _ _ _ e3) (by show oa :: _ = oa :: _; rw [gq_ws_fst 0 mtC]) mH_L_buyer wm_L_126 rfl rfl (Nat.le_of_ble_eq_true rfl) ⟨by decide, by decide⟩ hkR dL_law_512 ?_
  refine gl_comm ?_
  refine gl_istore (L2 := [(5, .int k1), (4, .int x4), (3, .ref oa), (2, .ref (adR 0)), (1, .ref (adC 0)), (0, .ref b)]) hC (by decide) rfl dL_law_515 ?_
  refine gc_aload_n hC 3 rfl rfl dL_law_517 ?_
  refine gc_aload_n hC 5 rfl rfl dL_law_518 ?_
  refine gl_iload hC 1 rfl dL_law_519 ?_
  refine gc_iconst (v := 1) hC (by decide) dL_law_521 ?_
  refine gl_iadd hC dL_law_522 ?_
  refine gl_sld hC hX hbl hbA hx1 dL_law_523 ?_
  refine gc_aload_n hC 5 rfl rfl dL_law_524 ?_
  refine gl_iload hC 1 rfl dL_law_525 ?_
  refine gc_iconst (v := 2) hC (by decide) dL_law_527 ?_
  refine gl_iadd hC dL_law_528 ?_
  refine gl_sld hC hX hbl hbA hx2 dL_law_529 ?_
  refine gc_aload_n hC 5 rfl rfl dL_law_530 ?_
  refine gl_iload hC 1 rfl dL_law_531 ?_
  refine gc_iconst (v := 3) hC (by decide) dL_law_533 ?_
  refine gl_iadd hC dL_law_534 ?_
  refine gl_sld hC hX hbl hbA hx3 dL_law_535 ?_
  obtain ⟨v5, M6, e7, h⟩ := gq_b_i h
  refine gl_Vi (q := 0) (as := [.int (xs (x4 + 1).toNatClampNeg), .int (xs (x4 + 2).toNatClampNeg), .int (xs (x4 + 3).toNatClampNeg)]) hC (t_X10_buyer N _ _ _ _ _ _ e7) mV_X10_buyer wm_L_128 obR_0 rfl rfl (Nat.le_of_ble_eq_true rfl) ⟨by decide, by decide⟩ hkR dL_law_536 ?_
  refine gl_istore (L2 := [(6, .int v5), (5, .int k1), (4, .int x4), (3, .ref oa), (2, .ref (adR 0)), (1, .ref (adC 0)), (0, .ref b)]) hC (by decide) rfl dL_law_539 ?_
  refine gc_aload_n hC 4 rfl rfl dL_law_541 ?_
  obtain ⟨v8, M9, e10, h⟩ := gq_b_i h
  refine gl_Vi (q := 0) (as := []) hC (t_X10_thrown N  _ _ _ e10) mV_X10_thrown wm_L_111 obR_0 rfl rfl (Nat.le_of_ble_eq_true rfl) ⟨by decide, by decide⟩ hkR dL_law_542 ?_
  refine gl_iload hC 1 rfl dL_law_545 ?_
  refine gl_icmp_eq (tgt := 552) hC (by decide) dL_law_547 (fun c11 => ?_) (fun c11 => ?_)
  · replace h := gq_t c11 h
    refine gl_iload hC 1 rfl dL_law_552 ?_
    refine gl_if_ne (tgt := 569) hC (by decide) dL_law_554 (fun c12 => ?_) (fun c12 => ?_)
    · replace h := gq_f c12 h
      refine gl_goto (tgt := 2100) hC (by decide) dL_law_569 ?_
      cases h
      refine gl_weak [2, 3, 4, 5, 6] rfl ?_
      exact hk
    · replace h := gq_t c12 h
      refine gc_aload_n hC 3 rfl rfl dL_law_557 ?_
      refine gc_iconst (v := 0) hC (by decide) dL_law_558 ?_
      refine gl_lald hC hKL dL_law_559 ?_
      refine gc_cast (ws2 := ((gl_out cL oa o4 :: gq_ws cI cZ adC C2 0 mtC) ++ gq_ws cI cZ adR M9 0 mtR)) ?_ rfl rfl rfl rfl rfl rfl
      refine gl_iload hC 0 rfl dL_law_560 ?_
      refine gl_i2l hC dL_law_562 ?_
      refine gl_lcmp hC dL_law_563 ?_
      refine gl_if_eq (tgt := 569) hC (by decide) dL_law_564 (fun c13 => ?_) (fun c13 => ?_)
      · replace h := gq_t c13 h
        refine gl_goto (tgt := 2100) hC (by decide) dL_law_569 ?_
        cases h
        refine gl_weak [2, 3, 4, 5, 6] rfl ?_
        exact hk
      · replace h := gq_f c13 h
        refine gc_iconst (v := 0) hC (by decide) dL_law_567 ?_
        cases h
  · replace h := gq_f c11 h
    refine gc_iconst (v := 0) hC (by decide) dL_law_550 ?_
    cases h
def fl_5 (N : Nat) (p1 : Int32) (p2 : Int32) (p3 : Int32) (p4 : Int32) (p5 : Int32) (p6 : Int32) (C R : gq_M) (ov : Int64) : Option (gq_M × gq_M × Int64) := gq_b (f_X9_draw N p1 C) fun v1 M2 => gq_b (f_X10_draw N p1 R) fun v4 M5 => if v1 = v4 then (some (M2, M5, ov)) else (none)
set_option maxHeartbeats 4000000 in
set_option maxRecDepth 20000 in
theorem q_law_5 (hl9 : l.stackTraces = false) (hC : gc_C p s m args meth c D A cI cZ RL cL_law 7) (hKL : gl_K D cI cZ cL s) (hZ : gq_Z A s) (hN : gl_N s) (hX : va_X b Ln xs s s.heap) (hbl : b < s.heap.size) (hbA : ¬ A b) (hx1 : vp_in (x4 + 1) Ln) (hx2 : vp_in (x4 + 2) Ln) (hx3 : vp_in (x4 + 3) Ln) (hx4 : vp_in (x4 + 4) Ln) (hx5 : vp_in (x4 + 5) Ln) (hx6 : vp_in (x4 + 6) Ln) (hkR : kc + 1 ≤ room_1.cells ∧ ks + 6 ≤ room_1.slots) (N : Nat) {C R C9 R9 : gq_M} {ov ov9 : Int64} (h : fl_5 N (xs (x4 + 1).toNatClampNeg) (xs (x4 + 2).toNatClampNeg) (xs (x4 + 3).toNatClampNeg) (xs (x4 + 4).toNatClampNeg) (xs (x4 + 5).toNatClampNeg) (xs (x4 + 6).toNatClampNeg) C R ov = some (C9, R9, ov9)) (hk : gc_W p l e room_1 s m args below meth c D A 7 Q ((gl_out cL oa ov9 :: gq_ws cI cZ adC C9 0 mtC) ++ gq_ws cI cZ adR R9 0 mtR) 2100 [(4, .int x4), (3, .ref oa), (2, .ref (adR 0)), (1, .ref (adC 0)), (0, .ref b)] [] (kc + 1) (ks + 6)) : gc_W p l e room_1 s m args below meth c D A 7 Q ((gl_out cL oa ov :: gq_ws cI cZ adC C 0 mtC) ++ gq_ws cI cZ adR R 0 mtR) 572 [(4, .int x4), (3, .ref oa), (2, .ref (adR 0)), (1, .ref (adC 0)), (0, .ref b)] [] kc ks := by
  unfold fl_5 at h
  refine gc_aload_n hC 3 rfl rfl dL_law_572 ?_
  refine gc_aload_n hC 4 rfl rfl dL_law_573 ?_
  refine gl_iload hC 0 rfl dL_law_574 ?_
  refine gc_iconst (v := 1) hC (by decide) dL_law_576 ?_
  refine gl_iadd hC dL_law_577 ?_
  refine gl_sld hC hX hbl hbA hx1 dL_law_578 ?_
  obtain ⟨v1, M2, e3, h⟩ := gq_b_i h
  refine gl_comm ?_
  refine gc_cast (ws2 := ((gq_ws cI cZ adR R 0 mtR ++ [gl_out cL oa ov]) ++ gq_ws cI cZ adC C 0 mtC)) ?_ rfl rfl rfl (by simp) rfl rfl
  refine gl_Vi (q := 0) (as := [.int (xs (x4 + 1).toNatClampNeg)]) hC (t_X9_draw N _ _ _ _ e3) mV_X9_draw wm_L_129 obC_0 rfl rfl (Nat.le_of_ble_eq_true rfl) ⟨by decide, by decide⟩ ⟨Nat.le_of_succ_le hkR.1, Nat.le_trans (Nat.le_add_right _ 6) hkR.2⟩ dL_law_579 ?_
  refine gc_cast (ws2 := (gq_ws cI cZ adR R 0 mtR ++ (gl_out cL oa ov :: gq_ws cI cZ adC M2 0 mtC))) ?_ rfl rfl rfl (by simp) rfl rfl
  refine gl_comm ?_
  refine gc_aload_n hC 2 rfl rfl dL_law_582 ?_
  refine gc_aload_n hC 4 rfl rfl dL_law_583 ?_
  refine gl_iload hC 0 rfl dL_law_584 ?_
  refine gc_iconst (v := 1) hC (by decide) dL_law_586 ?_
  refine gl_iadd hC dL_law_587 ?_
  refine gl_sld hC hX hbl hbA hx1 dL_law_588 ?_
  obtain ⟨v4, M5, e6, h⟩ := gq_b_i h
  refine gl_Vi (q := 0) (as := [.int (xs (x4 + 1).toNatClampNeg)]) hC (t_X10_draw N _ _ _ _ e6) mV_X10_draw wm_L_132 obR_0 rfl rfl (Nat.le_of_ble_eq_true rfl) ⟨by decide, by decide⟩ ⟨Nat.le_of_succ_le hkR.1, Nat.le_trans (Nat.le_add_right _ 6) hkR.2⟩ dL_law_589 ?_
  refine gl_icmp_eq (tgt := 2100) hC (by decide) dL_law_592 (fun c7 => ?_) (fun c7 => ?_)
  · replace h := gq_t c7 h
    cases h
    refine gl_weak [0, 1, 2, 3, 4] rfl ?_
    refine gl_widen (kc2 := kc + 1) (ks2 := ks + 6) (by omega) (by omega) ?_
    exact hk
  · replace h := gq_f c7 h
    refine gc_iconst (v := 0) hC (by decide) dL_law_595 ?_
    cases h
def fl_6 (N : Nat) (p1 : Int32) (p2 : Int32) (p3 : Int32) (p4 : Int32) (p5 : Int32) (p6 : Int32) (C R : gq_M) (ov : Int64) : Option (gq_M × gq_M × Int64) := if p2 = 0 then (gq_h (fh_L_power N p1 0 C ov) fun k2 o5 C3 => if p2 = 0 then (gq_b (f_X10_power N p1 0 R) fun v7 M8 => gq_b (f_X10_thrown N  M8) fun v10 M11 => if v10 = k2 then (if k2 = 0 then (if v7 = 0 then (if (lg_cmp o5 0) = 0 then (some (C3, M11, o5)) else (none)) else (if (lg_cmp o5 1) = 0 then (some (C3, M11, o5)) else (none))) else (some (C3, M11, o5))) else (none)) else (gq_b (f_X10_power N p1 1 R) fun v18 M19 => gq_b (f_X10_thrown N  M19) fun v21 M22 => if v21 = k2 then (if k2 = 0 then (if v18 = 0 then (if (lg_cmp o5 0) = 0 then (some (C3, M22, o5)) else (none)) else (if (lg_cmp o5 1) = 0 then (some (C3, M22, o5)) else (none))) else (some (C3, M22, o5))) else (none))) else (gq_h (fh_L_power N p1 1 C ov) fun k29 o32 C30 => if p2 = 0 then (gq_b (f_X10_power N p1 0 R) fun v34 M35 => gq_b (f_X10_thrown N  M35) fun v37 M38 => if v37 = k29 then (if k29 = 0 then (if v34 = 0 then (if (lg_cmp o32 0) = 0 then (some (C30, M38, o32)) else (none)) else (if (lg_cmp o32 1) = 0 then (some (C30, M38, o32)) else (none))) else (some (C30, M38, o32))) else (none)) else (gq_b (f_X10_power N p1 1 R) fun v45 M46 => gq_b (f_X10_thrown N  M46) fun v48 M49 => if v48 = k29 then (if k29 = 0 then (if v45 = 0 then (if (lg_cmp o32 0) = 0 then (some (C30, M49, o32)) else (none)) else (if (lg_cmp o32 1) = 0 then (some (C30, M49, o32)) else (none))) else (some (C30, M49, o32))) else (none)))
set_option maxHeartbeats 4000000 in
set_option maxRecDepth 20000 in
theorem q_law_6 (hl9 : l.stackTraces = false) (hC : gc_C p s m args meth c D A cI cZ RL cL_law 7) (hKL : gl_K D cI cZ cL s) (hZ : gq_Z A s) (hN : gl_N s) (hX : va_X b Ln xs s s.heap) (hbl : b < s.heap.size) (hbA : ¬ A b) (hx1 : vp_in (x4 + 1) Ln) (hx2 : vp_in (x4 + 2) Ln) (hx3 : vp_in (x4 + 3) Ln) (hx4 : vp_in (x4 + 4) Ln) (hx5 : vp_in (x4 + 5) Ln) (hx6 : vp_in (x4 + 6) Ln) (hkR : kc + 1 ≤ room_1.cells ∧ ks + 6 ≤ room_1.slots) (N : Nat) {C R C9 R9 : gq_M} {ov ov9 : Int64} (h : fl_6 N (xs (x4 + 1).toNatClampNeg) (xs (x4 + 2).toNatClampNeg) (xs (x4 + 3).toNatClampNeg) (xs (x4 + 4).toNatClampNeg) (xs (x4 + 5).toNatClampNeg) (xs (x4 + 6).toNatClampNeg) C R ov = some (C9, R9, ov9)) (hk : gc_W p l e room_1 s m args below meth c D A 7 Q ((gl_out cL oa ov9 :: gq_ws cI cZ adC C9 0 mtC) ++ gq_ws cI cZ adR R9 0 mtR) 2100 [(4, .int x4), (3, .ref oa), (2, .ref (adR 0)), (1, .ref (adC 0)), (0, .ref b)] [] (kc + 1) (ks + 6)) : gc_W p l e room_1 s m args below meth c D A 7 Q ((gl_out cL oa ov :: gq_ws cI cZ adC C 0 mtC) ++ gq_ws cI cZ adR R 0 mtR) 597 [(4, .int x4), (3, .ref oa), (2, .ref (adR 0)), (1, .ref (adC 0)), (0, .ref b)] [] kc ks := by
  unfold fl_6 at h
  refine gc_aload_n hC 3 rfl rfl dL_law_597 ?_
  refine gc_aload_n hC 4 rfl rfl dL_law_598 ?_
  refine gl_iload hC 0 rfl dL_law_599 ?_
  refine gc_iconst (v := 1) hC (by decide) dL_law_601 ?_
  refine gl_iadd hC dL_law_602 ?_
  refine gl_sld hC hX hbl hbA hx1 dL_law_603 ?_
  refine gc_aload_n hC 4 rfl rfl dL_law_604 ?_
  refine gl_iload hC 0 rfl dL_law_605 ?_
  refine gc_iconst (v := 2) hC (by decide) dL_law_607 ?_
  refine gl_iadd hC dL_law_608 ?_
  refine gl_sld hC hX hbl hbA hx2 dL_law_609 ?_
  refine gl_if_eq (tgt := 617) hC (by decide) dL_law_610 (fun c1 => ?_) (fun c1 => ?_)
  · replace h := gq_t c1 h
    refine gc_iconst (v := 0) hC (by decide) dL_law_617 ?_
    refine gc_aload_n hC 1 rfl rfl dL_law_618 ?_
    obtain ⟨k2, o5, C3, e4, h⟩ := gq_h_i h
    refine gl_comm ?_
    refine gl_H (as := [.ref (adC 0), .int (xs (x4 + 1).toNatClampNeg), .int 0, .ref oa]) hC hKL hZ hN (h_L_power hl9 N _ _ _ _ _ _ _ _ e4) (by show oa :: _ = oa :: _; rw [gq_ws_fst 0 mtC]) mH_L_power wm_L_133 rfl rfl (Nat.le_of_ble_eq_true rfl) ⟨by decide, by decide⟩ hkR dL_law_619 ?_
    refine gl_comm ?_
    refine gl_istore (L2 := [(5, .int k2), (4, .int x4), (3, .ref oa), (2, .ref (adR 0)), (1, .ref (adC 0)), (0, .ref b)]) hC (by decide) rfl dL_law_622 ?_
    refine gc_aload_n hC 3 rfl rfl dL_law_624 ?_
    refine gc_aload_n hC 5 rfl rfl dL_law_625 ?_
    refine gl_iload hC 1 rfl dL_law_626 ?_
    refine gc_iconst (v := 1) hC (by decide) dL_law_628 ?_
    refine gl_iadd hC dL_law_629 ?_
    refine gl_sld hC hX hbl hbA hx1 dL_law_630 ?_
    refine gc_aload_n hC 5 rfl rfl dL_law_631 ?_
    refine gl_iload hC 1 rfl dL_law_632 ?_
    refine gc_iconst (v := 2) hC (by decide) dL_law_634 ?_
    refine gl_iadd hC dL_law_635 ?_
    refine gl_sld hC hX hbl hbA hx2 dL_law_636 ?_
    refine gl_if_eq (tgt := 644) hC (by decide) dL_law_637 (fun c6 => ?_) (fun c6 => ?_)
    · replace h := gq_t c6 h
      refine gc_iconst (v := 0) hC (by decide) dL_law_644 ?_
      obtain ⟨v7, M8, e9, h⟩ := gq_b_i h
      refine gl_Vi (q := 0) (as := [.int (xs (x4 + 1).toNatClampNeg), .int 0]) hC (t_X10_power N _ _ _ _ _ e9) mV_X10_power wm_L_136 obR_0 rfl rfl (Nat.le_of_ble_eq_true rfl) ⟨by decide, by decide⟩ hkR dL_law_645 ?_
      refine gl_istore (L2 := [(6, .int v7), (5, .int k2), (4, .int x4), (3, .ref oa), (2, .ref (adR 0)), (1, .ref (adC 0)), (0, .ref b)]) hC (by decide) rfl dL_law_648 ?_
      refine gc_aload_n hC 4 rfl rfl dL_law_650 ?_
      obtain ⟨v10, M11, e12, h⟩ := gq_b_i h
      refine gl_Vi (q := 0) (as := []) hC (t_X10_thrown N  _ _ _ e12) mV_X10_thrown wm_L_111 obR_0 rfl rfl (Nat.le_of_ble_eq_true rfl) ⟨by decide, by decide⟩ hkR dL_law_651 ?_
      refine gl_iload hC 1 rfl dL_law_654 ?_
      refine gl_icmp_eq (tgt := 661) hC (by decide) dL_law_656 (fun c13 => ?_) (fun c13 => ?_)
      · replace h := gq_t c13 h
        refine gl_iload hC 1 rfl dL_law_661 ?_
        refine gl_if_ne (tgt := 685) hC (by decide) dL_law_663 (fun c14 => ?_) (fun c14 => ?_)
        · replace h := gq_f c14 h
          refine gl_goto (tgt := 2100) hC (by decide) dL_law_685 ?_
          cases h
          refine gl_weak [2, 3, 4, 5, 6] rfl ?_
          exact hk
        · replace h := gq_t c14 h
          refine gc_aload_n hC 3 rfl rfl dL_law_666 ?_
          refine gc_iconst (v := 0) hC (by decide) dL_law_667 ?_
          refine gl_lald hC hKL dL_law_668 ?_
          refine gc_cast (ws2 := ((gl_out cL oa o5 :: gq_ws cI cZ adC C3 0 mtC) ++ gq_ws cI cZ adR M11 0 mtR)) ?_ rfl rfl rfl rfl rfl rfl
          refine gl_iload hC 0 rfl dL_law_669 ?_
          refine gl_if_eq (tgt := 678) hC (by decide) dL_law_671 (fun c15 => ?_) (fun c15 => ?_)
          · replace h := gq_t c15 h
            refine gl_lconst (v := 0) hC (by decide) dL_law_678 ?_
            refine gl_lcmp hC dL_law_679 ?_
            refine gl_if_eq (tgt := 685) hC (by decide) dL_law_680 (fun c16 => ?_) (fun c16 => ?_)
            · replace h := gq_t c16 h
              refine gl_goto (tgt := 2100) hC (by decide) dL_law_685 ?_
              cases h
              refine gl_weak [2, 3, 4, 5, 6] rfl ?_
              exact hk
            · replace h := gq_f c16 h
              refine gc_iconst (v := 0) hC (by decide) dL_law_683 ?_
              cases h
          · replace h := gq_f c15 h
            refine gl_lconst (v := 1) hC (by decide) dL_law_674 ?_
            refine gl_goto (tgt := 679) hC (by decide) dL_law_675 ?_
            refine gl_lcmp hC dL_law_679 ?_
            refine gl_if_eq (tgt := 685) hC (by decide) dL_law_680 (fun c17 => ?_) (fun c17 => ?_)
            · replace h := gq_t c17 h
              refine gl_goto (tgt := 2100) hC (by decide) dL_law_685 ?_
              cases h
              refine gl_weak [2, 3, 4, 5, 6] rfl ?_
              exact hk
            · replace h := gq_f c17 h
              refine gc_iconst (v := 0) hC (by decide) dL_law_683 ?_
              cases h
      · replace h := gq_f c13 h
        refine gc_iconst (v := 0) hC (by decide) dL_law_659 ?_
        cases h
    · replace h := gq_f c6 h
      refine gc_iconst (v := 1) hC (by decide) dL_law_640 ?_
      refine gl_goto (tgt := 645) hC (by decide) dL_law_641 ?_
      obtain ⟨v18, M19, e20, h⟩ := gq_b_i h
      refine gl_Vi (q := 0) (as := [.int (xs (x4 + 1).toNatClampNeg), .int 1]) hC (t_X10_power N _ _ _ _ _ e20) mV_X10_power wm_L_136 obR_0 rfl rfl (Nat.le_of_ble_eq_true rfl) ⟨by decide, by decide⟩ hkR dL_law_645 ?_
      refine gl_istore (L2 := [(6, .int v18), (5, .int k2), (4, .int x4), (3, .ref oa), (2, .ref (adR 0)), (1, .ref (adC 0)), (0, .ref b)]) hC (by decide) rfl dL_law_648 ?_
      refine gc_aload_n hC 4 rfl rfl dL_law_650 ?_
      obtain ⟨v21, M22, e23, h⟩ := gq_b_i h
      refine gl_Vi (q := 0) (as := []) hC (t_X10_thrown N  _ _ _ e23) mV_X10_thrown wm_L_111 obR_0 rfl rfl (Nat.le_of_ble_eq_true rfl) ⟨by decide, by decide⟩ hkR dL_law_651 ?_
      refine gl_iload hC 1 rfl dL_law_654 ?_
      refine gl_icmp_eq (tgt := 661) hC (by decide) dL_law_656 (fun c24 => ?_) (fun c24 => ?_)
      · replace h := gq_t c24 h
        refine gl_iload hC 1 rfl dL_law_661 ?_
        refine gl_if_ne (tgt := 685) hC (by decide) dL_law_663 (fun c25 => ?_) (fun c25 => ?_)
        · replace h := gq_f c25 h
          refine gl_goto (tgt := 2100) hC (by decide) dL_law_685 ?_
          cases h
          refine gl_weak [2, 3, 4, 5, 6] rfl ?_
          exact hk
        · replace h := gq_t c25 h
          refine gc_aload_n hC 3 rfl rfl dL_law_666 ?_
          refine gc_iconst (v := 0) hC (by decide) dL_law_667 ?_
          refine gl_lald hC hKL dL_law_668 ?_
          refine gc_cast (ws2 := ((gl_out cL oa o5 :: gq_ws cI cZ adC C3 0 mtC) ++ gq_ws cI cZ adR M22 0 mtR)) ?_ rfl rfl rfl rfl rfl rfl
          refine gl_iload hC 0 rfl dL_law_669 ?_
          refine gl_if_eq (tgt := 678) hC (by decide) dL_law_671 (fun c26 => ?_) (fun c26 => ?_)
          · replace h := gq_t c26 h
            refine gl_lconst (v := 0) hC (by decide) dL_law_678 ?_
            refine gl_lcmp hC dL_law_679 ?_
            refine gl_if_eq (tgt := 685) hC (by decide) dL_law_680 (fun c27 => ?_) (fun c27 => ?_)
            · replace h := gq_t c27 h
              refine gl_goto (tgt := 2100) hC (by decide) dL_law_685 ?_
              cases h
              refine gl_weak [2, 3, 4, 5, 6] rfl ?_
              exact hk
            · replace h := gq_f c27 h
              refine gc_iconst (v := 0) hC (by decide) dL_law_683 ?_
              cases h
          · replace h := gq_f c26 h
            refine gl_lconst (v := 1) hC (by decide) dL_law_674 ?_
            refine gl_goto (tgt := 679) hC (by decide) dL_law_675 ?_
            refine gl_lcmp hC dL_law_679 ?_
            refine gl_if_eq (tgt := 685) hC (by decide) dL_law_680 (fun c28 => ?_) (fun c28 => ?_)
            · replace h := gq_t c28 h
              refine gl_goto (tgt := 2100) hC (by decide) dL_law_685 ?_
              cases h
              refine gl_weak [2, 3, 4, 5, 6] rfl ?_
              exact hk
            · replace h := gq_f c28 h
              refine gc_iconst (v := 0) hC (by decide) dL_law_683 ?_
              cases h
      · replace h := gq_f c24 h
        refine gc_iconst (v := 0) hC (by decide) dL_law_659 ?_
        cases h
  · replace h := gq_f c1 h
    refine gc_iconst (v := 1) hC (by decide) dL_law_613 ?_
    refine gl_goto (tgt := 618) hC (by decide) dL_law_614 ?_
    refine gc_aload_n hC 1 rfl rfl dL_law_618 ?_
    obtain ⟨k29, o32, C30, e31, h⟩ := gq_h_i h
    refine gl_comm ?_
    refine gl_H (as := [.ref (adC 0), .int (xs (x4 + 1).toNatClampNeg), .int 1, .ref oa]) hC hKL hZ hN (h_L_power hl9 N _ _ _ _ _ _ _ _ e31) (by show oa :: _ = oa :: _; rw [gq_ws_fst 0 mtC]) mH_L_power wm_L_133 rfl rfl (Nat.le_of_ble_eq_true rfl) ⟨by decide, by decide⟩ hkR dL_law_619 ?_
    refine gl_comm ?_
    refine gl_istore (L2 := [(5, .int k29), (4, .int x4), (3, .ref oa), (2, .ref (adR 0)), (1, .ref (adC 0)), (0, .ref b)]) hC (by decide) rfl dL_law_622 ?_
    refine gc_aload_n hC 3 rfl rfl dL_law_624 ?_
    refine gc_aload_n hC 5 rfl rfl dL_law_625 ?_
    refine gl_iload hC 1 rfl dL_law_626 ?_
    refine gc_iconst (v := 1) hC (by decide) dL_law_628 ?_
    refine gl_iadd hC dL_law_629 ?_
    refine gl_sld hC hX hbl hbA hx1 dL_law_630 ?_
    refine gc_aload_n hC 5 rfl rfl dL_law_631 ?_
    refine gl_iload hC 1 rfl dL_law_632 ?_
    refine gc_iconst (v := 2) hC (by decide) dL_law_634 ?_
    refine gl_iadd hC dL_law_635 ?_
    refine gl_sld hC hX hbl hbA hx2 dL_law_636 ?_
    refine gl_if_eq (tgt := 644) hC (by decide) dL_law_637 (fun c33 => ?_) (fun c33 => ?_)
    · replace h := gq_t c33 h
      refine gc_iconst (v := 0) hC (by decide) dL_law_644 ?_
      obtain ⟨v34, M35, e36, h⟩ := gq_b_i h
      refine gl_Vi (q := 0) (as := [.int (xs (x4 + 1).toNatClampNeg), .int 0]) hC (t_X10_power N _ _ _ _ _ e36) mV_X10_power wm_L_136 obR_0 rfl rfl (Nat.le_of_ble_eq_true rfl) ⟨by decide, by decide⟩ hkR dL_law_645 ?_
      refine gl_istore (L2 := [(6, .int v34), (5, .int k29), (4, .int x4), (3, .ref oa), (2, .ref (adR 0)), (1, .ref (adC 0)), (0, .ref b)]) hC (by decide) rfl dL_law_648 ?_
      refine gc_aload_n hC 4 rfl rfl dL_law_650 ?_
      obtain ⟨v37, M38, e39, h⟩ := gq_b_i h
      refine gl_Vi (q := 0) (as := []) hC (t_X10_thrown N  _ _ _ e39) mV_X10_thrown wm_L_111 obR_0 rfl rfl (Nat.le_of_ble_eq_true rfl) ⟨by decide, by decide⟩ hkR dL_law_651 ?_
      refine gl_iload hC 1 rfl dL_law_654 ?_
      refine gl_icmp_eq (tgt := 661) hC (by decide) dL_law_656 (fun c40 => ?_) (fun c40 => ?_)
      · replace h := gq_t c40 h
        refine gl_iload hC 1 rfl dL_law_661 ?_
        refine gl_if_ne (tgt := 685) hC (by decide) dL_law_663 (fun c41 => ?_) (fun c41 => ?_)
        · replace h := gq_f c41 h
          refine gl_goto (tgt := 2100) hC (by decide) dL_law_685 ?_
          cases h
          refine gl_weak [2, 3, 4, 5, 6] rfl ?_
          exact hk
        · replace h := gq_t c41 h
          refine gc_aload_n hC 3 rfl rfl dL_law_666 ?_
          refine gc_iconst (v := 0) hC (by decide) dL_law_667 ?_
          refine gl_lald hC hKL dL_law_668 ?_
          refine gc_cast (ws2 := ((gl_out cL oa o32 :: gq_ws cI cZ adC C30 0 mtC) ++ gq_ws cI cZ adR M38 0 mtR)) ?_ rfl rfl rfl rfl rfl rfl
          refine gl_iload hC 0 rfl dL_law_669 ?_
          refine gl_if_eq (tgt := 678) hC (by decide) dL_law_671 (fun c42 => ?_) (fun c42 => ?_)
          · replace h := gq_t c42 h
            refine gl_lconst (v := 0) hC (by decide) dL_law_678 ?_
            refine gl_lcmp hC dL_law_679 ?_
            refine gl_if_eq (tgt := 685) hC (by decide) dL_law_680 (fun c43 => ?_) (fun c43 => ?_)
            · replace h := gq_t c43 h
              refine gl_goto (tgt := 2100) hC (by decide) dL_law_685 ?_
              cases h
              refine gl_weak [2, 3, 4, 5, 6] rfl ?_
              exact hk
            · replace h := gq_f c43 h
              refine gc_iconst (v := 0) hC (by decide) dL_law_683 ?_
              cases h
          · replace h := gq_f c42 h
            refine gl_lconst (v := 1) hC (by decide) dL_law_674 ?_
            refine gl_goto (tgt := 679) hC (by decide) dL_law_675 ?_
            refine gl_lcmp hC dL_law_679 ?_
            refine gl_if_eq (tgt := 685) hC (by decide) dL_law_680 (fun c44 => ?_) (fun c44 => ?_)
            · replace h := gq_t c44 h
              refine gl_goto (tgt := 2100) hC (by decide) dL_law_685 ?_
              cases h
              refine gl_weak [2, 3, 4, 5, 6] rfl ?_
              exact hk
            · replace h := gq_f c44 h
              refine gc_iconst (v := 0) hC (by decide) dL_law_683 ?_
              cases h
      · replace h := gq_f c40 h
        refine gc_iconst (v := 0) hC (by decide) dL_law_659 ?_
        cases h
    · replace h := gq_f c33 h
      refine gc_iconst (v := 1) hC (by decide) dL_law_640 ?_
      refine gl_goto (tgt := 645) hC (by decide) dL_law_641 ?_
      obtain ⟨v45, M46, e47, h⟩ := gq_b_i h
      refine gl_Vi (q := 0) (as := [.int (xs (x4 + 1).toNatClampNeg), .int 1]) hC (t_X10_power N _ _ _ _ _ e47) mV_X10_power wm_L_136 obR_0 rfl rfl (Nat.le_of_ble_eq_true rfl) ⟨by decide, by decide⟩ hkR dL_law_645 ?_
      refine gl_istore (L2 := [(6, .int v45), (5, .int k29), (4, .int x4), (3, .ref oa), (2, .ref (adR 0)), (1, .ref (adC 0)), (0, .ref b)]) hC (by decide) rfl dL_law_648 ?_
      refine gc_aload_n hC 4 rfl rfl dL_law_650 ?_
      obtain ⟨v48, M49, e50, h⟩ := gq_b_i h
      refine gl_Vi (q := 0) (as := []) hC (t_X10_thrown N  _ _ _ e50) mV_X10_thrown wm_L_111 obR_0 rfl rfl (Nat.le_of_ble_eq_true rfl) ⟨by decide, by decide⟩ hkR dL_law_651 ?_
      refine gl_iload hC 1 rfl dL_law_654 ?_
      refine gl_icmp_eq (tgt := 661) hC (by decide) dL_law_656 (fun c51 => ?_) (fun c51 => ?_)
      · replace h := gq_t c51 h
        refine gl_iload hC 1 rfl dL_law_661 ?_
        refine gl_if_ne (tgt := 685) hC (by decide) dL_law_663 (fun c52 => ?_) (fun c52 => ?_)
        · replace h := gq_f c52 h
          refine gl_goto (tgt := 2100) hC (by decide) dL_law_685 ?_
          cases h
          refine gl_weak [2, 3, 4, 5, 6] rfl ?_
          exact hk
        · replace h := gq_t c52 h
          refine gc_aload_n hC 3 rfl rfl dL_law_666 ?_
          refine gc_iconst (v := 0) hC (by decide) dL_law_667 ?_
          refine gl_lald hC hKL dL_law_668 ?_
          refine gc_cast (ws2 := ((gl_out cL oa o32 :: gq_ws cI cZ adC C30 0 mtC) ++ gq_ws cI cZ adR M49 0 mtR)) ?_ rfl rfl rfl rfl rfl rfl
          refine gl_iload hC 0 rfl dL_law_669 ?_
          refine gl_if_eq (tgt := 678) hC (by decide) dL_law_671 (fun c53 => ?_) (fun c53 => ?_)
          · replace h := gq_t c53 h
            refine gl_lconst (v := 0) hC (by decide) dL_law_678 ?_
            refine gl_lcmp hC dL_law_679 ?_
            refine gl_if_eq (tgt := 685) hC (by decide) dL_law_680 (fun c54 => ?_) (fun c54 => ?_)
            · replace h := gq_t c54 h
              refine gl_goto (tgt := 2100) hC (by decide) dL_law_685 ?_
              cases h
              refine gl_weak [2, 3, 4, 5, 6] rfl ?_
              exact hk
            · replace h := gq_f c54 h
              refine gc_iconst (v := 0) hC (by decide) dL_law_683 ?_
              cases h
          · replace h := gq_f c53 h
            refine gl_lconst (v := 1) hC (by decide) dL_law_674 ?_
            refine gl_goto (tgt := 679) hC (by decide) dL_law_675 ?_
            refine gl_lcmp hC dL_law_679 ?_
            refine gl_if_eq (tgt := 685) hC (by decide) dL_law_680 (fun c55 => ?_) (fun c55 => ?_)
            · replace h := gq_t c55 h
              refine gl_goto (tgt := 2100) hC (by decide) dL_law_685 ?_
              cases h
              refine gl_weak [2, 3, 4, 5, 6] rfl ?_
              exact hk
            · replace h := gq_f c55 h
              refine gc_iconst (v := 0) hC (by decide) dL_law_683 ?_
              cases h
      · replace h := gq_f c51 h
        refine gc_iconst (v := 0) hC (by decide) dL_law_659 ?_
        cases h
def fl_7 (N : Nat) (p1 : Int32) (p2 : Int32) (p3 : Int32) (p4 : Int32) (p5 : Int32) (p6 : Int32) (C R : gq_M) (ov : Int64) : Option (gq_M × gq_M × Int64) := if p2 = 0 then (gq_h (fh_L_line N p1 0 C ov) fun k2 o5 C3 => if p2 = 0 then (gq_b (f_X10_line N p1 0 R) fun v7 M8 => gq_b (f_X10_thrown N  M8) fun v10 M11 => if v10 = k2 then (if k2 = 0 then (if v7 = 0 then (if (lg_cmp o5 0) = 0 then (some (C3, M11, o5)) else (none)) else (if (lg_cmp o5 1) = 0 then (some (C3, M11, o5)) else (none))) else (some (C3, M11, o5))) else (none)) else (gq_b (f_X10_line N p1 1 R) fun v18 M19 => gq_b (f_X10_thrown N  M19) fun v21 M22 => if v21 = k2 then (if k2 = 0 then (if v18 = 0 then (if (lg_cmp o5 0) = 0 then (some (C3, M22, o5)) else (none)) else (if (lg_cmp o5 1) = 0 then (some (C3, M22, o5)) else (none))) else (some (C3, M22, o5))) else (none))) else (gq_h (fh_L_line N p1 1 C ov) fun k29 o32 C30 => if p2 = 0 then (gq_b (f_X10_line N p1 0 R) fun v34 M35 => gq_b (f_X10_thrown N  M35) fun v37 M38 => if v37 = k29 then (if k29 = 0 then (if v34 = 0 then (if (lg_cmp o32 0) = 0 then (some (C30, M38, o32)) else (none)) else (if (lg_cmp o32 1) = 0 then (some (C30, M38, o32)) else (none))) else (some (C30, M38, o32))) else (none)) else (gq_b (f_X10_line N p1 1 R) fun v45 M46 => gq_b (f_X10_thrown N  M46) fun v48 M49 => if v48 = k29 then (if k29 = 0 then (if v45 = 0 then (if (lg_cmp o32 0) = 0 then (some (C30, M49, o32)) else (none)) else (if (lg_cmp o32 1) = 0 then (some (C30, M49, o32)) else (none))) else (some (C30, M49, o32))) else (none)))
set_option maxHeartbeats 4000000 in
set_option maxRecDepth 20000 in
theorem q_law_7 (hl9 : l.stackTraces = false) (hC : gc_C p s m args meth c D A cI cZ RL cL_law 7) (hKL : gl_K D cI cZ cL s) (hZ : gq_Z A s) (hN : gl_N s) (hX : va_X b Ln xs s s.heap) (hbl : b < s.heap.size) (hbA : ¬ A b) (hx1 : vp_in (x4 + 1) Ln) (hx2 : vp_in (x4 + 2) Ln) (hx3 : vp_in (x4 + 3) Ln) (hx4 : vp_in (x4 + 4) Ln) (hx5 : vp_in (x4 + 5) Ln) (hx6 : vp_in (x4 + 6) Ln) (hkR : kc + 1 ≤ room_1.cells ∧ ks + 6 ≤ room_1.slots) (N : Nat) {C R C9 R9 : gq_M} {ov ov9 : Int64} (h : fl_7 N (xs (x4 + 1).toNatClampNeg) (xs (x4 + 2).toNatClampNeg) (xs (x4 + 3).toNatClampNeg) (xs (x4 + 4).toNatClampNeg) (xs (x4 + 5).toNatClampNeg) (xs (x4 + 6).toNatClampNeg) C R ov = some (C9, R9, ov9)) (hk : gc_W p l e room_1 s m args below meth c D A 7 Q ((gl_out cL oa ov9 :: gq_ws cI cZ adC C9 0 mtC) ++ gq_ws cI cZ adR R9 0 mtR) 2100 [(4, .int x4), (3, .ref oa), (2, .ref (adR 0)), (1, .ref (adC 0)), (0, .ref b)] [] (kc + 1) (ks + 6)) : gc_W p l e room_1 s m args below meth c D A 7 Q ((gl_out cL oa ov :: gq_ws cI cZ adC C 0 mtC) ++ gq_ws cI cZ adR R 0 mtR) 688 [(4, .int x4), (3, .ref oa), (2, .ref (adR 0)), (1, .ref (adC 0)), (0, .ref b)] [] kc ks := by
  unfold fl_7 at h
  refine gc_aload_n hC 3 rfl rfl dL_law_688 ?_
  refine gc_aload_n hC 4 rfl rfl dL_law_689 ?_
  refine gl_iload hC 0 rfl dL_law_690 ?_
  refine gc_iconst (v := 1) hC (by decide) dL_law_692 ?_
  refine gl_iadd hC dL_law_693 ?_
  refine gl_sld hC hX hbl hbA hx1 dL_law_694 ?_
  refine gc_aload_n hC 4 rfl rfl dL_law_695 ?_
  refine gl_iload hC 0 rfl dL_law_696 ?_
  refine gc_iconst (v := 2) hC (by decide) dL_law_698 ?_
  refine gl_iadd hC dL_law_699 ?_
  refine gl_sld hC hX hbl hbA hx2 dL_law_700 ?_
  refine gl_if_eq (tgt := 708) hC (by decide) dL_law_701 (fun c1 => ?_) (fun c1 => ?_)
  · replace h := gq_t c1 h
    refine gc_iconst (v := 0) hC (by decide) dL_law_708 ?_
    refine gc_aload_n hC 1 rfl rfl dL_law_709 ?_
    obtain ⟨k2, o5, C3, e4, h⟩ := gq_h_i h
    refine gl_comm ?_
    refine gl_H (as := [.ref (adC 0), .int (xs (x4 + 1).toNatClampNeg), .int 0, .ref oa]) hC hKL hZ hN (h_L_line hl9 N _ _ _ _ _ _ _ _ e4) (by show oa :: _ = oa :: _; rw [gq_ws_fst 0 mtC]) mH_L_line wm_L_137 rfl rfl (Nat.le_of_ble_eq_true rfl) ⟨by decide, by decide⟩ hkR dL_law_710 ?_
    refine gl_comm ?_
    refine gl_istore (L2 := [(5, .int k2), (4, .int x4), (3, .ref oa), (2, .ref (adR 0)), (1, .ref (adC 0)), (0, .ref b)]) hC (by decide) rfl dL_law_713 ?_
    refine gc_aload_n hC 3 rfl rfl dL_law_715 ?_
    refine gc_aload_n hC 5 rfl rfl dL_law_716 ?_
    refine gl_iload hC 1 rfl dL_law_717 ?_
    refine gc_iconst (v := 1) hC (by decide) dL_law_719 ?_
    refine gl_iadd hC dL_law_720 ?_
    refine gl_sld hC hX hbl hbA hx1 dL_law_721 ?_
    refine gc_aload_n hC 5 rfl rfl dL_law_722 ?_
    refine gl_iload hC 1 rfl dL_law_723 ?_
    refine gc_iconst (v := 2) hC (by decide) dL_law_725 ?_
    refine gl_iadd hC dL_law_726 ?_
    refine gl_sld hC hX hbl hbA hx2 dL_law_727 ?_
    refine gl_if_eq (tgt := 735) hC (by decide) dL_law_728 (fun c6 => ?_) (fun c6 => ?_)
    · replace h := gq_t c6 h
      refine gc_iconst (v := 0) hC (by decide) dL_law_735 ?_
      obtain ⟨v7, M8, e9, h⟩ := gq_b_i h
      refine gl_Vi (q := 0) (as := [.int (xs (x4 + 1).toNatClampNeg), .int 0]) hC (t_X10_line N _ _ _ _ _ e9) mV_X10_line wm_L_139 obR_0 rfl rfl (Nat.le_of_ble_eq_true rfl) ⟨by decide, by decide⟩ hkR dL_law_736 ?_
      refine gl_istore (L2 := [(6, .int v7), (5, .int k2), (4, .int x4), (3, .ref oa), (2, .ref (adR 0)), (1, .ref (adC 0)), (0, .ref b)]) hC (by decide) rfl dL_law_739 ?_
      refine gc_aload_n hC 4 rfl rfl dL_law_741 ?_
      obtain ⟨v10, M11, e12, h⟩ := gq_b_i h
      refine gl_Vi (q := 0) (as := []) hC (t_X10_thrown N  _ _ _ e12) mV_X10_thrown wm_L_111 obR_0 rfl rfl (Nat.le_of_ble_eq_true rfl) ⟨by decide, by decide⟩ hkR dL_law_742 ?_
      refine gl_iload hC 1 rfl dL_law_745 ?_
      refine gl_icmp_eq (tgt := 752) hC (by decide) dL_law_747 (fun c13 => ?_) (fun c13 => ?_)
      · replace h := gq_t c13 h
        refine gl_iload hC 1 rfl dL_law_752 ?_
        refine gl_if_ne (tgt := 776) hC (by decide) dL_law_754 (fun c14 => ?_) (fun c14 => ?_)
        · replace h := gq_f c14 h
          refine gl_goto (tgt := 2100) hC (by decide) dL_law_776 ?_
          cases h
          refine gl_weak [2, 3, 4, 5, 6] rfl ?_
          exact hk
        · replace h := gq_t c14 h
          refine gc_aload_n hC 3 rfl rfl dL_law_757 ?_
          refine gc_iconst (v := 0) hC (by decide) dL_law_758 ?_
          refine gl_lald hC hKL dL_law_759 ?_
          refine gc_cast (ws2 := ((gl_out cL oa o5 :: gq_ws cI cZ adC C3 0 mtC) ++ gq_ws cI cZ adR M11 0 mtR)) ?_ rfl rfl rfl rfl rfl rfl
          refine gl_iload hC 0 rfl dL_law_760 ?_
          refine gl_if_eq (tgt := 769) hC (by decide) dL_law_762 (fun c15 => ?_) (fun c15 => ?_)
          · replace h := gq_t c15 h
            refine gl_lconst (v := 0) hC (by decide) dL_law_769 ?_
            refine gl_lcmp hC dL_law_770 ?_
            refine gl_if_eq (tgt := 776) hC (by decide) dL_law_771 (fun c16 => ?_) (fun c16 => ?_)
            · replace h := gq_t c16 h
              refine gl_goto (tgt := 2100) hC (by decide) dL_law_776 ?_
              cases h
              refine gl_weak [2, 3, 4, 5, 6] rfl ?_
              exact hk
            · replace h := gq_f c16 h
              refine gc_iconst (v := 0) hC (by decide) dL_law_774 ?_
              cases h
          · replace h := gq_f c15 h
            refine gl_lconst (v := 1) hC (by decide) dL_law_765 ?_
            refine gl_goto (tgt := 770) hC (by decide) dL_law_766 ?_
            refine gl_lcmp hC dL_law_770 ?_
            refine gl_if_eq (tgt := 776) hC (by decide) dL_law_771 (fun c17 => ?_) (fun c17 => ?_)
            · replace h := gq_t c17 h
              refine gl_goto (tgt := 2100) hC (by decide) dL_law_776 ?_
              cases h
              refine gl_weak [2, 3, 4, 5, 6] rfl ?_
              exact hk
            · replace h := gq_f c17 h
              refine gc_iconst (v := 0) hC (by decide) dL_law_774 ?_
              cases h
      · replace h := gq_f c13 h
        refine gc_iconst (v := 0) hC (by decide) dL_law_750 ?_
        cases h
    · replace h := gq_f c6 h
      refine gc_iconst (v := 1) hC (by decide) dL_law_731 ?_
      refine gl_goto (tgt := 736) hC (by decide) dL_law_732 ?_
      obtain ⟨v18, M19, e20, h⟩ := gq_b_i h
      refine gl_Vi (q := 0) (as := [.int (xs (x4 + 1).toNatClampNeg), .int 1]) hC (t_X10_line N _ _ _ _ _ e20) mV_X10_line wm_L_139 obR_0 rfl rfl (Nat.le_of_ble_eq_true rfl) ⟨by decide, by decide⟩ hkR dL_law_736 ?_
      refine gl_istore (L2 := [(6, .int v18), (5, .int k2), (4, .int x4), (3, .ref oa), (2, .ref (adR 0)), (1, .ref (adC 0)), (0, .ref b)]) hC (by decide) rfl dL_law_739 ?_
      refine gc_aload_n hC 4 rfl rfl dL_law_741 ?_
      obtain ⟨v21, M22, e23, h⟩ := gq_b_i h
      refine gl_Vi (q := 0) (as := []) hC (t_X10_thrown N  _ _ _ e23) mV_X10_thrown wm_L_111 obR_0 rfl rfl (Nat.le_of_ble_eq_true rfl) ⟨by decide, by decide⟩ hkR dL_law_742 ?_
      refine gl_iload hC 1 rfl dL_law_745 ?_
      refine gl_icmp_eq (tgt := 752) hC (by decide) dL_law_747 (fun c24 => ?_) (fun c24 => ?_)
      · replace h := gq_t c24 h
        refine gl_iload hC 1 rfl dL_law_752 ?_
        refine gl_if_ne (tgt := 776) hC (by decide) dL_law_754 (fun c25 => ?_) (fun c25 => ?_)
        · replace h := gq_f c25 h
          refine gl_goto (tgt := 2100) hC (by decide) dL_law_776 ?_
          cases h
          refine gl_weak [2, 3, 4, 5, 6] rfl ?_
          exact hk
        · replace h := gq_t c25 h
          refine gc_aload_n hC 3 rfl rfl dL_law_757 ?_
          refine gc_iconst (v := 0) hC (by decide) dL_law_758 ?_
          refine gl_lald hC hKL dL_law_759 ?_
          refine gc_cast (ws2 := ((gl_out cL oa o5 :: gq_ws cI cZ adC C3 0 mtC) ++ gq_ws cI cZ adR M22 0 mtR)) ?_ rfl rfl rfl rfl rfl rfl
          refine gl_iload hC 0 rfl dL_law_760 ?_
          refine gl_if_eq (tgt := 769) hC (by decide) dL_law_762 (fun c26 => ?_) (fun c26 => ?_)
          · replace h := gq_t c26 h
            refine gl_lconst (v := 0) hC (by decide) dL_law_769 ?_
            refine gl_lcmp hC dL_law_770 ?_
            refine gl_if_eq (tgt := 776) hC (by decide) dL_law_771 (fun c27 => ?_) (fun c27 => ?_)
            · replace h := gq_t c27 h
              refine gl_goto (tgt := 2100) hC (by decide) dL_law_776 ?_
              cases h
              refine gl_weak [2, 3, 4, 5, 6] rfl ?_
              exact hk
            · replace h := gq_f c27 h
              refine gc_iconst (v := 0) hC (by decide) dL_law_774 ?_
              cases h
          · replace h := gq_f c26 h
            refine gl_lconst (v := 1) hC (by decide) dL_law_765 ?_
            refine gl_goto (tgt := 770) hC (by decide) dL_law_766 ?_
            refine gl_lcmp hC dL_law_770 ?_
            refine gl_if_eq (tgt := 776) hC (by decide) dL_law_771 (fun c28 => ?_) (fun c28 => ?_)
            · replace h := gq_t c28 h
              refine gl_goto (tgt := 2100) hC (by decide) dL_law_776 ?_
              cases h
              refine gl_weak [2, 3, 4, 5, 6] rfl ?_
              exact hk
            · replace h := gq_f c28 h
              refine gc_iconst (v := 0) hC (by decide) dL_law_774 ?_
              cases h
      · replace h := gq_f c24 h
        refine gc_iconst (v := 0) hC (by decide) dL_law_750 ?_
        cases h
  · replace h := gq_f c1 h
    refine gc_iconst (v := 1) hC (by decide) dL_law_704 ?_
    refine gl_goto (tgt := 709) hC (by decide) dL_law_705 ?_
    refine gc_aload_n hC 1 rfl rfl dL_law_709 ?_
    obtain ⟨k29, o32, C30, e31, h⟩ := gq_h_i h
    refine gl_comm ?_
    refine gl_H (as := [.ref (adC 0), .int (xs (x4 + 1).toNatClampNeg), .int 1, .ref oa]) hC hKL hZ hN (h_L_line hl9 N _ _ _ _ _ _ _ _ e31) (by show oa :: _ = oa :: _; rw [gq_ws_fst 0 mtC]) mH_L_line wm_L_137 rfl rfl (Nat.le_of_ble_eq_true rfl) ⟨by decide, by decide⟩ hkR dL_law_710 ?_
    refine gl_comm ?_
    refine gl_istore (L2 := [(5, .int k29), (4, .int x4), (3, .ref oa), (2, .ref (adR 0)), (1, .ref (adC 0)), (0, .ref b)]) hC (by decide) rfl dL_law_713 ?_
    refine gc_aload_n hC 3 rfl rfl dL_law_715 ?_
    refine gc_aload_n hC 5 rfl rfl dL_law_716 ?_
    refine gl_iload hC 1 rfl dL_law_717 ?_
    refine gc_iconst (v := 1) hC (by decide) dL_law_719 ?_
    refine gl_iadd hC dL_law_720 ?_
    refine gl_sld hC hX hbl hbA hx1 dL_law_721 ?_
    refine gc_aload_n hC 5 rfl rfl dL_law_722 ?_
    refine gl_iload hC 1 rfl dL_law_723 ?_
    refine gc_iconst (v := 2) hC (by decide) dL_law_725 ?_
    refine gl_iadd hC dL_law_726 ?_
    refine gl_sld hC hX hbl hbA hx2 dL_law_727 ?_
    refine gl_if_eq (tgt := 735) hC (by decide) dL_law_728 (fun c33 => ?_) (fun c33 => ?_)
    · replace h := gq_t c33 h
      refine gc_iconst (v := 0) hC (by decide) dL_law_735 ?_
      obtain ⟨v34, M35, e36, h⟩ := gq_b_i h
      refine gl_Vi (q := 0) (as := [.int (xs (x4 + 1).toNatClampNeg), .int 0]) hC (t_X10_line N _ _ _ _ _ e36) mV_X10_line wm_L_139 obR_0 rfl rfl (Nat.le_of_ble_eq_true rfl) ⟨by decide, by decide⟩ hkR dL_law_736 ?_
      refine gl_istore (L2 := [(6, .int v34), (5, .int k29), (4, .int x4), (3, .ref oa), (2, .ref (adR 0)), (1, .ref (adC 0)), (0, .ref b)]) hC (by decide) rfl dL_law_739 ?_
      refine gc_aload_n hC 4 rfl rfl dL_law_741 ?_
      obtain ⟨v37, M38, e39, h⟩ := gq_b_i h
      refine gl_Vi (q := 0) (as := []) hC (t_X10_thrown N  _ _ _ e39) mV_X10_thrown wm_L_111 obR_0 rfl rfl (Nat.le_of_ble_eq_true rfl) ⟨by decide, by decide⟩ hkR dL_law_742 ?_
      refine gl_iload hC 1 rfl dL_law_745 ?_
      refine gl_icmp_eq (tgt := 752) hC (by decide) dL_law_747 (fun c40 => ?_) (fun c40 => ?_)
      · replace h := gq_t c40 h
        refine gl_iload hC 1 rfl dL_law_752 ?_
        refine gl_if_ne (tgt := 776) hC (by decide) dL_law_754 (fun c41 => ?_) (fun c41 => ?_)
        · replace h := gq_f c41 h
          refine gl_goto (tgt := 2100) hC (by decide) dL_law_776 ?_
          cases h
          refine gl_weak [2, 3, 4, 5, 6] rfl ?_
          exact hk
        · replace h := gq_t c41 h
          refine gc_aload_n hC 3 rfl rfl dL_law_757 ?_
          refine gc_iconst (v := 0) hC (by decide) dL_law_758 ?_
          refine gl_lald hC hKL dL_law_759 ?_
          refine gc_cast (ws2 := ((gl_out cL oa o32 :: gq_ws cI cZ adC C30 0 mtC) ++ gq_ws cI cZ adR M38 0 mtR)) ?_ rfl rfl rfl rfl rfl rfl
          refine gl_iload hC 0 rfl dL_law_760 ?_
          refine gl_if_eq (tgt := 769) hC (by decide) dL_law_762 (fun c42 => ?_) (fun c42 => ?_)
          · replace h := gq_t c42 h
            refine gl_lconst (v := 0) hC (by decide) dL_law_769 ?_
            refine gl_lcmp hC dL_law_770 ?_
            refine gl_if_eq (tgt := 776) hC (by decide) dL_law_771 (fun c43 => ?_) (fun c43 => ?_)
            · replace h := gq_t c43 h
              refine gl_goto (tgt := 2100) hC (by decide) dL_law_776 ?_
              cases h
              refine gl_weak [2, 3, 4, 5, 6] rfl ?_
              exact hk
            · replace h := gq_f c43 h
              refine gc_iconst (v := 0) hC (by decide) dL_law_774 ?_
              cases h
          · replace h := gq_f c42 h
            refine gl_lconst (v := 1) hC (by decide) dL_law_765 ?_
            refine gl_goto (tgt := 770) hC (by decide) dL_law_766 ?_
            refine gl_lcmp hC dL_law_770 ?_
            refine gl_if_eq (tgt := 776) hC (by decide) dL_law_771 (fun c44 => ?_) (fun c44 => ?_)
            · replace h := gq_t c44 h
              refine gl_goto (tgt := 2100) hC (by decide) dL_law_776 ?_
              cases h
              refine gl_weak [2, 3, 4, 5, 6] rfl ?_
              exact hk
            · replace h := gq_f c44 h
              refine gc_iconst (v := 0) hC (by decide) dL_law_774 ?_
              cases h
      · replace h := gq_f c40 h
        refine gc_iconst (v := 0) hC (by decide) dL_law_750 ?_
        cases h
    · replace h := gq_f c33 h
      refine gc_iconst (v := 1) hC (by decide) dL_law_731 ?_
      refine gl_goto (tgt := 736) hC (by decide) dL_law_732 ?_
      obtain ⟨v45, M46, e47, h⟩ := gq_b_i h
      refine gl_Vi (q := 0) (as := [.int (xs (x4 + 1).toNatClampNeg), .int 1]) hC (t_X10_line N _ _ _ _ _ e47) mV_X10_line wm_L_139 obR_0 rfl rfl (Nat.le_of_ble_eq_true rfl) ⟨by decide, by decide⟩ hkR dL_law_736 ?_
      refine gl_istore (L2 := [(6, .int v45), (5, .int k29), (4, .int x4), (3, .ref oa), (2, .ref (adR 0)), (1, .ref (adC 0)), (0, .ref b)]) hC (by decide) rfl dL_law_739 ?_
      refine gc_aload_n hC 4 rfl rfl dL_law_741 ?_
      obtain ⟨v48, M49, e50, h⟩ := gq_b_i h
      refine gl_Vi (q := 0) (as := []) hC (t_X10_thrown N  _ _ _ e50) mV_X10_thrown wm_L_111 obR_0 rfl rfl (Nat.le_of_ble_eq_true rfl) ⟨by decide, by decide⟩ hkR dL_law_742 ?_
      refine gl_iload hC 1 rfl dL_law_745 ?_
      refine gl_icmp_eq (tgt := 752) hC (by decide) dL_law_747 (fun c51 => ?_) (fun c51 => ?_)
      · replace h := gq_t c51 h
        refine gl_iload hC 1 rfl dL_law_752 ?_
        refine gl_if_ne (tgt := 776) hC (by decide) dL_law_754 (fun c52 => ?_) (fun c52 => ?_)
        · replace h := gq_f c52 h
          refine gl_goto (tgt := 2100) hC (by decide) dL_law_776 ?_
          cases h
          refine gl_weak [2, 3, 4, 5, 6] rfl ?_
          exact hk
        · replace h := gq_t c52 h
          refine gc_aload_n hC 3 rfl rfl dL_law_757 ?_
          refine gc_iconst (v := 0) hC (by decide) dL_law_758 ?_
          refine gl_lald hC hKL dL_law_759 ?_
          refine gc_cast (ws2 := ((gl_out cL oa o32 :: gq_ws cI cZ adC C30 0 mtC) ++ gq_ws cI cZ adR M49 0 mtR)) ?_ rfl rfl rfl rfl rfl rfl
          refine gl_iload hC 0 rfl dL_law_760 ?_
          refine gl_if_eq (tgt := 769) hC (by decide) dL_law_762 (fun c53 => ?_) (fun c53 => ?_)
          · replace h := gq_t c53 h
            refine gl_lconst (v := 0) hC (by decide) dL_law_769 ?_
            refine gl_lcmp hC dL_law_770 ?_
            refine gl_if_eq (tgt := 776) hC (by decide) dL_law_771 (fun c54 => ?_) (fun c54 => ?_)
            · replace h := gq_t c54 h
              refine gl_goto (tgt := 2100) hC (by decide) dL_law_776 ?_
              cases h
              refine gl_weak [2, 3, 4, 5, 6] rfl ?_
              exact hk
            · replace h := gq_f c54 h
              refine gc_iconst (v := 0) hC (by decide) dL_law_774 ?_
              cases h
          · replace h := gq_f c53 h
            refine gl_lconst (v := 1) hC (by decide) dL_law_765 ?_
            refine gl_goto (tgt := 770) hC (by decide) dL_law_766 ?_
            refine gl_lcmp hC dL_law_770 ?_
            refine gl_if_eq (tgt := 776) hC (by decide) dL_law_771 (fun c55 => ?_) (fun c55 => ?_)
            · replace h := gq_t c55 h
              refine gl_goto (tgt := 2100) hC (by decide) dL_law_776 ?_
              cases h
              refine gl_weak [2, 3, 4, 5, 6] rfl ?_
              exact hk
            · replace h := gq_f c55 h
              refine gc_iconst (v := 0) hC (by decide) dL_law_774 ?_
              cases h
      · replace h := gq_f c51 h
        refine gc_iconst (v := 0) hC (by decide) dL_law_750 ?_
        cases h
def fl_8 (N : Nat) (p1 : Int32) (p2 : Int32) (p3 : Int32) (p4 : Int32) (p5 : Int32) (p6 : Int32) (C R : gq_M) (ov : Int64) : Option (gq_M × gq_M × Int64) := gq_h (fh_L_land N p1 p2 p3 p4 p5 p6 C ov) fun k1 o4 C2 => gq_b (f_X10_land N p1 p2 p3 p4 p5 p6 R) fun v5 M6 => gq_b (f_X10_thrown N  M6) fun v8 M9 => if v8 = k1 then (if k1 = 0 then (if (lg_cmp o4 (v5 : Int32).toInt64) = 0 then (some (C2, M9, o4)) else (none)) else (some (C2, M9, o4))) else (none)
set_option maxHeartbeats 4000000 in
set_option maxRecDepth 20000 in
theorem q_law_8 (hl9 : l.stackTraces = false) (hC : gc_C p s m args meth c D A cI cZ RL cL_law 7) (hKL : gl_K D cI cZ cL s) (hZ : gq_Z A s) (hN : gl_N s) (hX : va_X b Ln xs s s.heap) (hbl : b < s.heap.size) (hbA : ¬ A b) (hx1 : vp_in (x4 + 1) Ln) (hx2 : vp_in (x4 + 2) Ln) (hx3 : vp_in (x4 + 3) Ln) (hx4 : vp_in (x4 + 4) Ln) (hx5 : vp_in (x4 + 5) Ln) (hx6 : vp_in (x4 + 6) Ln) (hkR : kc + 1 ≤ room_1.cells ∧ ks + 6 ≤ room_1.slots) (N : Nat) {C R C9 R9 : gq_M} {ov ov9 : Int64} (h : fl_8 N (xs (x4 + 1).toNatClampNeg) (xs (x4 + 2).toNatClampNeg) (xs (x4 + 3).toNatClampNeg) (xs (x4 + 4).toNatClampNeg) (xs (x4 + 5).toNatClampNeg) (xs (x4 + 6).toNatClampNeg) C R ov = some (C9, R9, ov9)) (hk : gc_W p l e room_1 s m args below meth c D A 7 Q ((gl_out cL oa ov9 :: gq_ws cI cZ adC C9 0 mtC) ++ gq_ws cI cZ adR R9 0 mtR) 2100 [(4, .int x4), (3, .ref oa), (2, .ref (adR 0)), (1, .ref (adC 0)), (0, .ref b)] [] (kc + 1) (ks + 6)) : gc_W p l e room_1 s m args below meth c D A 7 Q ((gl_out cL oa ov :: gq_ws cI cZ adC C 0 mtC) ++ gq_ws cI cZ adR R 0 mtR) 779 [(4, .int x4), (3, .ref oa), (2, .ref (adR 0)), (1, .ref (adC 0)), (0, .ref b)] [] kc ks := by
  unfold fl_8 at h
  refine gc_aload_n hC 3 rfl rfl dL_law_779 ?_
  refine gc_aload_n hC 4 rfl rfl dL_law_780 ?_
  refine gl_iload hC 0 rfl dL_law_781 ?_
  refine gc_iconst (v := 1) hC (by decide) dL_law_783 ?_
  refine gl_iadd hC dL_law_784 ?_
  refine gl_sld hC hX hbl hbA hx1 dL_law_785 ?_
  refine gc_aload_n hC 4 rfl rfl dL_law_786 ?_
  refine gl_iload hC 0 rfl dL_law_787 ?_
  refine gc_iconst (v := 2) hC (by decide) dL_law_789 ?_
  refine gl_iadd hC dL_law_790 ?_
  refine gl_sld hC hX hbl hbA hx2 dL_law_791 ?_
  refine gc_aload_n hC 4 rfl rfl dL_law_792 ?_
  refine gl_iload hC 0 rfl dL_law_793 ?_
  refine gc_iconst (v := 3) hC (by decide) dL_law_795 ?_
  refine gl_iadd hC dL_law_796 ?_
  refine gl_sld hC hX hbl hbA hx3 dL_law_797 ?_
  refine gc_aload_n hC 4 rfl rfl dL_law_798 ?_
  refine gl_iload hC 0 rfl dL_law_799 ?_
  refine gc_iconst (v := 4) hC (by decide) dL_law_801 ?_
  refine gl_iadd hC dL_law_802 ?_
  refine gl_sld hC hX hbl hbA hx4 dL_law_803 ?_
  refine gc_aload_n hC 4 rfl rfl dL_law_804 ?_
  refine gl_iload hC 0 rfl dL_law_805 ?_
  refine gc_iconst (v := 5) hC (by decide) dL_law_807 ?_
  refine gl_iadd hC dL_law_808 ?_
  refine gl_sld hC hX hbl hbA hx5 dL_law_809 ?_
  refine gc_aload_n hC 4 rfl rfl dL_law_810 ?_
  refine gl_iload hC 0 rfl dL_law_811 ?_
  refine gc_bipush (v := 6) hC (by decide) dL_law_813 ?_
  refine gl_iadd hC dL_law_815 ?_
  refine gl_sld hC hX hbl hbA hx6 dL_law_816 ?_
  refine gc_aload_n hC 1 rfl rfl dL_law_817 ?_
  obtain ⟨k1, o4, C2, e3, h⟩ := gq_h_i h
  refine gl_comm ?_
  refine gl_H (as := [.ref (adC 0), .int (xs (x4 + 1).toNatClampNeg), .int (xs (x4 + 2).toNatClampNeg), .int (xs (x4 + 3).toNatClampNeg), .int (xs (x4 + 4).toNatClampNeg), .int (xs (x4 + 5).toNatClampNeg), .int (xs (x4 + 6).toNatClampNeg), .ref oa]) hC hKL hZ hN (h_L_land hl9 N _ _ _ _ _ _ _ _ _ _ _ _ e3) (by show oa :: _ = oa :: _; rw [gq_ws_fst 0 mtC]) mH_L_land wm_L_140 rfl rfl (Nat.le_of_ble_eq_true rfl) ⟨by decide, by decide⟩ hkR dL_law_818 ?_
  refine gl_comm ?_
  refine gl_istore (L2 := [(5, .int k1), (4, .int x4), (3, .ref oa), (2, .ref (adR 0)), (1, .ref (adC 0)), (0, .ref b)]) hC (by decide) rfl dL_law_821 ?_
  refine gc_aload_n hC 3 rfl rfl dL_law_823 ?_
  refine gc_aload_n hC 5 rfl rfl dL_law_824 ?_
  refine gl_iload hC 1 rfl dL_law_825 ?_
  refine gc_iconst (v := 1) hC (by decide) dL_law_827 ?_
  refine gl_iadd hC dL_law_828 ?_
  refine gl_sld hC hX hbl hbA hx1 dL_law_829 ?_
  refine gc_aload_n hC 5 rfl rfl dL_law_830 ?_
  refine gl_iload hC 1 rfl dL_law_831 ?_
  refine gc_iconst (v := 2) hC (by decide) dL_law_833 ?_
  refine gl_iadd hC dL_law_834 ?_
  refine gl_sld hC hX hbl hbA hx2 dL_law_835 ?_
  refine gc_aload_n hC 5 rfl rfl dL_law_836 ?_
  refine gl_iload hC 1 rfl dL_law_837 ?_
  refine gc_iconst (v := 3) hC (by decide) dL_law_839 ?_
  refine gl_iadd hC dL_law_840 ?_
  refine gl_sld hC hX hbl hbA hx3 dL_law_841 ?_
  refine gc_aload_n hC 5 rfl rfl dL_law_842 ?_
  refine gl_iload hC 1 rfl dL_law_843 ?_
  refine gc_iconst (v := 4) hC (by decide) dL_law_845 ?_
  refine gl_iadd hC dL_law_846 ?_
  refine gl_sld hC hX hbl hbA hx4 dL_law_847 ?_
  refine gc_aload_n hC 5 rfl rfl dL_law_848 ?_
  refine gl_iload hC 1 rfl dL_law_849 ?_
  refine gc_iconst (v := 5) hC (by decide) dL_law_851 ?_
  refine gl_iadd hC dL_law_852 ?_
  refine gl_sld hC hX hbl hbA hx5 dL_law_853 ?_
  refine gc_aload_n hC 5 rfl rfl dL_law_854 ?_
  refine gl_iload hC 1 rfl dL_law_855 ?_
  refine gc_bipush (v := 6) hC (by decide) dL_law_857 ?_
  refine gl_iadd hC dL_law_859 ?_
  refine gl_sld hC hX hbl hbA hx6 dL_law_860 ?_
  obtain ⟨v5, M6, e7, h⟩ := gq_b_i h
  refine gl_Vi (q := 0) (as := [.int (xs (x4 + 1).toNatClampNeg), .int (xs (x4 + 2).toNatClampNeg), .int (xs (x4 + 3).toNatClampNeg), .int (xs (x4 + 4).toNatClampNeg), .int (xs (x4 + 5).toNatClampNeg), .int (xs (x4 + 6).toNatClampNeg)]) hC (t_X10_land N _ _ _ _ _ _ _ _ _ e7) mV_X10_land wm_L_143 obR_0 rfl rfl (Nat.le_of_ble_eq_true rfl) ⟨by decide, by decide⟩ hkR dL_law_861 ?_
  refine gl_istore (L2 := [(6, .int v5), (5, .int k1), (4, .int x4), (3, .ref oa), (2, .ref (adR 0)), (1, .ref (adC 0)), (0, .ref b)]) hC (by decide) rfl dL_law_864 ?_
  refine gc_aload_n hC 4 rfl rfl dL_law_866 ?_
  obtain ⟨v8, M9, e10, h⟩ := gq_b_i h
  refine gl_Vi (q := 0) (as := []) hC (t_X10_thrown N  _ _ _ e10) mV_X10_thrown wm_L_111 obR_0 rfl rfl (Nat.le_of_ble_eq_true rfl) ⟨by decide, by decide⟩ hkR dL_law_867 ?_
  refine gl_iload hC 1 rfl dL_law_870 ?_
  refine gl_icmp_eq (tgt := 877) hC (by decide) dL_law_872 (fun c11 => ?_) (fun c11 => ?_)
  · replace h := gq_t c11 h
    refine gl_iload hC 1 rfl dL_law_877 ?_
    refine gl_if_ne (tgt := 894) hC (by decide) dL_law_879 (fun c12 => ?_) (fun c12 => ?_)
    · replace h := gq_f c12 h
      refine gl_goto (tgt := 2100) hC (by decide) dL_law_894 ?_
      cases h
      refine gl_weak [2, 3, 4, 5, 6] rfl ?_
      exact hk
    · replace h := gq_t c12 h
      refine gc_aload_n hC 3 rfl rfl dL_law_882 ?_
      refine gc_iconst (v := 0) hC (by decide) dL_law_883 ?_
      refine gl_lald hC hKL dL_law_884 ?_
      refine gc_cast (ws2 := ((gl_out cL oa o4 :: gq_ws cI cZ adC C2 0 mtC) ++ gq_ws cI cZ adR M9 0 mtR)) ?_ rfl rfl rfl rfl rfl rfl
      refine gl_iload hC 0 rfl dL_law_885 ?_
      refine gl_i2l hC dL_law_887 ?_
      refine gl_lcmp hC dL_law_888 ?_
      refine gl_if_eq (tgt := 894) hC (by decide) dL_law_889 (fun c13 => ?_) (fun c13 => ?_)
      · replace h := gq_t c13 h
        refine gl_goto (tgt := 2100) hC (by decide) dL_law_894 ?_
        cases h
        refine gl_weak [2, 3, 4, 5, 6] rfl ?_
        exact hk
      · replace h := gq_f c13 h
        refine gc_iconst (v := 0) hC (by decide) dL_law_892 ?_
        cases h
  · replace h := gq_f c11 h
    refine gc_iconst (v := 0) hC (by decide) dL_law_875 ?_
    cases h
def fl_9 (N : Nat) (p1 : Int32) (p2 : Int32) (p3 : Int32) (p4 : Int32) (p5 : Int32) (p6 : Int32) (C R : gq_M) (ov : Int64) : Option (gq_M × gq_M × Int64) := gq_h (fh_L_open N  C ov) fun k1 o4 C2 => gq_b (f_X10_open N  R) fun v5 M6 => gq_b (f_X10_thrown N  M6) fun v8 M9 => if v8 = k1 then (if k1 = 0 then (if (lg_cmp o4 (v5 : Int32).toInt64) = 0 then (some (C2, M9, o4)) else (none)) else (some (C2, M9, o4))) else (none)
set_option maxHeartbeats 4000000 in
set_option maxRecDepth 20000 in
theorem q_law_9 (hl9 : l.stackTraces = false) (hC : gc_C p s m args meth c D A cI cZ RL cL_law 7) (hKL : gl_K D cI cZ cL s) (hZ : gq_Z A s) (hN : gl_N s) (hX : va_X b Ln xs s s.heap) (hbl : b < s.heap.size) (hbA : ¬ A b) (hx1 : vp_in (x4 + 1) Ln) (hx2 : vp_in (x4 + 2) Ln) (hx3 : vp_in (x4 + 3) Ln) (hx4 : vp_in (x4 + 4) Ln) (hx5 : vp_in (x4 + 5) Ln) (hx6 : vp_in (x4 + 6) Ln) (hkR : kc + 1 ≤ room_1.cells ∧ ks + 6 ≤ room_1.slots) (N : Nat) {C R C9 R9 : gq_M} {ov ov9 : Int64} (h : fl_9 N (xs (x4 + 1).toNatClampNeg) (xs (x4 + 2).toNatClampNeg) (xs (x4 + 3).toNatClampNeg) (xs (x4 + 4).toNatClampNeg) (xs (x4 + 5).toNatClampNeg) (xs (x4 + 6).toNatClampNeg) C R ov = some (C9, R9, ov9)) (hk : gc_W p l e room_1 s m args below meth c D A 7 Q ((gl_out cL oa ov9 :: gq_ws cI cZ adC C9 0 mtC) ++ gq_ws cI cZ adR R9 0 mtR) 2100 [(4, .int x4), (3, .ref oa), (2, .ref (adR 0)), (1, .ref (adC 0)), (0, .ref b)] [] (kc + 1) (ks + 6)) : gc_W p l e room_1 s m args below meth c D A 7 Q ((gl_out cL oa ov :: gq_ws cI cZ adC C 0 mtC) ++ gq_ws cI cZ adR R 0 mtR) 897 [(4, .int x4), (3, .ref oa), (2, .ref (adR 0)), (1, .ref (adC 0)), (0, .ref b)] [] kc ks := by
  unfold fl_9 at h
  refine gc_aload_n hC 3 rfl rfl dL_law_897 ?_
  refine gc_aload_n hC 1 rfl rfl dL_law_898 ?_
  obtain ⟨k1, o4, C2, e3, h⟩ := gq_h_i h
  refine gl_comm ?_
  refine gl_H (as := [.ref (adC 0), .ref oa]) hC hKL hZ hN (h_L_open hl9 N _  _ _ _ _ _ e3) (by show oa :: _ = oa :: _; rw [gq_ws_fst 0 mtC]) mH_L_open wm_L_144 rfl rfl (Nat.le_of_ble_eq_true rfl) ⟨by decide, by decide⟩ hkR dL_law_899 ?_
  refine gl_comm ?_
  refine gl_istore (L2 := [(5, .int k1), (4, .int x4), (3, .ref oa), (2, .ref (adR 0)), (1, .ref (adC 0)), (0, .ref b)]) hC (by decide) rfl dL_law_902 ?_
  refine gc_aload_n hC 3 rfl rfl dL_law_904 ?_
  obtain ⟨v5, M6, e7, h⟩ := gq_b_i h
  refine gl_Vi (q := 0) (as := []) hC (t_X10_open N  _ _ _ e7) mV_X10_open wm_L_147 obR_0 rfl rfl (Nat.le_of_ble_eq_true rfl) ⟨by decide, by decide⟩ hkR dL_law_905 ?_
  refine gl_istore (L2 := [(6, .int v5), (5, .int k1), (4, .int x4), (3, .ref oa), (2, .ref (adR 0)), (1, .ref (adC 0)), (0, .ref b)]) hC (by decide) rfl dL_law_908 ?_
  refine gc_aload_n hC 4 rfl rfl dL_law_910 ?_
  obtain ⟨v8, M9, e10, h⟩ := gq_b_i h
  refine gl_Vi (q := 0) (as := []) hC (t_X10_thrown N  _ _ _ e10) mV_X10_thrown wm_L_111 obR_0 rfl rfl (Nat.le_of_ble_eq_true rfl) ⟨by decide, by decide⟩ hkR dL_law_911 ?_
  refine gl_iload hC 1 rfl dL_law_914 ?_
  refine gl_icmp_eq (tgt := 921) hC (by decide) dL_law_916 (fun c11 => ?_) (fun c11 => ?_)
  · replace h := gq_t c11 h
    refine gl_iload hC 1 rfl dL_law_921 ?_
    refine gl_if_ne (tgt := 938) hC (by decide) dL_law_923 (fun c12 => ?_) (fun c12 => ?_)
    · replace h := gq_f c12 h
      refine gl_goto (tgt := 2100) hC (by decide) dL_law_938 ?_
      cases h
      refine gl_weak [2, 3, 4, 5, 6] rfl ?_
      exact hk
    · replace h := gq_t c12 h
      refine gc_aload_n hC 3 rfl rfl dL_law_926 ?_
      refine gc_iconst (v := 0) hC (by decide) dL_law_927 ?_
      refine gl_lald hC hKL dL_law_928 ?_
      refine gc_cast (ws2 := ((gl_out cL oa o4 :: gq_ws cI cZ adC C2 0 mtC) ++ gq_ws cI cZ adR M9 0 mtR)) ?_ rfl rfl rfl rfl rfl rfl
      refine gl_iload hC 0 rfl dL_law_929 ?_
      refine gl_i2l hC dL_law_931 ?_
      refine gl_lcmp hC dL_law_932 ?_
      refine gl_if_eq (tgt := 938) hC (by decide) dL_law_933 (fun c13 => ?_) (fun c13 => ?_)
      · replace h := gq_t c13 h
        refine gl_goto (tgt := 2100) hC (by decide) dL_law_938 ?_
        cases h
        refine gl_weak [2, 3, 4, 5, 6] rfl ?_
        exact hk
      · replace h := gq_f c13 h
        refine gc_iconst (v := 0) hC (by decide) dL_law_936 ?_
        cases h
  · replace h := gq_f c11 h
    refine gc_iconst (v := 0) hC (by decide) dL_law_919 ?_
    cases h
def fl_10 (N : Nat) (p1 : Int32) (p2 : Int32) (p3 : Int32) (p4 : Int32) (p5 : Int32) (p6 : Int32) (C R : gq_M) (ov : Int64) : Option (gq_M × gq_M × Int64) := gq_h (fh_L_end N  C ov) fun k1 o4 C2 => gq_b (f_X10_end N  R) fun v5 M6 => gq_b (f_X10_thrown N  M6) fun v8 M9 => if v8 = k1 then (if k1 = 0 then (if (lg_cmp o4 (v5 : Int32).toInt64) = 0 then (some (C2, M9, o4)) else (none)) else (some (C2, M9, o4))) else (none)
set_option maxHeartbeats 4000000 in
set_option maxRecDepth 20000 in
theorem q_law_10 (hl9 : l.stackTraces = false) (hC : gc_C p s m args meth c D A cI cZ RL cL_law 7) (hKL : gl_K D cI cZ cL s) (hZ : gq_Z A s) (hN : gl_N s) (hX : va_X b Ln xs s s.heap) (hbl : b < s.heap.size) (hbA : ¬ A b) (hx1 : vp_in (x4 + 1) Ln) (hx2 : vp_in (x4 + 2) Ln) (hx3 : vp_in (x4 + 3) Ln) (hx4 : vp_in (x4 + 4) Ln) (hx5 : vp_in (x4 + 5) Ln) (hx6 : vp_in (x4 + 6) Ln) (hkR : kc + 1 ≤ room_1.cells ∧ ks + 6 ≤ room_1.slots) (N : Nat) {C R C9 R9 : gq_M} {ov ov9 : Int64} (h : fl_10 N (xs (x4 + 1).toNatClampNeg) (xs (x4 + 2).toNatClampNeg) (xs (x4 + 3).toNatClampNeg) (xs (x4 + 4).toNatClampNeg) (xs (x4 + 5).toNatClampNeg) (xs (x4 + 6).toNatClampNeg) C R ov = some (C9, R9, ov9)) (hk : gc_W p l e room_1 s m args below meth c D A 7 Q ((gl_out cL oa ov9 :: gq_ws cI cZ adC C9 0 mtC) ++ gq_ws cI cZ adR R9 0 mtR) 2100 [(4, .int x4), (3, .ref oa), (2, .ref (adR 0)), (1, .ref (adC 0)), (0, .ref b)] [] (kc + 1) (ks + 6)) : gc_W p l e room_1 s m args below meth c D A 7 Q ((gl_out cL oa ov :: gq_ws cI cZ adC C 0 mtC) ++ gq_ws cI cZ adR R 0 mtR) 941 [(4, .int x4), (3, .ref oa), (2, .ref (adR 0)), (1, .ref (adC 0)), (0, .ref b)] [] kc ks := by
  unfold fl_10 at h
  refine gc_aload_n hC 3 rfl rfl dL_law_941 ?_
  refine gc_aload_n hC 1 rfl rfl dL_law_942 ?_
  obtain ⟨k1, o4, C2, e3, h⟩ := gq_h_i h
  refine gl_comm ?_
  refine gl_H (as := [.ref (adC 0), .ref oa]) hC hKL hZ hN (h_L_end hl9 N _  _ _ _ _ _ e3) (by show oa :: _ = oa :: _; rw [gq_ws_fst 0 mtC]) mH_L_end wm_L_148 rfl rfl (Nat.le_of_ble_eq_true rfl) ⟨by decide, by decide⟩ hkR dL_law_943 ?_
  refine gl_comm ?_
  refine gl_istore (L2 := [(5, .int k1), (4, .int x4), (3, .ref oa), (2, .ref (adR 0)), (1, .ref (adC 0)), (0, .ref b)]) hC (by decide) rfl dL_law_946 ?_
  refine gc_aload_n hC 3 rfl rfl dL_law_948 ?_
  obtain ⟨v5, M6, e7, h⟩ := gq_b_i h
  refine gl_Vi (q := 0) (as := []) hC (t_X10_end N  _ _ _ e7) mV_X10_end wm_L_150 obR_0 rfl rfl (Nat.le_of_ble_eq_true rfl) ⟨by decide, by decide⟩ hkR dL_law_949 ?_
  refine gl_istore (L2 := [(6, .int v5), (5, .int k1), (4, .int x4), (3, .ref oa), (2, .ref (adR 0)), (1, .ref (adC 0)), (0, .ref b)]) hC (by decide) rfl dL_law_952 ?_
  refine gc_aload_n hC 4 rfl rfl dL_law_954 ?_
  obtain ⟨v8, M9, e10, h⟩ := gq_b_i h
  refine gl_Vi (q := 0) (as := []) hC (t_X10_thrown N  _ _ _ e10) mV_X10_thrown wm_L_111 obR_0 rfl rfl (Nat.le_of_ble_eq_true rfl) ⟨by decide, by decide⟩ hkR dL_law_955 ?_
  refine gl_iload hC 1 rfl dL_law_958 ?_
  refine gl_icmp_eq (tgt := 965) hC (by decide) dL_law_960 (fun c11 => ?_) (fun c11 => ?_)
  · replace h := gq_t c11 h
    refine gl_iload hC 1 rfl dL_law_965 ?_
    refine gl_if_ne (tgt := 982) hC (by decide) dL_law_967 (fun c12 => ?_) (fun c12 => ?_)
    · replace h := gq_f c12 h
      refine gl_goto (tgt := 2100) hC (by decide) dL_law_982 ?_
      cases h
      refine gl_weak [2, 3, 4, 5, 6] rfl ?_
      exact hk
    · replace h := gq_t c12 h
      refine gc_aload_n hC 3 rfl rfl dL_law_970 ?_
      refine gc_iconst (v := 0) hC (by decide) dL_law_971 ?_
      refine gl_lald hC hKL dL_law_972 ?_
      refine gc_cast (ws2 := ((gl_out cL oa o4 :: gq_ws cI cZ adC C2 0 mtC) ++ gq_ws cI cZ adR M9 0 mtR)) ?_ rfl rfl rfl rfl rfl rfl
      refine gl_iload hC 0 rfl dL_law_973 ?_
      refine gl_i2l hC dL_law_975 ?_
      refine gl_lcmp hC dL_law_976 ?_
      refine gl_if_eq (tgt := 982) hC (by decide) dL_law_977 (fun c13 => ?_) (fun c13 => ?_)
      · replace h := gq_t c13 h
        refine gl_goto (tgt := 2100) hC (by decide) dL_law_982 ?_
        cases h
        refine gl_weak [2, 3, 4, 5, 6] rfl ?_
        exact hk
      · replace h := gq_f c13 h
        refine gc_iconst (v := 0) hC (by decide) dL_law_980 ?_
        cases h
  · replace h := gq_f c11 h
    refine gc_iconst (v := 0) hC (by decide) dL_law_963 ?_
    cases h
def fl_11 (N : Nat) (p1 : Int32) (p2 : Int32) (p3 : Int32) (p4 : Int32) (p5 : Int32) (p6 : Int32) (C R : gq_M) (ov : Int64) : Option (gq_M × gq_M × Int64) := gq_h (fh_L_press N p1 p2 C ov) fun k1 o4 C2 => gq_b (f_X10_press N p1 p2 R) fun v5 M6 => gq_b (f_X10_thrown N  M6) fun v8 M9 => if v8 = k1 then (if k1 = 0 then (if (lg_cmp o4 (v5 : Int32).toInt64) = 0 then (some (C2, M9, o4)) else (none)) else (some (C2, M9, o4))) else (none)
set_option maxHeartbeats 4000000 in
set_option maxRecDepth 20000 in
theorem q_law_11 (hl9 : l.stackTraces = false) (hC : gc_C p s m args meth c D A cI cZ RL cL_law 7) (hKL : gl_K D cI cZ cL s) (hZ : gq_Z A s) (hN : gl_N s) (hX : va_X b Ln xs s s.heap) (hbl : b < s.heap.size) (hbA : ¬ A b) (hx1 : vp_in (x4 + 1) Ln) (hx2 : vp_in (x4 + 2) Ln) (hx3 : vp_in (x4 + 3) Ln) (hx4 : vp_in (x4 + 4) Ln) (hx5 : vp_in (x4 + 5) Ln) (hx6 : vp_in (x4 + 6) Ln) (hkR : kc + 1 ≤ room_1.cells ∧ ks + 6 ≤ room_1.slots) (N : Nat) {C R C9 R9 : gq_M} {ov ov9 : Int64} (h : fl_11 N (xs (x4 + 1).toNatClampNeg) (xs (x4 + 2).toNatClampNeg) (xs (x4 + 3).toNatClampNeg) (xs (x4 + 4).toNatClampNeg) (xs (x4 + 5).toNatClampNeg) (xs (x4 + 6).toNatClampNeg) C R ov = some (C9, R9, ov9)) (hk : gc_W p l e room_1 s m args below meth c D A 7 Q ((gl_out cL oa ov9 :: gq_ws cI cZ adC C9 0 mtC) ++ gq_ws cI cZ adR R9 0 mtR) 2100 [(4, .int x4), (3, .ref oa), (2, .ref (adR 0)), (1, .ref (adC 0)), (0, .ref b)] [] (kc + 1) (ks + 6)) : gc_W p l e room_1 s m args below meth c D A 7 Q ((gl_out cL oa ov :: gq_ws cI cZ adC C 0 mtC) ++ gq_ws cI cZ adR R 0 mtR) 985 [(4, .int x4), (3, .ref oa), (2, .ref (adR 0)), (1, .ref (adC 0)), (0, .ref b)] [] kc ks := by
  unfold fl_11 at h
  refine gc_aload_n hC 3 rfl rfl dL_law_985 ?_
  refine gc_aload_n hC 4 rfl rfl dL_law_986 ?_
  refine gl_iload hC 0 rfl dL_law_987 ?_
  refine gc_iconst (v := 1) hC (by decide) dL_law_989 ?_
  refine gl_iadd hC dL_law_990 ?_
  refine gl_sld hC hX hbl hbA hx1 dL_law_991 ?_
  refine gc_aload_n hC 4 rfl rfl dL_law_992 ?_
  refine gl_iload hC 0 rfl dL_law_993 ?_
  refine gc_iconst (v := 2) hC (by decide) dL_law_995 ?_
  refine gl_iadd hC dL_law_996 ?_
  refine gl_sld hC hX hbl hbA hx2 dL_law_997 ?_
  refine gc_aload_n hC 1 rfl rfl dL_law_998 ?_
  obtain ⟨k1, o4, C2, e3, h⟩ := gq_h_i h
  refine gl_comm ?_
  refine gl_H (as := [.ref (adC 0), .int (xs (x4 + 1).toNatClampNeg), .int (xs (x4 + 2).toNatClampNeg), .ref oa]) hC hKL hZ hN (h_L_press hl9 N _ _ _ _ _ _ _ _ e3) (by show oa :: _ = oa :: _; rw [gq_ws_fst 0 mtC]) mH_L_press wm_L_151 rfl rfl (Nat.le_of_ble_eq_true rfl) ⟨by decide, by decide⟩ hkR dL_law_999 ?_
  refine gl_comm ?_
  refine gl_istore (L2 := [(5, .int k1), (4, .int x4), (3, .ref oa), (2, .ref (adR 0)), (1, .ref (adC 0)), (0, .ref b)]) hC (by decide) rfl dL_law_1002 ?_
  refine gc_aload_n hC 3 rfl rfl dL_law_1004 ?_
  refine gc_aload_n hC 5 rfl rfl dL_law_1005 ?_
  refine gl_iload hC 1 rfl dL_law_1006 ?_
  refine gc_iconst (v := 1) hC (by decide) dL_law_1008 ?_
  refine gl_iadd hC dL_law_1009 ?_
  refine gl_sld hC hX hbl hbA hx1 dL_law_1010 ?_
  refine gc_aload_n hC 5 rfl rfl dL_law_1011 ?_
  refine gl_iload hC 1 rfl dL_law_1012 ?_
  refine gc_iconst (v := 2) hC (by decide) dL_law_1014 ?_
  refine gl_iadd hC dL_law_1015 ?_
  refine gl_sld hC hX hbl hbA hx2 dL_law_1016 ?_
  obtain ⟨v5, M6, e7, h⟩ := gq_b_i h
  refine gl_Vi (q := 0) (as := [.int (xs (x4 + 1).toNatClampNeg), .int (xs (x4 + 2).toNatClampNeg)]) hC (t_X10_press N _ _ _ _ _ e7) mV_X10_press wm_L_153 obR_0 rfl rfl (Nat.le_of_ble_eq_true rfl) ⟨by decide, by decide⟩ hkR dL_law_1017 ?_
  refine gl_istore (L2 := [(6, .int v5), (5, .int k1), (4, .int x4), (3, .ref oa), (2, .ref (adR 0)), (1, .ref (adC 0)), (0, .ref b)]) hC (by decide) rfl dL_law_1020 ?_
  refine gc_aload_n hC 4 rfl rfl dL_law_1022 ?_
  obtain ⟨v8, M9, e10, h⟩ := gq_b_i h
  refine gl_Vi (q := 0) (as := []) hC (t_X10_thrown N  _ _ _ e10) mV_X10_thrown wm_L_111 obR_0 rfl rfl (Nat.le_of_ble_eq_true rfl) ⟨by decide, by decide⟩ hkR dL_law_1023 ?_
  refine gl_iload hC 1 rfl dL_law_1026 ?_
  refine gl_icmp_eq (tgt := 1033) hC (by decide) dL_law_1028 (fun c11 => ?_) (fun c11 => ?_)
  · replace h := gq_t c11 h
    refine gl_iload hC 1 rfl dL_law_1033 ?_
    refine gl_if_ne (tgt := 1050) hC (by decide) dL_law_1035 (fun c12 => ?_) (fun c12 => ?_)
    · replace h := gq_f c12 h
      refine gl_goto (tgt := 2100) hC (by decide) dL_law_1050 ?_
      cases h
      refine gl_weak [2, 3, 4, 5, 6] rfl ?_
      exact hk
    · replace h := gq_t c12 h
      refine gc_aload_n hC 3 rfl rfl dL_law_1038 ?_
      refine gc_iconst (v := 0) hC (by decide) dL_law_1039 ?_
      refine gl_lald hC hKL dL_law_1040 ?_
      refine gc_cast (ws2 := ((gl_out cL oa o4 :: gq_ws cI cZ adC C2 0 mtC) ++ gq_ws cI cZ adR M9 0 mtR)) ?_ rfl rfl rfl rfl rfl rfl
      refine gl_iload hC 0 rfl dL_law_1041 ?_
      refine gl_i2l hC dL_law_1043 ?_
      refine gl_lcmp hC dL_law_1044 ?_
      refine gl_if_eq (tgt := 1050) hC (by decide) dL_law_1045 (fun c13 => ?_) (fun c13 => ?_)
      · replace h := gq_t c13 h
        refine gl_goto (tgt := 2100) hC (by decide) dL_law_1050 ?_
        cases h
        refine gl_weak [2, 3, 4, 5, 6] rfl ?_
        exact hk
      · replace h := gq_f c13 h
        refine gc_iconst (v := 0) hC (by decide) dL_law_1048 ?_
        cases h
  · replace h := gq_f c11 h
    refine gc_iconst (v := 0) hC (by decide) dL_law_1031 ?_
    cases h
def fl_12 (N : Nat) (p1 : Int32) (p2 : Int32) (p3 : Int32) (p4 : Int32) (p5 : Int32) (p6 : Int32) (C R : gq_M) (ov : Int64) : Option (gq_M × gq_M × Int64) := gq_h (fh_L_take N p1 p2 p3 C ov) fun k1 o4 C2 => gq_b (f_X10_take N p1 p2 p3 R) fun v5 M6 => gq_b (f_X10_thrown N  M6) fun v8 M9 => if v8 = k1 then (if k1 = 0 then (if (lg_cmp o4 (v5 : Int32).toInt64) = 0 then (some (C2, M9, o4)) else (none)) else (some (C2, M9, o4))) else (none)
set_option maxHeartbeats 4000000 in
set_option maxRecDepth 20000 in
theorem q_law_12 (hl9 : l.stackTraces = false) (hC : gc_C p s m args meth c D A cI cZ RL cL_law 7) (hKL : gl_K D cI cZ cL s) (hZ : gq_Z A s) (hN : gl_N s) (hX : va_X b Ln xs s s.heap) (hbl : b < s.heap.size) (hbA : ¬ A b) (hx1 : vp_in (x4 + 1) Ln) (hx2 : vp_in (x4 + 2) Ln) (hx3 : vp_in (x4 + 3) Ln) (hx4 : vp_in (x4 + 4) Ln) (hx5 : vp_in (x4 + 5) Ln) (hx6 : vp_in (x4 + 6) Ln) (hkR : kc + 1 ≤ room_1.cells ∧ ks + 6 ≤ room_1.slots) (N : Nat) {C R C9 R9 : gq_M} {ov ov9 : Int64} (h : fl_12 N (xs (x4 + 1).toNatClampNeg) (xs (x4 + 2).toNatClampNeg) (xs (x4 + 3).toNatClampNeg) (xs (x4 + 4).toNatClampNeg) (xs (x4 + 5).toNatClampNeg) (xs (x4 + 6).toNatClampNeg) C R ov = some (C9, R9, ov9)) (hk : gc_W p l e room_1 s m args below meth c D A 7 Q ((gl_out cL oa ov9 :: gq_ws cI cZ adC C9 0 mtC) ++ gq_ws cI cZ adR R9 0 mtR) 2100 [(4, .int x4), (3, .ref oa), (2, .ref (adR 0)), (1, .ref (adC 0)), (0, .ref b)] [] (kc + 1) (ks + 6)) : gc_W p l e room_1 s m args below meth c D A 7 Q ((gl_out cL oa ov :: gq_ws cI cZ adC C 0 mtC) ++ gq_ws cI cZ adR R 0 mtR) 1053 [(4, .int x4), (3, .ref oa), (2, .ref (adR 0)), (1, .ref (adC 0)), (0, .ref b)] [] kc ks := by
  unfold fl_12 at h
  refine gc_aload_n hC 3 rfl rfl dL_law_1053 ?_
  refine gc_aload_n hC 4 rfl rfl dL_law_1054 ?_
  refine gl_iload hC 0 rfl dL_law_1055 ?_
  refine gc_iconst (v := 1) hC (by decide) dL_law_1057 ?_
  refine gl_iadd hC dL_law_1058 ?_
  refine gl_sld hC hX hbl hbA hx1 dL_law_1059 ?_
  refine gc_aload_n hC 4 rfl rfl dL_law_1060 ?_
  refine gl_iload hC 0 rfl dL_law_1061 ?_
  refine gc_iconst (v := 2) hC (by decide) dL_law_1063 ?_
  refine gl_iadd hC dL_law_1064 ?_
  refine gl_sld hC hX hbl hbA hx2 dL_law_1065 ?_
  refine gc_aload_n hC 4 rfl rfl dL_law_1066 ?_
  refine gl_iload hC 0 rfl dL_law_1067 ?_
  refine gc_iconst (v := 3) hC (by decide) dL_law_1069 ?_
  refine gl_iadd hC dL_law_1070 ?_
  refine gl_sld hC hX hbl hbA hx3 dL_law_1071 ?_
  refine gc_aload_n hC 1 rfl rfl dL_law_1072 ?_
  obtain ⟨k1, o4, C2, e3, h⟩ := gq_h_i h
  refine gl_comm ?_
  refine gl_H (as := [.ref (adC 0), .int (xs (x4 + 1).toNatClampNeg), .int (xs (x4 + 2).toNatClampNeg), .int (xs (x4 + 3).toNatClampNeg), .ref oa]) hC hKL hZ hN (h_L_take hl9 N _ _ _ _ _ _ _ _ _ e3) (by show oa :: _ = oa :: _; rw [gq_ws_fst 0 mtC]) mH_L_take wm_L_154 rfl rfl (Nat.le_of_ble_eq_true rfl) ⟨by decide, by decide⟩ hkR dL_law_1073 ?_
  refine gl_comm ?_
  refine gl_istore (L2 := [(5, .int k1), (4, .int x4), (3, .ref oa), (2, .ref (adR 0)), (1, .ref (adC 0)), (0, .ref b)]) hC (by decide) rfl dL_law_1076 ?_
  refine gc_aload_n hC 3 rfl rfl dL_law_1078 ?_
  refine gc_aload_n hC 5 rfl rfl dL_law_1079 ?_
  refine gl_iload hC 1 rfl dL_law_1080 ?_
  refine gc_iconst (v := 1) hC (by decide) dL_law_1082 ?_
  refine gl_iadd hC dL_law_1083 ?_
  refine gl_sld hC hX hbl hbA hx1 dL_law_1084 ?_
  refine gc_aload_n hC 5 rfl rfl dL_law_1085 ?_
  refine gl_iload hC 1 rfl dL_law_1086 ?_
  refine gc_iconst (v := 2) hC (by decide) dL_law_1088 ?_
  refine gl_iadd hC dL_law_1089 ?_
  refine gl_sld hC hX hbl hbA hx2 dL_law_1090 ?_
  refine gc_aload_n hC 5 rfl rfl dL_law_1091 ?_
  refine gl_iload hC 1 rfl dL_law_1092 ?_
  refine gc_iconst (v := 3) hC (by decide) dL_law_1094 ?_
  refine gl_iadd hC dL_law_1095 ?_
  refine gl_sld hC hX hbl hbA hx3 dL_law_1096 ?_
  obtain ⟨v5, M6, e7, h⟩ := gq_b_i h
  refine gl_Vi (q := 0) (as := [.int (xs (x4 + 1).toNatClampNeg), .int (xs (x4 + 2).toNatClampNeg), .int (xs (x4 + 3).toNatClampNeg)]) hC (t_X10_take N _ _ _ _ _ _ e7) mV_X10_take wm_L_156 obR_0 rfl rfl (Nat.le_of_ble_eq_true rfl) ⟨by decide, by decide⟩ hkR dL_law_1097 ?_
  refine gl_istore (L2 := [(6, .int v5), (5, .int k1), (4, .int x4), (3, .ref oa), (2, .ref (adR 0)), (1, .ref (adC 0)), (0, .ref b)]) hC (by decide) rfl dL_law_1100 ?_
  refine gc_aload_n hC 4 rfl rfl dL_law_1102 ?_
  obtain ⟨v8, M9, e10, h⟩ := gq_b_i h
  refine gl_Vi (q := 0) (as := []) hC (t_X10_thrown N  _ _ _ e10) mV_X10_thrown wm_L_111 obR_0 rfl rfl (Nat.le_of_ble_eq_true rfl) ⟨by decide, by decide⟩ hkR dL_law_1103 ?_
  refine gl_iload hC 1 rfl dL_law_1106 ?_
  refine gl_icmp_eq (tgt := 1113) hC (by decide) dL_law_1108 (fun c11 => ?_) (fun c11 => ?_)
  · replace h := gq_t c11 h
    refine gl_iload hC 1 rfl dL_law_1113 ?_
    refine gl_if_ne (tgt := 1130) hC (by decide) dL_law_1115 (fun c12 => ?_) (fun c12 => ?_)
    · replace h := gq_f c12 h
      refine gl_goto (tgt := 2100) hC (by decide) dL_law_1130 ?_
      cases h
      refine gl_weak [2, 3, 4, 5, 6] rfl ?_
      exact hk
    · replace h := gq_t c12 h
      refine gc_aload_n hC 3 rfl rfl dL_law_1118 ?_
      refine gc_iconst (v := 0) hC (by decide) dL_law_1119 ?_
      refine gl_lald hC hKL dL_law_1120 ?_
      refine gc_cast (ws2 := ((gl_out cL oa o4 :: gq_ws cI cZ adC C2 0 mtC) ++ gq_ws cI cZ adR M9 0 mtR)) ?_ rfl rfl rfl rfl rfl rfl
      refine gl_iload hC 0 rfl dL_law_1121 ?_
      refine gl_i2l hC dL_law_1123 ?_
      refine gl_lcmp hC dL_law_1124 ?_
      refine gl_if_eq (tgt := 1130) hC (by decide) dL_law_1125 (fun c13 => ?_) (fun c13 => ?_)
      · replace h := gq_t c13 h
        refine gl_goto (tgt := 2100) hC (by decide) dL_law_1130 ?_
        cases h
        refine gl_weak [2, 3, 4, 5, 6] rfl ?_
        exact hk
      · replace h := gq_f c13 h
        refine gc_iconst (v := 0) hC (by decide) dL_law_1128 ?_
        cases h
  · replace h := gq_f c11 h
    refine gc_iconst (v := 0) hC (by decide) dL_law_1111 ?_
    cases h
def fl_13 (N : Nat) (p1 : Int32) (p2 : Int32) (p3 : Int32) (p4 : Int32) (p5 : Int32) (p6 : Int32) (C R : gq_M) (ov : Int64) : Option (gq_M × gq_M × Int64) := gq_h (fh_L_pass N p1 C ov) fun k1 o4 C2 => gq_b (f_X10_pass N p1 R) fun v5 M6 => gq_b (f_X10_thrown N  M6) fun v8 M9 => if v8 = k1 then (if k1 = 0 then (if (lg_cmp o4 (v5 : Int32).toInt64) = 0 then (some (C2, M9, o4)) else (none)) else (some (C2, M9, o4))) else (none)
set_option maxHeartbeats 4000000 in
set_option maxRecDepth 20000 in
theorem q_law_13 (hl9 : l.stackTraces = false) (hC : gc_C p s m args meth c D A cI cZ RL cL_law 7) (hKL : gl_K D cI cZ cL s) (hZ : gq_Z A s) (hN : gl_N s) (hX : va_X b Ln xs s s.heap) (hbl : b < s.heap.size) (hbA : ¬ A b) (hx1 : vp_in (x4 + 1) Ln) (hx2 : vp_in (x4 + 2) Ln) (hx3 : vp_in (x4 + 3) Ln) (hx4 : vp_in (x4 + 4) Ln) (hx5 : vp_in (x4 + 5) Ln) (hx6 : vp_in (x4 + 6) Ln) (hkR : kc + 1 ≤ room_1.cells ∧ ks + 6 ≤ room_1.slots) (N : Nat) {C R C9 R9 : gq_M} {ov ov9 : Int64} (h : fl_13 N (xs (x4 + 1).toNatClampNeg) (xs (x4 + 2).toNatClampNeg) (xs (x4 + 3).toNatClampNeg) (xs (x4 + 4).toNatClampNeg) (xs (x4 + 5).toNatClampNeg) (xs (x4 + 6).toNatClampNeg) C R ov = some (C9, R9, ov9)) (hk : gc_W p l e room_1 s m args below meth c D A 7 Q ((gl_out cL oa ov9 :: gq_ws cI cZ adC C9 0 mtC) ++ gq_ws cI cZ adR R9 0 mtR) 2100 [(4, .int x4), (3, .ref oa), (2, .ref (adR 0)), (1, .ref (adC 0)), (0, .ref b)] [] (kc + 1) (ks + 6)) : gc_W p l e room_1 s m args below meth c D A 7 Q ((gl_out cL oa ov :: gq_ws cI cZ adC C 0 mtC) ++ gq_ws cI cZ adR R 0 mtR) 1133 [(4, .int x4), (3, .ref oa), (2, .ref (adR 0)), (1, .ref (adC 0)), (0, .ref b)] [] kc ks := by
  unfold fl_13 at h
  refine gc_aload_n hC 3 rfl rfl dL_law_1133 ?_
  refine gc_aload_n hC 4 rfl rfl dL_law_1134 ?_
  refine gl_iload hC 0 rfl dL_law_1135 ?_
  refine gc_iconst (v := 1) hC (by decide) dL_law_1137 ?_
  refine gl_iadd hC dL_law_1138 ?_
  refine gl_sld hC hX hbl hbA hx1 dL_law_1139 ?_
  refine gc_aload_n hC 1 rfl rfl dL_law_1140 ?_
  obtain ⟨k1, o4, C2, e3, h⟩ := gq_h_i h
  refine gl_comm ?_
  refine gl_H (as := [.ref (adC 0), .int (xs (x4 + 1).toNatClampNeg), .ref oa]) hC hKL hZ hN (h_L_pass hl9 N _ _ _ _ _ _ _ e3) (by show oa :: _ = oa :: _; rw [gq_ws_fst 0 mtC]) mH_L_pass wm_L_157 rfl rfl (Nat.le_of_ble_eq_true rfl) ⟨by decide, by decide⟩ hkR dL_law_1141 ?_
  refine gl_comm ?_
  refine gl_istore (L2 := [(5, .int k1), (4, .int x4), (3, .ref oa), (2, .ref (adR 0)), (1, .ref (adC 0)), (0, .ref b)]) hC (by decide) rfl dL_law_1144 ?_
  refine gc_aload_n hC 3 rfl rfl dL_law_1146 ?_
  refine gc_aload_n hC 5 rfl rfl dL_law_1147 ?_
  refine gl_iload hC 1 rfl dL_law_1148 ?_
  refine gc_iconst (v := 1) hC (by decide) dL_law_1150 ?_
  refine gl_iadd hC dL_law_1151 ?_
  refine gl_sld hC hX hbl hbA hx1 dL_law_1152 ?_
  obtain ⟨v5, M6, e7, h⟩ := gq_b_i h
  refine gl_Vi (q := 0) (as := [.int (xs (x4 + 1).toNatClampNeg)]) hC (t_X10_pass N _ _ _ _ e7) mV_X10_pass wm_L_160 obR_0 rfl rfl (Nat.le_of_ble_eq_true rfl) ⟨by decide, by decide⟩ hkR dL_law_1153 ?_
  refine gl_istore (L2 := [(6, .int v5), (5, .int k1), (4, .int x4), (3, .ref oa), (2, .ref (adR 0)), (1, .ref (adC 0)), (0, .ref b)]) hC (by decide) rfl dL_law_1156 ?_
  refine gc_aload_n hC 4 rfl rfl dL_law_1158 ?_
  obtain ⟨v8, M9, e10, h⟩ := gq_b_i h
  refine gl_Vi (q := 0) (as := []) hC (t_X10_thrown N  _ _ _ e10) mV_X10_thrown wm_L_111 obR_0 rfl rfl (Nat.le_of_ble_eq_true rfl) ⟨by decide, by decide⟩ hkR dL_law_1159 ?_
  refine gl_iload hC 1 rfl dL_law_1162 ?_
  refine gl_icmp_eq (tgt := 1169) hC (by decide) dL_law_1164 (fun c11 => ?_) (fun c11 => ?_)
  · replace h := gq_t c11 h
    refine gl_iload hC 1 rfl dL_law_1169 ?_
    refine gl_if_ne (tgt := 1186) hC (by decide) dL_law_1171 (fun c12 => ?_) (fun c12 => ?_)
    · replace h := gq_f c12 h
      refine gl_goto (tgt := 2100) hC (by decide) dL_law_1186 ?_
      cases h
      refine gl_weak [2, 3, 4, 5, 6] rfl ?_
      exact hk
    · replace h := gq_t c12 h
      refine gc_aload_n hC 3 rfl rfl dL_law_1174 ?_
      refine gc_iconst (v := 0) hC (by decide) dL_law_1175 ?_
      refine gl_lald hC hKL dL_law_1176 ?_
      refine gc_cast (ws2 := ((gl_out cL oa o4 :: gq_ws cI cZ adC C2 0 mtC) ++ gq_ws cI cZ adR M9 0 mtR)) ?_ rfl rfl rfl rfl rfl rfl
      refine gl_iload hC 0 rfl dL_law_1177 ?_
      refine gl_i2l hC dL_law_1179 ?_
      refine gl_lcmp hC dL_law_1180 ?_
      refine gl_if_eq (tgt := 1186) hC (by decide) dL_law_1181 (fun c13 => ?_) (fun c13 => ?_)
      · replace h := gq_t c13 h
        refine gl_goto (tgt := 2100) hC (by decide) dL_law_1186 ?_
        cases h
        refine gl_weak [2, 3, 4, 5, 6] rfl ?_
        exact hk
      · replace h := gq_f c13 h
        refine gc_iconst (v := 0) hC (by decide) dL_law_1184 ?_
        cases h
  · replace h := gq_f c11 h
    refine gc_iconst (v := 0) hC (by decide) dL_law_1167 ?_
    cases h
def fl_14 (N : Nat) (p1 : Int32) (p2 : Int32) (p3 : Int32) (p4 : Int32) (p5 : Int32) (p6 : Int32) (C R : gq_M) (ov : Int64) : Option (gq_M × gq_M × Int64) := gq_h (fh_L_lorry N p1 p2 p3 C ov) fun k1 o4 C2 => gq_b (f_X10_lorry N p1 p2 p3 R) fun v5 M6 => gq_b (f_X10_thrown N  M6) fun v8 M9 => if v8 = k1 then (if k1 = 0 then (if (lg_cmp o4 (v5 : Int32).toInt64) = 0 then (some (C2, M9, o4)) else (none)) else (some (C2, M9, o4))) else (none)
set_option maxHeartbeats 4000000 in
set_option maxRecDepth 20000 in
theorem q_law_14 (hl9 : l.stackTraces = false) (hC : gc_C p s m args meth c D A cI cZ RL cL_law 7) (hKL : gl_K D cI cZ cL s) (hZ : gq_Z A s) (hN : gl_N s) (hX : va_X b Ln xs s s.heap) (hbl : b < s.heap.size) (hbA : ¬ A b) (hx1 : vp_in (x4 + 1) Ln) (hx2 : vp_in (x4 + 2) Ln) (hx3 : vp_in (x4 + 3) Ln) (hx4 : vp_in (x4 + 4) Ln) (hx5 : vp_in (x4 + 5) Ln) (hx6 : vp_in (x4 + 6) Ln) (hkR : kc + 1 ≤ room_1.cells ∧ ks + 6 ≤ room_1.slots) (N : Nat) {C R C9 R9 : gq_M} {ov ov9 : Int64} (h : fl_14 N (xs (x4 + 1).toNatClampNeg) (xs (x4 + 2).toNatClampNeg) (xs (x4 + 3).toNatClampNeg) (xs (x4 + 4).toNatClampNeg) (xs (x4 + 5).toNatClampNeg) (xs (x4 + 6).toNatClampNeg) C R ov = some (C9, R9, ov9)) (hk : gc_W p l e room_1 s m args below meth c D A 7 Q ((gl_out cL oa ov9 :: gq_ws cI cZ adC C9 0 mtC) ++ gq_ws cI cZ adR R9 0 mtR) 2100 [(4, .int x4), (3, .ref oa), (2, .ref (adR 0)), (1, .ref (adC 0)), (0, .ref b)] [] (kc + 1) (ks + 6)) : gc_W p l e room_1 s m args below meth c D A 7 Q ((gl_out cL oa ov :: gq_ws cI cZ adC C 0 mtC) ++ gq_ws cI cZ adR R 0 mtR) 1189 [(4, .int x4), (3, .ref oa), (2, .ref (adR 0)), (1, .ref (adC 0)), (0, .ref b)] [] kc ks := by
  unfold fl_14 at h
  refine gc_aload_n hC 3 rfl rfl dL_law_1189 ?_
  refine gc_aload_n hC 4 rfl rfl dL_law_1190 ?_
  refine gl_iload hC 0 rfl dL_law_1191 ?_
  refine gc_iconst (v := 1) hC (by decide) dL_law_1193 ?_
  refine gl_iadd hC dL_law_1194 ?_
  refine gl_sld hC hX hbl hbA hx1 dL_law_1195 ?_
  refine gc_aload_n hC 4 rfl rfl dL_law_1196 ?_
  refine gl_iload hC 0 rfl dL_law_1197 ?_
  refine gc_iconst (v := 2) hC (by decide) dL_law_1199 ?_
  refine gl_iadd hC dL_law_1200 ?_
  refine gl_sld hC hX hbl hbA hx2 dL_law_1201 ?_
  refine gc_aload_n hC 4 rfl rfl dL_law_1202 ?_
  refine gl_iload hC 0 rfl dL_law_1203 ?_
  refine gc_iconst (v := 3) hC (by decide) dL_law_1205 ?_
  refine gl_iadd hC dL_law_1206 ?_
  refine gl_sld hC hX hbl hbA hx3 dL_law_1207 ?_
  refine gc_aload_n hC 1 rfl rfl dL_law_1208 ?_
  obtain ⟨k1, o4, C2, e3, h⟩ := gq_h_i h
  refine gl_comm ?_
  refine gl_H (as := [.ref (adC 0), .int (xs (x4 + 1).toNatClampNeg), .int (xs (x4 + 2).toNatClampNeg), .int (xs (x4 + 3).toNatClampNeg), .ref oa]) hC hKL hZ hN (h_L_lorry hl9 N _ _ _ _ _ _ _ _ _ e3) (by show oa :: _ = oa :: _; rw [gq_ws_fst 0 mtC]) mH_L_lorry wm_L_161 rfl rfl (Nat.le_of_ble_eq_true rfl) ⟨by decide, by decide⟩ hkR dL_law_1209 ?_
  refine gl_comm ?_
  refine gl_istore (L2 := [(5, .int k1), (4, .int x4), (3, .ref oa), (2, .ref (adR 0)), (1, .ref (adC 0)), (0, .ref b)]) hC (by decide) rfl dL_law_1212 ?_
  refine gc_aload_n hC 3 rfl rfl dL_law_1214 ?_
  refine gc_aload_n hC 5 rfl rfl dL_law_1215 ?_
  refine gl_iload hC 1 rfl dL_law_1216 ?_
  refine gc_iconst (v := 1) hC (by decide) dL_law_1218 ?_
  refine gl_iadd hC dL_law_1219 ?_
  refine gl_sld hC hX hbl hbA hx1 dL_law_1220 ?_
  refine gc_aload_n hC 5 rfl rfl dL_law_1221 ?_
  refine gl_iload hC 1 rfl dL_law_1222 ?_
  refine gc_iconst (v := 2) hC (by decide) dL_law_1224 ?_
  refine gl_iadd hC dL_law_1225 ?_
  refine gl_sld hC hX hbl hbA hx2 dL_law_1226 ?_
  refine gc_aload_n hC 5 rfl rfl dL_law_1227 ?_
  refine gl_iload hC 1 rfl dL_law_1228 ?_
  refine gc_iconst (v := 3) hC (by decide) dL_law_1230 ?_
  refine gl_iadd hC dL_law_1231 ?_
  refine gl_sld hC hX hbl hbA hx3 dL_law_1232 ?_
  obtain ⟨v5, M6, e7, h⟩ := gq_b_i h
  refine gl_Vi (q := 0) (as := [.int (xs (x4 + 1).toNatClampNeg), .int (xs (x4 + 2).toNatClampNeg), .int (xs (x4 + 3).toNatClampNeg)]) hC (t_X10_lorry N _ _ _ _ _ _ e7) mV_X10_lorry wm_L_163 obR_0 rfl rfl (Nat.le_of_ble_eq_true rfl) ⟨by decide, by decide⟩ hkR dL_law_1233 ?_
  refine gl_istore (L2 := [(6, .int v5), (5, .int k1), (4, .int x4), (3, .ref oa), (2, .ref (adR 0)), (1, .ref (adC 0)), (0, .ref b)]) hC (by decide) rfl dL_law_1236 ?_
  refine gc_aload_n hC 4 rfl rfl dL_law_1238 ?_
  obtain ⟨v8, M9, e10, h⟩ := gq_b_i h
  refine gl_Vi (q := 0) (as := []) hC (t_X10_thrown N  _ _ _ e10) mV_X10_thrown wm_L_111 obR_0 rfl rfl (Nat.le_of_ble_eq_true rfl) ⟨by decide, by decide⟩ hkR dL_law_1239 ?_
  refine gl_iload hC 1 rfl dL_law_1242 ?_
  refine gl_icmp_eq (tgt := 1249) hC (by decide) dL_law_1244 (fun c11 => ?_) (fun c11 => ?_)
  · replace h := gq_t c11 h
    refine gl_iload hC 1 rfl dL_law_1249 ?_
    refine gl_if_ne (tgt := 1266) hC (by decide) dL_law_1251 (fun c12 => ?_) (fun c12 => ?_)
    · replace h := gq_f c12 h
      refine gl_goto (tgt := 2100) hC (by decide) dL_law_1266 ?_
      cases h
      refine gl_weak [2, 3, 4, 5, 6] rfl ?_
      exact hk
    · replace h := gq_t c12 h
      refine gc_aload_n hC 3 rfl rfl dL_law_1254 ?_
      refine gc_iconst (v := 0) hC (by decide) dL_law_1255 ?_
      refine gl_lald hC hKL dL_law_1256 ?_
      refine gc_cast (ws2 := ((gl_out cL oa o4 :: gq_ws cI cZ adC C2 0 mtC) ++ gq_ws cI cZ adR M9 0 mtR)) ?_ rfl rfl rfl rfl rfl rfl
      refine gl_iload hC 0 rfl dL_law_1257 ?_
      refine gl_i2l hC dL_law_1259 ?_
      refine gl_lcmp hC dL_law_1260 ?_
      refine gl_if_eq (tgt := 1266) hC (by decide) dL_law_1261 (fun c13 => ?_) (fun c13 => ?_)
      · replace h := gq_t c13 h
        refine gl_goto (tgt := 2100) hC (by decide) dL_law_1266 ?_
        cases h
        refine gl_weak [2, 3, 4, 5, 6] rfl ?_
        exact hk
      · replace h := gq_f c13 h
        refine gc_iconst (v := 0) hC (by decide) dL_law_1264 ?_
        cases h
  · replace h := gq_f c11 h
    refine gc_iconst (v := 0) hC (by decide) dL_law_1247 ?_
    cases h
def fl_15 (N : Nat) (p1 : Int32) (p2 : Int32) (p3 : Int32) (p4 : Int32) (p5 : Int32) (p6 : Int32) (C R : gq_M) (ov : Int64) : Option (gq_M × gq_M × Int64) := gq_h (fh_L_pay N p1 p2 C ov) fun k1 o4 C2 => gq_b (f_X10_pay N p1 p2 R) fun v5 M6 => gq_b (f_X10_thrown N  M6) fun v8 M9 => if v8 = k1 then (if k1 = 0 then (if (lg_cmp o4 (v5 : Int32).toInt64) = 0 then (some (C2, M9, o4)) else (none)) else (some (C2, M9, o4))) else (none)
set_option maxHeartbeats 4000000 in
set_option maxRecDepth 20000 in
theorem q_law_15 (hl9 : l.stackTraces = false) (hC : gc_C p s m args meth c D A cI cZ RL cL_law 7) (hKL : gl_K D cI cZ cL s) (hZ : gq_Z A s) (hN : gl_N s) (hX : va_X b Ln xs s s.heap) (hbl : b < s.heap.size) (hbA : ¬ A b) (hx1 : vp_in (x4 + 1) Ln) (hx2 : vp_in (x4 + 2) Ln) (hx3 : vp_in (x4 + 3) Ln) (hx4 : vp_in (x4 + 4) Ln) (hx5 : vp_in (x4 + 5) Ln) (hx6 : vp_in (x4 + 6) Ln) (hkR : kc + 1 ≤ room_1.cells ∧ ks + 6 ≤ room_1.slots) (N : Nat) {C R C9 R9 : gq_M} {ov ov9 : Int64} (h : fl_15 N (xs (x4 + 1).toNatClampNeg) (xs (x4 + 2).toNatClampNeg) (xs (x4 + 3).toNatClampNeg) (xs (x4 + 4).toNatClampNeg) (xs (x4 + 5).toNatClampNeg) (xs (x4 + 6).toNatClampNeg) C R ov = some (C9, R9, ov9)) (hk : gc_W p l e room_1 s m args below meth c D A 7 Q ((gl_out cL oa ov9 :: gq_ws cI cZ adC C9 0 mtC) ++ gq_ws cI cZ adR R9 0 mtR) 2100 [(4, .int x4), (3, .ref oa), (2, .ref (adR 0)), (1, .ref (adC 0)), (0, .ref b)] [] (kc + 1) (ks + 6)) : gc_W p l e room_1 s m args below meth c D A 7 Q ((gl_out cL oa ov :: gq_ws cI cZ adC C 0 mtC) ++ gq_ws cI cZ adR R 0 mtR) 1269 [(4, .int x4), (3, .ref oa), (2, .ref (adR 0)), (1, .ref (adC 0)), (0, .ref b)] [] kc ks := by
  unfold fl_15 at h
  refine gc_aload_n hC 3 rfl rfl dL_law_1269 ?_
  refine gc_aload_n hC 4 rfl rfl dL_law_1270 ?_
  refine gl_iload hC 0 rfl dL_law_1271 ?_
  refine gc_iconst (v := 1) hC (by decide) dL_law_1273 ?_
  refine gl_iadd hC dL_law_1274 ?_
  refine gl_sld hC hX hbl hbA hx1 dL_law_1275 ?_
  refine gc_aload_n hC 4 rfl rfl dL_law_1276 ?_
  refine gl_iload hC 0 rfl dL_law_1277 ?_
  refine gc_iconst (v := 2) hC (by decide) dL_law_1279 ?_
  refine gl_iadd hC dL_law_1280 ?_
  refine gl_sld hC hX hbl hbA hx2 dL_law_1281 ?_
  refine gc_aload_n hC 1 rfl rfl dL_law_1282 ?_
  obtain ⟨k1, o4, C2, e3, h⟩ := gq_h_i h
  refine gl_comm ?_
  refine gl_H (as := [.ref (adC 0), .int (xs (x4 + 1).toNatClampNeg), .int (xs (x4 + 2).toNatClampNeg), .ref oa]) hC hKL hZ hN (h_L_pay hl9 N _ _ _ _ _ _ _ _ e3) (by show oa :: _ = oa :: _; rw [gq_ws_fst 0 mtC]) mH_L_pay wm_L_164 rfl rfl (Nat.le_of_ble_eq_true rfl) ⟨by decide, by decide⟩ hkR dL_law_1283 ?_
  refine gl_comm ?_
  refine gl_istore (L2 := [(5, .int k1), (4, .int x4), (3, .ref oa), (2, .ref (adR 0)), (1, .ref (adC 0)), (0, .ref b)]) hC (by decide) rfl dL_law_1286 ?_
  refine gc_aload_n hC 3 rfl rfl dL_law_1288 ?_
  refine gc_aload_n hC 5 rfl rfl dL_law_1289 ?_
  refine gl_iload hC 1 rfl dL_law_1290 ?_
  refine gc_iconst (v := 1) hC (by decide) dL_law_1292 ?_
  refine gl_iadd hC dL_law_1293 ?_
  refine gl_sld hC hX hbl hbA hx1 dL_law_1294 ?_
  refine gc_aload_n hC 5 rfl rfl dL_law_1295 ?_
  refine gl_iload hC 1 rfl dL_law_1296 ?_
  refine gc_iconst (v := 2) hC (by decide) dL_law_1298 ?_
  refine gl_iadd hC dL_law_1299 ?_
  refine gl_sld hC hX hbl hbA hx2 dL_law_1300 ?_
  obtain ⟨v5, M6, e7, h⟩ := gq_b_i h
  refine gl_Vi (q := 0) (as := [.int (xs (x4 + 1).toNatClampNeg), .int (xs (x4 + 2).toNatClampNeg)]) hC (t_X10_pay N _ _ _ _ _ e7) mV_X10_pay wm_L_166 obR_0 rfl rfl (Nat.le_of_ble_eq_true rfl) ⟨by decide, by decide⟩ hkR dL_law_1301 ?_
  refine gl_istore (L2 := [(6, .int v5), (5, .int k1), (4, .int x4), (3, .ref oa), (2, .ref (adR 0)), (1, .ref (adC 0)), (0, .ref b)]) hC (by decide) rfl dL_law_1304 ?_
  refine gc_aload_n hC 4 rfl rfl dL_law_1306 ?_
  obtain ⟨v8, M9, e10, h⟩ := gq_b_i h
  refine gl_Vi (q := 0) (as := []) hC (t_X10_thrown N  _ _ _ e10) mV_X10_thrown wm_L_111 obR_0 rfl rfl (Nat.le_of_ble_eq_true rfl) ⟨by decide, by decide⟩ hkR dL_law_1307 ?_
  refine gl_iload hC 1 rfl dL_law_1310 ?_
  refine gl_icmp_eq (tgt := 1317) hC (by decide) dL_law_1312 (fun c11 => ?_) (fun c11 => ?_)
  · replace h := gq_t c11 h
    refine gl_iload hC 1 rfl dL_law_1317 ?_
    refine gl_if_ne (tgt := 1334) hC (by decide) dL_law_1319 (fun c12 => ?_) (fun c12 => ?_)
    · replace h := gq_f c12 h
      refine gl_goto (tgt := 2100) hC (by decide) dL_law_1334 ?_
      cases h
      refine gl_weak [2, 3, 4, 5, 6] rfl ?_
      exact hk
    · replace h := gq_t c12 h
      refine gc_aload_n hC 3 rfl rfl dL_law_1322 ?_
      refine gc_iconst (v := 0) hC (by decide) dL_law_1323 ?_
      refine gl_lald hC hKL dL_law_1324 ?_
      refine gc_cast (ws2 := ((gl_out cL oa o4 :: gq_ws cI cZ adC C2 0 mtC) ++ gq_ws cI cZ adR M9 0 mtR)) ?_ rfl rfl rfl rfl rfl rfl
      refine gl_iload hC 0 rfl dL_law_1325 ?_
      refine gl_i2l hC dL_law_1327 ?_
      refine gl_lcmp hC dL_law_1328 ?_
      refine gl_if_eq (tgt := 1334) hC (by decide) dL_law_1329 (fun c13 => ?_) (fun c13 => ?_)
      · replace h := gq_t c13 h
        refine gl_goto (tgt := 2100) hC (by decide) dL_law_1334 ?_
        cases h
        refine gl_weak [2, 3, 4, 5, 6] rfl ?_
        exact hk
      · replace h := gq_f c13 h
        refine gc_iconst (v := 0) hC (by decide) dL_law_1332 ?_
        cases h
  · replace h := gq_f c11 h
    refine gc_iconst (v := 0) hC (by decide) dL_law_1315 ?_
    cases h
def fl_16 (N : Nat) (p1 : Int32) (p2 : Int32) (p3 : Int32) (p4 : Int32) (p5 : Int32) (p6 : Int32) (C R : gq_M) (ov : Int64) : Option (gq_M × gq_M × Int64) := gq_h (fh_L_claim N p1 p2 C ov) fun k1 o4 C2 => gq_b (f_X10_claim N p1 p2 R) fun v5 M6 => gq_b (f_X10_thrown N  M6) fun v8 M9 => if v8 = k1 then (if k1 = 0 then (if (lg_cmp o4 (v5 : Int32).toInt64) = 0 then (some (C2, M9, o4)) else (none)) else (some (C2, M9, o4))) else (none)
set_option maxHeartbeats 4000000 in
set_option maxRecDepth 20000 in
theorem q_law_16 (hl9 : l.stackTraces = false) (hC : gc_C p s m args meth c D A cI cZ RL cL_law 7) (hKL : gl_K D cI cZ cL s) (hZ : gq_Z A s) (hN : gl_N s) (hX : va_X b Ln xs s s.heap) (hbl : b < s.heap.size) (hbA : ¬ A b) (hx1 : vp_in (x4 + 1) Ln) (hx2 : vp_in (x4 + 2) Ln) (hx3 : vp_in (x4 + 3) Ln) (hx4 : vp_in (x4 + 4) Ln) (hx5 : vp_in (x4 + 5) Ln) (hx6 : vp_in (x4 + 6) Ln) (hkR : kc + 1 ≤ room_1.cells ∧ ks + 6 ≤ room_1.slots) (N : Nat) {C R C9 R9 : gq_M} {ov ov9 : Int64} (h : fl_16 N (xs (x4 + 1).toNatClampNeg) (xs (x4 + 2).toNatClampNeg) (xs (x4 + 3).toNatClampNeg) (xs (x4 + 4).toNatClampNeg) (xs (x4 + 5).toNatClampNeg) (xs (x4 + 6).toNatClampNeg) C R ov = some (C9, R9, ov9)) (hk : gc_W p l e room_1 s m args below meth c D A 7 Q ((gl_out cL oa ov9 :: gq_ws cI cZ adC C9 0 mtC) ++ gq_ws cI cZ adR R9 0 mtR) 2100 [(4, .int x4), (3, .ref oa), (2, .ref (adR 0)), (1, .ref (adC 0)), (0, .ref b)] [] (kc + 1) (ks + 6)) : gc_W p l e room_1 s m args below meth c D A 7 Q ((gl_out cL oa ov :: gq_ws cI cZ adC C 0 mtC) ++ gq_ws cI cZ adR R 0 mtR) 1337 [(4, .int x4), (3, .ref oa), (2, .ref (adR 0)), (1, .ref (adC 0)), (0, .ref b)] [] kc ks := by
  unfold fl_16 at h
  refine gc_aload_n hC 3 rfl rfl dL_law_1337 ?_
  refine gc_aload_n hC 4 rfl rfl dL_law_1338 ?_
  refine gl_iload hC 0 rfl dL_law_1339 ?_
  refine gc_iconst (v := 1) hC (by decide) dL_law_1341 ?_
  refine gl_iadd hC dL_law_1342 ?_
  refine gl_sld hC hX hbl hbA hx1 dL_law_1343 ?_
  refine gc_aload_n hC 4 rfl rfl dL_law_1344 ?_
  refine gl_iload hC 0 rfl dL_law_1345 ?_
  refine gc_iconst (v := 2) hC (by decide) dL_law_1347 ?_
  refine gl_iadd hC dL_law_1348 ?_
  refine gl_sld hC hX hbl hbA hx2 dL_law_1349 ?_
  refine gc_aload_n hC 1 rfl rfl dL_law_1350 ?_
  obtain ⟨k1, o4, C2, e3, h⟩ := gq_h_i h
  refine gl_comm ?_
  refine gl_H (as := [.ref (adC 0), .int (xs (x4 + 1).toNatClampNeg), .int (xs (x4 + 2).toNatClampNeg), .ref oa]) hC hKL hZ hN (h_L_claim hl9 N _ _ _ _ _ _ _ _ e3) (by show oa :: _ = oa :: _; rw [gq_ws_fst 0 mtC]) mH_L_claim wm_L_167 rfl rfl (Nat.le_of_ble_eq_true rfl) ⟨by decide, by decide⟩ hkR dL_law_1351 ?_
  refine gl_comm ?_
  refine gl_istore (L2 := [(5, .int k1), (4, .int x4), (3, .ref oa), (2, .ref (adR 0)), (1, .ref (adC 0)), (0, .ref b)]) hC (by decide) rfl dL_law_1354 ?_
  refine gc_aload_n hC 3 rfl rfl dL_law_1356 ?_
  refine gc_aload_n hC 5 rfl rfl dL_law_1357 ?_
  refine gl_iload hC 1 rfl dL_law_1358 ?_
  refine gc_iconst (v := 1) hC (by decide) dL_law_1360 ?_
  refine gl_iadd hC dL_law_1361 ?_
  refine gl_sld hC hX hbl hbA hx1 dL_law_1362 ?_
  refine gc_aload_n hC 5 rfl rfl dL_law_1363 ?_
  refine gl_iload hC 1 rfl dL_law_1364 ?_
  refine gc_iconst (v := 2) hC (by decide) dL_law_1366 ?_
  refine gl_iadd hC dL_law_1367 ?_
  refine gl_sld hC hX hbl hbA hx2 dL_law_1368 ?_
  obtain ⟨v5, M6, e7, h⟩ := gq_b_i h
  refine gl_Vi (q := 0) (as := [.int (xs (x4 + 1).toNatClampNeg), .int (xs (x4 + 2).toNatClampNeg)]) hC (t_X10_claim N _ _ _ _ _ e7) mV_X10_claim wm_L_169 obR_0 rfl rfl (Nat.le_of_ble_eq_true rfl) ⟨by decide, by decide⟩ hkR dL_law_1369 ?_
  refine gl_istore (L2 := [(6, .int v5), (5, .int k1), (4, .int x4), (3, .ref oa), (2, .ref (adR 0)), (1, .ref (adC 0)), (0, .ref b)]) hC (by decide) rfl dL_law_1372 ?_
  refine gc_aload_n hC 4 rfl rfl dL_law_1374 ?_
  obtain ⟨v8, M9, e10, h⟩ := gq_b_i h
  refine gl_Vi (q := 0) (as := []) hC (t_X10_thrown N  _ _ _ e10) mV_X10_thrown wm_L_111 obR_0 rfl rfl (Nat.le_of_ble_eq_true rfl) ⟨by decide, by decide⟩ hkR dL_law_1375 ?_
  refine gl_iload hC 1 rfl dL_law_1378 ?_
  refine gl_icmp_eq (tgt := 1385) hC (by decide) dL_law_1380 (fun c11 => ?_) (fun c11 => ?_)
  · replace h := gq_t c11 h
    refine gl_iload hC 1 rfl dL_law_1385 ?_
    refine gl_if_ne (tgt := 1402) hC (by decide) dL_law_1387 (fun c12 => ?_) (fun c12 => ?_)
    · replace h := gq_f c12 h
      refine gl_goto (tgt := 2100) hC (by decide) dL_law_1402 ?_
      cases h
      refine gl_weak [2, 3, 4, 5, 6] rfl ?_
      exact hk
    · replace h := gq_t c12 h
      refine gc_aload_n hC 3 rfl rfl dL_law_1390 ?_
      refine gc_iconst (v := 0) hC (by decide) dL_law_1391 ?_
      refine gl_lald hC hKL dL_law_1392 ?_
      refine gc_cast (ws2 := ((gl_out cL oa o4 :: gq_ws cI cZ adC C2 0 mtC) ++ gq_ws cI cZ adR M9 0 mtR)) ?_ rfl rfl rfl rfl rfl rfl
      refine gl_iload hC 0 rfl dL_law_1393 ?_
      refine gl_i2l hC dL_law_1395 ?_
      refine gl_lcmp hC dL_law_1396 ?_
      refine gl_if_eq (tgt := 1402) hC (by decide) dL_law_1397 (fun c13 => ?_) (fun c13 => ?_)
      · replace h := gq_t c13 h
        refine gl_goto (tgt := 2100) hC (by decide) dL_law_1402 ?_
        cases h
        refine gl_weak [2, 3, 4, 5, 6] rfl ?_
        exact hk
      · replace h := gq_f c13 h
        refine gc_iconst (v := 0) hC (by decide) dL_law_1400 ?_
        cases h
  · replace h := gq_f c11 h
    refine gc_iconst (v := 0) hC (by decide) dL_law_1383 ?_
    cases h
def fl_17 (N : Nat) (p1 : Int32) (p2 : Int32) (p3 : Int32) (p4 : Int32) (p5 : Int32) (p6 : Int32) (C R : gq_M) (ov : Int64) : Option (gq_M × gq_M × Int64) := gq_h (fh_L_settle N p1 p2 p3 C ov) fun k1 o4 C2 => gq_b (f_X10_settle N p1 p2 p3 R) fun v5 M6 => gq_b (f_X10_thrown N  M6) fun v8 M9 => if v8 = k1 then (if k1 = 0 then (if (lg_cmp o4 (v5 : Int32).toInt64) = 0 then (some (C2, M9, o4)) else (none)) else (some (C2, M9, o4))) else (none)
set_option maxHeartbeats 4000000 in
set_option maxRecDepth 20000 in
theorem q_law_17 (hl9 : l.stackTraces = false) (hC : gc_C p s m args meth c D A cI cZ RL cL_law 7) (hKL : gl_K D cI cZ cL s) (hZ : gq_Z A s) (hN : gl_N s) (hX : va_X b Ln xs s s.heap) (hbl : b < s.heap.size) (hbA : ¬ A b) (hx1 : vp_in (x4 + 1) Ln) (hx2 : vp_in (x4 + 2) Ln) (hx3 : vp_in (x4 + 3) Ln) (hx4 : vp_in (x4 + 4) Ln) (hx5 : vp_in (x4 + 5) Ln) (hx6 : vp_in (x4 + 6) Ln) (hkR : kc + 1 ≤ room_1.cells ∧ ks + 6 ≤ room_1.slots) (N : Nat) {C R C9 R9 : gq_M} {ov ov9 : Int64} (h : fl_17 N (xs (x4 + 1).toNatClampNeg) (xs (x4 + 2).toNatClampNeg) (xs (x4 + 3).toNatClampNeg) (xs (x4 + 4).toNatClampNeg) (xs (x4 + 5).toNatClampNeg) (xs (x4 + 6).toNatClampNeg) C R ov = some (C9, R9, ov9)) (hk : gc_W p l e room_1 s m args below meth c D A 7 Q ((gl_out cL oa ov9 :: gq_ws cI cZ adC C9 0 mtC) ++ gq_ws cI cZ adR R9 0 mtR) 2100 [(4, .int x4), (3, .ref oa), (2, .ref (adR 0)), (1, .ref (adC 0)), (0, .ref b)] [] (kc + 1) (ks + 6)) : gc_W p l e room_1 s m args below meth c D A 7 Q ((gl_out cL oa ov :: gq_ws cI cZ adC C 0 mtC) ++ gq_ws cI cZ adR R 0 mtR) 1405 [(4, .int x4), (3, .ref oa), (2, .ref (adR 0)), (1, .ref (adC 0)), (0, .ref b)] [] kc ks := by
  unfold fl_17 at h
  refine gc_aload_n hC 3 rfl rfl dL_law_1405 ?_
  refine gc_aload_n hC 4 rfl rfl dL_law_1406 ?_
  refine gl_iload hC 0 rfl dL_law_1407 ?_
  refine gc_iconst (v := 1) hC (by decide) dL_law_1409 ?_
  refine gl_iadd hC dL_law_1410 ?_
  refine gl_sld hC hX hbl hbA hx1 dL_law_1411 ?_
  refine gc_aload_n hC 4 rfl rfl dL_law_1412 ?_
  refine gl_iload hC 0 rfl dL_law_1413 ?_
  refine gc_iconst (v := 2) hC (by decide) dL_law_1415 ?_
  refine gl_iadd hC dL_law_1416 ?_
  refine gl_sld hC hX hbl hbA hx2 dL_law_1417 ?_
  refine gc_aload_n hC 4 rfl rfl dL_law_1418 ?_
  refine gl_iload hC 0 rfl dL_law_1419 ?_
  refine gc_iconst (v := 3) hC (by decide) dL_law_1421 ?_
  refine gl_iadd hC dL_law_1422 ?_
  refine gl_sld hC hX hbl hbA hx3 dL_law_1423 ?_
  refine gc_aload_n hC 1 rfl rfl dL_law_1424 ?_
  obtain ⟨k1, o4, C2, e3, h⟩ := gq_h_i h
  refine gl_comm ?_
  refine gl_H (as := [.ref (adC 0), .int (xs (x4 + 1).toNatClampNeg), .int (xs (x4 + 2).toNatClampNeg), .int (xs (x4 + 3).toNatClampNeg), .ref oa]) hC hKL hZ hN (h_L_settle hl9 N _ _ _ _ _ _ _ _ _ e3) (by show oa :: _ = oa :: _; rw [gq_ws_fst 0 mtC]) mH_L_settle wm_L_170 rfl rfl (Nat.le_of_ble_eq_true rfl) ⟨by decide, by decide⟩ hkR dL_law_1425 ?_
  refine gl_comm ?_
  refine gl_istore (L2 := [(5, .int k1), (4, .int x4), (3, .ref oa), (2, .ref (adR 0)), (1, .ref (adC 0)), (0, .ref b)]) hC (by decide) rfl dL_law_1428 ?_
  refine gc_aload_n hC 3 rfl rfl dL_law_1430 ?_
  refine gc_aload_n hC 5 rfl rfl dL_law_1431 ?_
  refine gl_iload hC 1 rfl dL_law_1432 ?_
  refine gc_iconst (v := 1) hC (by decide) dL_law_1434 ?_
  refine gl_iadd hC dL_law_1435 ?_
  refine gl_sld hC hX hbl hbA hx1 dL_law_1436 ?_
  refine gc_aload_n hC 5 rfl rfl dL_law_1437 ?_
  refine gl_iload hC 1 rfl dL_law_1438 ?_
  refine gc_iconst (v := 2) hC (by decide) dL_law_1440 ?_
  refine gl_iadd hC dL_law_1441 ?_
  refine gl_sld hC hX hbl hbA hx2 dL_law_1442 ?_
  refine gc_aload_n hC 5 rfl rfl dL_law_1443 ?_
  refine gl_iload hC 1 rfl dL_law_1444 ?_
  refine gc_iconst (v := 3) hC (by decide) dL_law_1446 ?_
  refine gl_iadd hC dL_law_1447 ?_
  refine gl_sld hC hX hbl hbA hx3 dL_law_1448 ?_
  obtain ⟨v5, M6, e7, h⟩ := gq_b_i h
  refine gl_Vi (q := 0) (as := [.int (xs (x4 + 1).toNatClampNeg), .int (xs (x4 + 2).toNatClampNeg), .int (xs (x4 + 3).toNatClampNeg)]) hC (t_X10_settle N _ _ _ _ _ _ e7) mV_X10_settle wm_L_172 obR_0 rfl rfl (Nat.le_of_ble_eq_true rfl) ⟨by decide, by decide⟩ hkR dL_law_1449 ?_
  refine gl_istore (L2 := [(6, .int v5), (5, .int k1), (4, .int x4), (3, .ref oa), (2, .ref (adR 0)), (1, .ref (adC 0)), (0, .ref b)]) hC (by decide) rfl dL_law_1452 ?_
  refine gc_aload_n hC 4 rfl rfl dL_law_1454 ?_
  obtain ⟨v8, M9, e10, h⟩ := gq_b_i h
  refine gl_Vi (q := 0) (as := []) hC (t_X10_thrown N  _ _ _ e10) mV_X10_thrown wm_L_111 obR_0 rfl rfl (Nat.le_of_ble_eq_true rfl) ⟨by decide, by decide⟩ hkR dL_law_1455 ?_
  refine gl_iload hC 1 rfl dL_law_1458 ?_
  refine gl_icmp_eq (tgt := 1465) hC (by decide) dL_law_1460 (fun c11 => ?_) (fun c11 => ?_)
  · replace h := gq_t c11 h
    refine gl_iload hC 1 rfl dL_law_1465 ?_
    refine gl_if_ne (tgt := 1482) hC (by decide) dL_law_1467 (fun c12 => ?_) (fun c12 => ?_)
    · replace h := gq_f c12 h
      refine gl_goto (tgt := 2100) hC (by decide) dL_law_1482 ?_
      cases h
      refine gl_weak [2, 3, 4, 5, 6] rfl ?_
      exact hk
    · replace h := gq_t c12 h
      refine gc_aload_n hC 3 rfl rfl dL_law_1470 ?_
      refine gc_iconst (v := 0) hC (by decide) dL_law_1471 ?_
      refine gl_lald hC hKL dL_law_1472 ?_
      refine gc_cast (ws2 := ((gl_out cL oa o4 :: gq_ws cI cZ adC C2 0 mtC) ++ gq_ws cI cZ adR M9 0 mtR)) ?_ rfl rfl rfl rfl rfl rfl
      refine gl_iload hC 0 rfl dL_law_1473 ?_
      refine gl_i2l hC dL_law_1475 ?_
      refine gl_lcmp hC dL_law_1476 ?_
      refine gl_if_eq (tgt := 1482) hC (by decide) dL_law_1477 (fun c13 => ?_) (fun c13 => ?_)
      · replace h := gq_t c13 h
        refine gl_goto (tgt := 2100) hC (by decide) dL_law_1482 ?_
        cases h
        refine gl_weak [2, 3, 4, 5, 6] rfl ?_
        exact hk
      · replace h := gq_f c13 h
        refine gc_iconst (v := 0) hC (by decide) dL_law_1480 ?_
        cases h
  · replace h := gq_f c11 h
    refine gc_iconst (v := 0) hC (by decide) dL_law_1463 ?_
    cases h
def fl_18 (N : Nat) (p1 : Int32) (p2 : Int32) (p3 : Int32) (p4 : Int32) (p5 : Int32) (p6 : Int32) (C R : gq_M) (ov : Int64) : Option (gq_M × gq_M × Int64) := gq_b (f_X9_now N  C) fun v1 M2 => gq_b (f_X10_now N  R) fun v4 M5 => if v1 = v4 then (some (M2, M5, ov)) else (none)
set_option maxHeartbeats 4000000 in
set_option maxRecDepth 20000 in
theorem q_law_18 (hl9 : l.stackTraces = false) (hC : gc_C p s m args meth c D A cI cZ RL cL_law 7) (hKL : gl_K D cI cZ cL s) (hZ : gq_Z A s) (hN : gl_N s) (hX : va_X b Ln xs s s.heap) (hbl : b < s.heap.size) (hbA : ¬ A b) (hx1 : vp_in (x4 + 1) Ln) (hx2 : vp_in (x4 + 2) Ln) (hx3 : vp_in (x4 + 3) Ln) (hx4 : vp_in (x4 + 4) Ln) (hx5 : vp_in (x4 + 5) Ln) (hx6 : vp_in (x4 + 6) Ln) (hkR : kc + 1 ≤ room_1.cells ∧ ks + 6 ≤ room_1.slots) (N : Nat) {C R C9 R9 : gq_M} {ov ov9 : Int64} (h : fl_18 N (xs (x4 + 1).toNatClampNeg) (xs (x4 + 2).toNatClampNeg) (xs (x4 + 3).toNatClampNeg) (xs (x4 + 4).toNatClampNeg) (xs (x4 + 5).toNatClampNeg) (xs (x4 + 6).toNatClampNeg) C R ov = some (C9, R9, ov9)) (hk : gc_W p l e room_1 s m args below meth c D A 7 Q ((gl_out cL oa ov9 :: gq_ws cI cZ adC C9 0 mtC) ++ gq_ws cI cZ adR R9 0 mtR) 2100 [(4, .int x4), (3, .ref oa), (2, .ref (adR 0)), (1, .ref (adC 0)), (0, .ref b)] [] (kc + 1) (ks + 6)) : gc_W p l e room_1 s m args below meth c D A 7 Q ((gl_out cL oa ov :: gq_ws cI cZ adC C 0 mtC) ++ gq_ws cI cZ adR R 0 mtR) 1485 [(4, .int x4), (3, .ref oa), (2, .ref (adR 0)), (1, .ref (adC 0)), (0, .ref b)] [] kc ks := by
  unfold fl_18 at h
  refine gc_aload_n hC 3 rfl rfl dL_law_1485 ?_
  obtain ⟨v1, M2, e3, h⟩ := gq_b_i h
  refine gl_comm ?_
  refine gc_cast (ws2 := ((gq_ws cI cZ adR R 0 mtR ++ [gl_out cL oa ov]) ++ gq_ws cI cZ adC C 0 mtC)) ?_ rfl rfl rfl (by simp) rfl rfl
  refine gl_Vi (q := 0) (as := []) hC (t_X9_now N  _ _ _ e3) mV_X9_now wm_L_173 obC_0 rfl rfl (Nat.le_of_ble_eq_true rfl) ⟨by decide, by decide⟩ ⟨Nat.le_of_succ_le hkR.1, Nat.le_trans (Nat.le_add_right _ 6) hkR.2⟩ dL_law_1486 ?_
  refine gc_cast (ws2 := (gq_ws cI cZ adR R 0 mtR ++ (gl_out cL oa ov :: gq_ws cI cZ adC M2 0 mtC))) ?_ rfl rfl rfl (by simp) rfl rfl
  refine gl_comm ?_
  refine gc_aload_n hC 2 rfl rfl dL_law_1489 ?_
  obtain ⟨v4, M5, e6, h⟩ := gq_b_i h
  refine gl_Vi (q := 0) (as := []) hC (t_X10_now N  _ _ _ e6) mV_X10_now wm_L_176 obR_0 rfl rfl (Nat.le_of_ble_eq_true rfl) ⟨by decide, by decide⟩ ⟨Nat.le_of_succ_le hkR.1, Nat.le_trans (Nat.le_add_right _ 6) hkR.2⟩ dL_law_1490 ?_
  refine gl_icmp_eq (tgt := 2100) hC (by decide) dL_law_1493 (fun c7 => ?_) (fun c7 => ?_)
  · replace h := gq_t c7 h
    cases h
    refine gl_weak [0, 1, 2, 3, 4] rfl ?_
    refine gl_widen (kc2 := kc + 1) (ks2 := ks + 6) (by omega) (by omega) ?_
    exact hk
  · replace h := gq_f c7 h
    refine gc_iconst (v := 0) hC (by decide) dL_law_1496 ?_
    cases h
def fl_19 (N : Nat) (p1 : Int32) (p2 : Int32) (p3 : Int32) (p4 : Int32) (p5 : Int32) (p6 : Int32) (C R : gq_M) (ov : Int64) : Option (gq_M × gq_M × Int64) := gq_b (f_X9_day N  C) fun v1 M2 => gq_b (f_X10_day N  R) fun v4 M5 => if v1 = v4 then (some (M2, M5, ov)) else (none)
set_option maxHeartbeats 4000000 in
set_option maxRecDepth 20000 in
theorem q_law_19 (hl9 : l.stackTraces = false) (hC : gc_C p s m args meth c D A cI cZ RL cL_law 7) (hKL : gl_K D cI cZ cL s) (hZ : gq_Z A s) (hN : gl_N s) (hX : va_X b Ln xs s s.heap) (hbl : b < s.heap.size) (hbA : ¬ A b) (hx1 : vp_in (x4 + 1) Ln) (hx2 : vp_in (x4 + 2) Ln) (hx3 : vp_in (x4 + 3) Ln) (hx4 : vp_in (x4 + 4) Ln) (hx5 : vp_in (x4 + 5) Ln) (hx6 : vp_in (x4 + 6) Ln) (hkR : kc + 1 ≤ room_1.cells ∧ ks + 6 ≤ room_1.slots) (N : Nat) {C R C9 R9 : gq_M} {ov ov9 : Int64} (h : fl_19 N (xs (x4 + 1).toNatClampNeg) (xs (x4 + 2).toNatClampNeg) (xs (x4 + 3).toNatClampNeg) (xs (x4 + 4).toNatClampNeg) (xs (x4 + 5).toNatClampNeg) (xs (x4 + 6).toNatClampNeg) C R ov = some (C9, R9, ov9)) (hk : gc_W p l e room_1 s m args below meth c D A 7 Q ((gl_out cL oa ov9 :: gq_ws cI cZ adC C9 0 mtC) ++ gq_ws cI cZ adR R9 0 mtR) 2100 [(4, .int x4), (3, .ref oa), (2, .ref (adR 0)), (1, .ref (adC 0)), (0, .ref b)] [] (kc + 1) (ks + 6)) : gc_W p l e room_1 s m args below meth c D A 7 Q ((gl_out cL oa ov :: gq_ws cI cZ adC C 0 mtC) ++ gq_ws cI cZ adR R 0 mtR) 1498 [(4, .int x4), (3, .ref oa), (2, .ref (adR 0)), (1, .ref (adC 0)), (0, .ref b)] [] kc ks := by
  unfold fl_19 at h
  refine gc_aload_n hC 3 rfl rfl dL_law_1498 ?_
  obtain ⟨v1, M2, e3, h⟩ := gq_b_i h
  refine gl_comm ?_
  refine gc_cast (ws2 := ((gq_ws cI cZ adR R 0 mtR ++ [gl_out cL oa ov]) ++ gq_ws cI cZ adC C 0 mtC)) ?_ rfl rfl rfl (by simp) rfl rfl
  refine gl_Vi (q := 0) (as := []) hC (t_X9_day N  _ _ _ e3) mV_X9_day wm_L_177 obC_0 rfl rfl (Nat.le_of_ble_eq_true rfl) ⟨by decide, by decide⟩ ⟨Nat.le_of_succ_le hkR.1, Nat.le_trans (Nat.le_add_right _ 6) hkR.2⟩ dL_law_1499 ?_
  refine gc_cast (ws2 := (gq_ws cI cZ adR R 0 mtR ++ (gl_out cL oa ov :: gq_ws cI cZ adC M2 0 mtC))) ?_ rfl rfl rfl (by simp) rfl rfl
  refine gl_comm ?_
  refine gc_aload_n hC 2 rfl rfl dL_law_1502 ?_
  obtain ⟨v4, M5, e6, h⟩ := gq_b_i h
  refine gl_Vi (q := 0) (as := []) hC (t_X10_day N  _ _ _ e6) mV_X10_day wm_L_180 obR_0 rfl rfl (Nat.le_of_ble_eq_true rfl) ⟨by decide, by decide⟩ ⟨Nat.le_of_succ_le hkR.1, Nat.le_trans (Nat.le_add_right _ 6) hkR.2⟩ dL_law_1503 ?_
  refine gl_icmp_eq (tgt := 2100) hC (by decide) dL_law_1506 (fun c7 => ?_) (fun c7 => ?_)
  · replace h := gq_t c7 h
    cases h
    refine gl_weak [0, 1, 2, 3, 4] rfl ?_
    refine gl_widen (kc2 := kc + 1) (ks2 := ks + 6) (by omega) (by omega) ?_
    exact hk
  · replace h := gq_f c7 h
    refine gc_iconst (v := 0) hC (by decide) dL_law_1509 ?_
    cases h
def fl_20 (N : Nat) (p1 : Int32) (p2 : Int32) (p3 : Int32) (p4 : Int32) (p5 : Int32) (p6 : Int32) (C R : gq_M) (ov : Int64) : Option (gq_M × gq_M × Int64) := gq_b (f_X9_isOpen N  C) fun v1 M2 => gq_b (f_X10_isOpen N  R) fun v4 M5 => if v1 = v4 then (some (M2, M5, ov)) else (none)
set_option maxHeartbeats 4000000 in
set_option maxRecDepth 20000 in
theorem q_law_20 (hl9 : l.stackTraces = false) (hC : gc_C p s m args meth c D A cI cZ RL cL_law 7) (hKL : gl_K D cI cZ cL s) (hZ : gq_Z A s) (hN : gl_N s) (hX : va_X b Ln xs s s.heap) (hbl : b < s.heap.size) (hbA : ¬ A b) (hx1 : vp_in (x4 + 1) Ln) (hx2 : vp_in (x4 + 2) Ln) (hx3 : vp_in (x4 + 3) Ln) (hx4 : vp_in (x4 + 4) Ln) (hx5 : vp_in (x4 + 5) Ln) (hx6 : vp_in (x4 + 6) Ln) (hkR : kc + 1 ≤ room_1.cells ∧ ks + 6 ≤ room_1.slots) (N : Nat) {C R C9 R9 : gq_M} {ov ov9 : Int64} (h : fl_20 N (xs (x4 + 1).toNatClampNeg) (xs (x4 + 2).toNatClampNeg) (xs (x4 + 3).toNatClampNeg) (xs (x4 + 4).toNatClampNeg) (xs (x4 + 5).toNatClampNeg) (xs (x4 + 6).toNatClampNeg) C R ov = some (C9, R9, ov9)) (hk : gc_W p l e room_1 s m args below meth c D A 7 Q ((gl_out cL oa ov9 :: gq_ws cI cZ adC C9 0 mtC) ++ gq_ws cI cZ adR R9 0 mtR) 2100 [(4, .int x4), (3, .ref oa), (2, .ref (adR 0)), (1, .ref (adC 0)), (0, .ref b)] [] (kc + 1) (ks + 6)) : gc_W p l e room_1 s m args below meth c D A 7 Q ((gl_out cL oa ov :: gq_ws cI cZ adC C 0 mtC) ++ gq_ws cI cZ adR R 0 mtR) 1511 [(4, .int x4), (3, .ref oa), (2, .ref (adR 0)), (1, .ref (adC 0)), (0, .ref b)] [] kc ks := by
  unfold fl_20 at h
  refine gc_aload_n hC 3 rfl rfl dL_law_1511 ?_
  obtain ⟨v1, M2, e3, h⟩ := gq_b_i h
  refine gl_comm ?_
  refine gc_cast (ws2 := ((gq_ws cI cZ adR R 0 mtR ++ [gl_out cL oa ov]) ++ gq_ws cI cZ adC C 0 mtC)) ?_ rfl rfl rfl (by simp) rfl rfl
  refine gl_Vi (q := 0) (as := []) hC (t_X9_isOpen N  _ _ _ e3) mV_X9_isOpen wm_L_181 obC_0 rfl rfl (Nat.le_of_ble_eq_true rfl) ⟨by decide, by decide⟩ ⟨Nat.le_of_succ_le hkR.1, Nat.le_trans (Nat.le_add_right _ 6) hkR.2⟩ dL_law_1512 ?_
  refine gc_cast (ws2 := (gq_ws cI cZ adR R 0 mtR ++ (gl_out cL oa ov :: gq_ws cI cZ adC M2 0 mtC))) ?_ rfl rfl rfl (by simp) rfl rfl
  refine gl_comm ?_
  refine gc_aload_n hC 2 rfl rfl dL_law_1515 ?_
  obtain ⟨v4, M5, e6, h⟩ := gq_b_i h
  refine gl_Vi (q := 0) (as := []) hC (t_X10_isOpen N  _ _ _ e6) mV_X10_isOpen wm_L_185 obR_0 rfl rfl (Nat.le_of_ble_eq_true rfl) ⟨by decide, by decide⟩ ⟨Nat.le_of_succ_le hkR.1, Nat.le_trans (Nat.le_add_right _ 6) hkR.2⟩ dL_law_1516 ?_
  refine gl_icmp_eq (tgt := 2100) hC (by decide) dL_law_1519 (fun c7 => ?_) (fun c7 => ?_)
  · replace h := gq_t c7 h
    cases h
    refine gl_weak [0, 1, 2, 3, 4] rfl ?_
    refine gl_widen (kc2 := kc + 1) (ks2 := ks + 6) (by omega) (by omega) ?_
    exact hk
  · replace h := gq_f c7 h
    refine gc_iconst (v := 0) hC (by decide) dL_law_1522 ?_
    cases h
def fl_21 (N : Nat) (p1 : Int32) (p2 : Int32) (p3 : Int32) (p4 : Int32) (p5 : Int32) (p6 : Int32) (C R : gq_M) (ov : Int64) : Option (gq_M × gq_M × Int64) := gq_h (fh_L_told N p1 p2 C ov) fun k1 o4 C2 => gq_b (f_X10_told N p1 p2 R) fun v5 M6 => gq_b (f_X10_thrown N  M6) fun v8 M9 => if v8 = k1 then (if k1 = 0 then (if (lg_cmp o4 (v5 : Int32).toInt64) = 0 then (some (C2, M9, o4)) else (none)) else (some (C2, M9, o4))) else (none)
set_option maxHeartbeats 4000000 in
set_option maxRecDepth 20000 in
theorem q_law_21 (hl9 : l.stackTraces = false) (hC : gc_C p s m args meth c D A cI cZ RL cL_law 7) (hKL : gl_K D cI cZ cL s) (hZ : gq_Z A s) (hN : gl_N s) (hX : va_X b Ln xs s s.heap) (hbl : b < s.heap.size) (hbA : ¬ A b) (hx1 : vp_in (x4 + 1) Ln) (hx2 : vp_in (x4 + 2) Ln) (hx3 : vp_in (x4 + 3) Ln) (hx4 : vp_in (x4 + 4) Ln) (hx5 : vp_in (x4 + 5) Ln) (hx6 : vp_in (x4 + 6) Ln) (hkR : kc + 1 ≤ room_1.cells ∧ ks + 6 ≤ room_1.slots) (N : Nat) {C R C9 R9 : gq_M} {ov ov9 : Int64} (h : fl_21 N (xs (x4 + 1).toNatClampNeg) (xs (x4 + 2).toNatClampNeg) (xs (x4 + 3).toNatClampNeg) (xs (x4 + 4).toNatClampNeg) (xs (x4 + 5).toNatClampNeg) (xs (x4 + 6).toNatClampNeg) C R ov = some (C9, R9, ov9)) (hk : gc_W p l e room_1 s m args below meth c D A 7 Q ((gl_out cL oa ov9 :: gq_ws cI cZ adC C9 0 mtC) ++ gq_ws cI cZ adR R9 0 mtR) 2100 [(4, .int x4), (3, .ref oa), (2, .ref (adR 0)), (1, .ref (adC 0)), (0, .ref b)] [] (kc + 1) (ks + 6)) : gc_W p l e room_1 s m args below meth c D A 7 Q ((gl_out cL oa ov :: gq_ws cI cZ adC C 0 mtC) ++ gq_ws cI cZ adR R 0 mtR) 1524 [(4, .int x4), (3, .ref oa), (2, .ref (adR 0)), (1, .ref (adC 0)), (0, .ref b)] [] kc ks := by
  unfold fl_21 at h
  refine gc_aload_n hC 3 rfl rfl dL_law_1524 ?_
  refine gc_aload_n hC 4 rfl rfl dL_law_1525 ?_
  refine gl_iload hC 0 rfl dL_law_1526 ?_
  refine gc_iconst (v := 1) hC (by decide) dL_law_1528 ?_
  refine gl_iadd hC dL_law_1529 ?_
  refine gl_sld hC hX hbl hbA hx1 dL_law_1530 ?_
  refine gc_aload_n hC 4 rfl rfl dL_law_1531 ?_
  refine gl_iload hC 0 rfl dL_law_1532 ?_
  refine gc_iconst (v := 2) hC (by decide) dL_law_1534 ?_
  refine gl_iadd hC dL_law_1535 ?_
  refine gl_sld hC hX hbl hbA hx2 dL_law_1536 ?_
  refine gc_aload_n hC 1 rfl rfl dL_law_1537 ?_
  obtain ⟨k1, o4, C2, e3, h⟩ := gq_h_i h
  refine gl_comm ?_
  refine gl_H (as := [.ref (adC 0), .int (xs (x4 + 1).toNatClampNeg), .int (xs (x4 + 2).toNatClampNeg), .ref oa]) hC hKL hZ hN (h_L_told hl9 N _ _ _ _ _ _ _ _ e3) (by show oa :: _ = oa :: _; rw [gq_ws_fst 0 mtC]) mH_L_told wm_L_186 rfl rfl (Nat.le_of_ble_eq_true rfl) ⟨by decide, by decide⟩ hkR dL_law_1538 ?_
  refine gl_comm ?_
  refine gl_istore (L2 := [(5, .int k1), (4, .int x4), (3, .ref oa), (2, .ref (adR 0)), (1, .ref (adC 0)), (0, .ref b)]) hC (by decide) rfl dL_law_1541 ?_
  refine gc_aload_n hC 3 rfl rfl dL_law_1543 ?_
  refine gc_aload_n hC 5 rfl rfl dL_law_1544 ?_
  refine gl_iload hC 1 rfl dL_law_1545 ?_
  refine gc_iconst (v := 1) hC (by decide) dL_law_1547 ?_
  refine gl_iadd hC dL_law_1548 ?_
  refine gl_sld hC hX hbl hbA hx1 dL_law_1549 ?_
  refine gc_aload_n hC 5 rfl rfl dL_law_1550 ?_
  refine gl_iload hC 1 rfl dL_law_1551 ?_
  refine gc_iconst (v := 2) hC (by decide) dL_law_1553 ?_
  refine gl_iadd hC dL_law_1554 ?_
  refine gl_sld hC hX hbl hbA hx2 dL_law_1555 ?_
  obtain ⟨v5, M6, e7, h⟩ := gq_b_i h
  refine gl_Vi (q := 0) (as := [.int (xs (x4 + 1).toNatClampNeg), .int (xs (x4 + 2).toNatClampNeg)]) hC (t_X10_told N _ _ _ _ _ e7) mV_X10_told wm_L_188 obR_0 rfl rfl (Nat.le_of_ble_eq_true rfl) ⟨by decide, by decide⟩ hkR dL_law_1556 ?_
  refine gl_istore (L2 := [(6, .int v5), (5, .int k1), (4, .int x4), (3, .ref oa), (2, .ref (adR 0)), (1, .ref (adC 0)), (0, .ref b)]) hC (by decide) rfl dL_law_1559 ?_
  refine gc_aload_n hC 4 rfl rfl dL_law_1561 ?_
  obtain ⟨v8, M9, e10, h⟩ := gq_b_i h
  refine gl_Vi (q := 0) (as := []) hC (t_X10_thrown N  _ _ _ e10) mV_X10_thrown wm_L_111 obR_0 rfl rfl (Nat.le_of_ble_eq_true rfl) ⟨by decide, by decide⟩ hkR dL_law_1562 ?_
  refine gl_iload hC 1 rfl dL_law_1565 ?_
  refine gl_icmp_eq (tgt := 1572) hC (by decide) dL_law_1567 (fun c11 => ?_) (fun c11 => ?_)
  · replace h := gq_t c11 h
    refine gl_iload hC 1 rfl dL_law_1572 ?_
    refine gl_if_ne (tgt := 1589) hC (by decide) dL_law_1574 (fun c12 => ?_) (fun c12 => ?_)
    · replace h := gq_f c12 h
      refine gl_goto (tgt := 2100) hC (by decide) dL_law_1589 ?_
      cases h
      refine gl_weak [2, 3, 4, 5, 6] rfl ?_
      exact hk
    · replace h := gq_t c12 h
      refine gc_aload_n hC 3 rfl rfl dL_law_1577 ?_
      refine gc_iconst (v := 0) hC (by decide) dL_law_1578 ?_
      refine gl_lald hC hKL dL_law_1579 ?_
      refine gc_cast (ws2 := ((gl_out cL oa o4 :: gq_ws cI cZ adC C2 0 mtC) ++ gq_ws cI cZ adR M9 0 mtR)) ?_ rfl rfl rfl rfl rfl rfl
      refine gl_iload hC 0 rfl dL_law_1580 ?_
      refine gl_i2l hC dL_law_1582 ?_
      refine gl_lcmp hC dL_law_1583 ?_
      refine gl_if_eq (tgt := 1589) hC (by decide) dL_law_1584 (fun c13 => ?_) (fun c13 => ?_)
      · replace h := gq_t c13 h
        refine gl_goto (tgt := 2100) hC (by decide) dL_law_1589 ?_
        cases h
        refine gl_weak [2, 3, 4, 5, 6] rfl ?_
        exact hk
      · replace h := gq_f c13 h
        refine gc_iconst (v := 0) hC (by decide) dL_law_1587 ?_
        cases h
  · replace h := gq_f c11 h
    refine gc_iconst (v := 0) hC (by decide) dL_law_1570 ?_
    cases h
def fl_22 (N : Nat) (p1 : Int32) (p2 : Int32) (p3 : Int32) (p4 : Int32) (p5 : Int32) (p6 : Int32) (C R : gq_M) (ov : Int64) : Option (gq_M × gq_M × Int64) := gq_h (fh_L_lot N p1 p2 C ov) fun k1 o4 C2 => gq_b (f_X10_lot N p1 p2 R) fun v5 M6 => gq_b (f_X10_thrown N  M6) fun v8 M9 => if v8 = k1 then (if k1 = 0 then (if (lg_cmp o4 (v5 : Int32).toInt64) = 0 then (some (C2, M9, o4)) else (none)) else (some (C2, M9, o4))) else (none)
set_option maxHeartbeats 4000000 in
set_option maxRecDepth 20000 in
theorem q_law_22 (hl9 : l.stackTraces = false) (hC : gc_C p s m args meth c D A cI cZ RL cL_law 7) (hKL : gl_K D cI cZ cL s) (hZ : gq_Z A s) (hN : gl_N s) (hX : va_X b Ln xs s s.heap) (hbl : b < s.heap.size) (hbA : ¬ A b) (hx1 : vp_in (x4 + 1) Ln) (hx2 : vp_in (x4 + 2) Ln) (hx3 : vp_in (x4 + 3) Ln) (hx4 : vp_in (x4 + 4) Ln) (hx5 : vp_in (x4 + 5) Ln) (hx6 : vp_in (x4 + 6) Ln) (hkR : kc + 1 ≤ room_1.cells ∧ ks + 6 ≤ room_1.slots) (N : Nat) {C R C9 R9 : gq_M} {ov ov9 : Int64} (h : fl_22 N (xs (x4 + 1).toNatClampNeg) (xs (x4 + 2).toNatClampNeg) (xs (x4 + 3).toNatClampNeg) (xs (x4 + 4).toNatClampNeg) (xs (x4 + 5).toNatClampNeg) (xs (x4 + 6).toNatClampNeg) C R ov = some (C9, R9, ov9)) (hk : gc_W p l e room_1 s m args below meth c D A 7 Q ((gl_out cL oa ov9 :: gq_ws cI cZ adC C9 0 mtC) ++ gq_ws cI cZ adR R9 0 mtR) 2100 [(4, .int x4), (3, .ref oa), (2, .ref (adR 0)), (1, .ref (adC 0)), (0, .ref b)] [] (kc + 1) (ks + 6)) : gc_W p l e room_1 s m args below meth c D A 7 Q ((gl_out cL oa ov :: gq_ws cI cZ adC C 0 mtC) ++ gq_ws cI cZ adR R 0 mtR) 1592 [(4, .int x4), (3, .ref oa), (2, .ref (adR 0)), (1, .ref (adC 0)), (0, .ref b)] [] kc ks := by
  unfold fl_22 at h
  refine gc_aload_n hC 3 rfl rfl dL_law_1592 ?_
  refine gc_aload_n hC 4 rfl rfl dL_law_1593 ?_
  refine gl_iload hC 0 rfl dL_law_1594 ?_
  refine gc_iconst (v := 1) hC (by decide) dL_law_1596 ?_
  refine gl_iadd hC dL_law_1597 ?_
  refine gl_sld hC hX hbl hbA hx1 dL_law_1598 ?_
  refine gc_aload_n hC 4 rfl rfl dL_law_1599 ?_
  refine gl_iload hC 0 rfl dL_law_1600 ?_
  refine gc_iconst (v := 2) hC (by decide) dL_law_1602 ?_
  refine gl_iadd hC dL_law_1603 ?_
  refine gl_sld hC hX hbl hbA hx2 dL_law_1604 ?_
  refine gc_aload_n hC 1 rfl rfl dL_law_1605 ?_
  obtain ⟨k1, o4, C2, e3, h⟩ := gq_h_i h
  refine gl_comm ?_
  refine gl_H (as := [.ref (adC 0), .int (xs (x4 + 1).toNatClampNeg), .int (xs (x4 + 2).toNatClampNeg), .ref oa]) hC hKL hZ hN (h_L_lot hl9 N _ _ _ _ _ _ _ _ e3) (by show oa :: _ = oa :: _; rw [gq_ws_fst 0 mtC]) mH_L_lot wm_L_189 rfl rfl (Nat.le_of_ble_eq_true rfl) ⟨by decide, by decide⟩ hkR dL_law_1606 ?_
  refine gl_comm ?_
  refine gl_istore (L2 := [(5, .int k1), (4, .int x4), (3, .ref oa), (2, .ref (adR 0)), (1, .ref (adC 0)), (0, .ref b)]) hC (by decide) rfl dL_law_1609 ?_
  refine gc_aload_n hC 3 rfl rfl dL_law_1611 ?_
  refine gc_aload_n hC 5 rfl rfl dL_law_1612 ?_
  refine gl_iload hC 1 rfl dL_law_1613 ?_
  refine gc_iconst (v := 1) hC (by decide) dL_law_1615 ?_
  refine gl_iadd hC dL_law_1616 ?_
  refine gl_sld hC hX hbl hbA hx1 dL_law_1617 ?_
  refine gc_aload_n hC 5 rfl rfl dL_law_1618 ?_
  refine gl_iload hC 1 rfl dL_law_1619 ?_
  refine gc_iconst (v := 2) hC (by decide) dL_law_1621 ?_
  refine gl_iadd hC dL_law_1622 ?_
  refine gl_sld hC hX hbl hbA hx2 dL_law_1623 ?_
  obtain ⟨v5, M6, e7, h⟩ := gq_b_i h
  refine gl_Vi (q := 0) (as := [.int (xs (x4 + 1).toNatClampNeg), .int (xs (x4 + 2).toNatClampNeg)]) hC (t_X10_lot N _ _ _ _ _ e7) mV_X10_lot wm_L_191 obR_0 rfl rfl (Nat.le_of_ble_eq_true rfl) ⟨by decide, by decide⟩ hkR dL_law_1624 ?_
  refine gl_istore (L2 := [(6, .int v5), (5, .int k1), (4, .int x4), (3, .ref oa), (2, .ref (adR 0)), (1, .ref (adC 0)), (0, .ref b)]) hC (by decide) rfl dL_law_1627 ?_
  refine gc_aload_n hC 4 rfl rfl dL_law_1629 ?_
  obtain ⟨v8, M9, e10, h⟩ := gq_b_i h
  refine gl_Vi (q := 0) (as := []) hC (t_X10_thrown N  _ _ _ e10) mV_X10_thrown wm_L_111 obR_0 rfl rfl (Nat.le_of_ble_eq_true rfl) ⟨by decide, by decide⟩ hkR dL_law_1630 ?_
  refine gl_iload hC 1 rfl dL_law_1633 ?_
  refine gl_icmp_eq (tgt := 1640) hC (by decide) dL_law_1635 (fun c11 => ?_) (fun c11 => ?_)
  · replace h := gq_t c11 h
    refine gl_iload hC 1 rfl dL_law_1640 ?_
    refine gl_if_ne (tgt := 1657) hC (by decide) dL_law_1642 (fun c12 => ?_) (fun c12 => ?_)
    · replace h := gq_f c12 h
      refine gl_goto (tgt := 2100) hC (by decide) dL_law_1657 ?_
      cases h
      refine gl_weak [2, 3, 4, 5, 6] rfl ?_
      exact hk
    · replace h := gq_t c12 h
      refine gc_aload_n hC 3 rfl rfl dL_law_1645 ?_
      refine gc_iconst (v := 0) hC (by decide) dL_law_1646 ?_
      refine gl_lald hC hKL dL_law_1647 ?_
      refine gc_cast (ws2 := ((gl_out cL oa o4 :: gq_ws cI cZ adC C2 0 mtC) ++ gq_ws cI cZ adR M9 0 mtR)) ?_ rfl rfl rfl rfl rfl rfl
      refine gl_iload hC 0 rfl dL_law_1648 ?_
      refine gl_i2l hC dL_law_1650 ?_
      refine gl_lcmp hC dL_law_1651 ?_
      refine gl_if_eq (tgt := 1657) hC (by decide) dL_law_1652 (fun c13 => ?_) (fun c13 => ?_)
      · replace h := gq_t c13 h
        refine gl_goto (tgt := 2100) hC (by decide) dL_law_1657 ?_
        cases h
        refine gl_weak [2, 3, 4, 5, 6] rfl ?_
        exact hk
      · replace h := gq_f c13 h
        refine gc_iconst (v := 0) hC (by decide) dL_law_1655 ?_
        cases h
  · replace h := gq_f c11 h
    refine gc_iconst (v := 0) hC (by decide) dL_law_1638 ?_
    cases h
def fl_23 (N : Nat) (p1 : Int32) (p2 : Int32) (p3 : Int32) (p4 : Int32) (p5 : Int32) (p6 : Int32) (C R : gq_M) (ov : Int64) : Option (gq_M × gq_M × Int64) := gq_h (fh_L_hall N p1 p2 C ov) fun k1 o4 C2 => gq_b (f_X10_hall N p1 p2 R) fun v5 M6 => gq_b (f_X10_thrown N  M6) fun v8 M9 => if v8 = k1 then (if k1 = 0 then (if (lg_cmp o4 (v5 : Int32).toInt64) = 0 then (some (C2, M9, o4)) else (none)) else (some (C2, M9, o4))) else (none)
set_option maxHeartbeats 4000000 in
set_option maxRecDepth 20000 in
theorem q_law_23 (hl9 : l.stackTraces = false) (hC : gc_C p s m args meth c D A cI cZ RL cL_law 7) (hKL : gl_K D cI cZ cL s) (hZ : gq_Z A s) (hN : gl_N s) (hX : va_X b Ln xs s s.heap) (hbl : b < s.heap.size) (hbA : ¬ A b) (hx1 : vp_in (x4 + 1) Ln) (hx2 : vp_in (x4 + 2) Ln) (hx3 : vp_in (x4 + 3) Ln) (hx4 : vp_in (x4 + 4) Ln) (hx5 : vp_in (x4 + 5) Ln) (hx6 : vp_in (x4 + 6) Ln) (hkR : kc + 1 ≤ room_1.cells ∧ ks + 6 ≤ room_1.slots) (N : Nat) {C R C9 R9 : gq_M} {ov ov9 : Int64} (h : fl_23 N (xs (x4 + 1).toNatClampNeg) (xs (x4 + 2).toNatClampNeg) (xs (x4 + 3).toNatClampNeg) (xs (x4 + 4).toNatClampNeg) (xs (x4 + 5).toNatClampNeg) (xs (x4 + 6).toNatClampNeg) C R ov = some (C9, R9, ov9)) (hk : gc_W p l e room_1 s m args below meth c D A 7 Q ((gl_out cL oa ov9 :: gq_ws cI cZ adC C9 0 mtC) ++ gq_ws cI cZ adR R9 0 mtR) 2100 [(4, .int x4), (3, .ref oa), (2, .ref (adR 0)), (1, .ref (adC 0)), (0, .ref b)] [] (kc + 1) (ks + 6)) : gc_W p l e room_1 s m args below meth c D A 7 Q ((gl_out cL oa ov :: gq_ws cI cZ adC C 0 mtC) ++ gq_ws cI cZ adR R 0 mtR) 1660 [(4, .int x4), (3, .ref oa), (2, .ref (adR 0)), (1, .ref (adC 0)), (0, .ref b)] [] kc ks := by
  unfold fl_23 at h
  refine gc_aload_n hC 3 rfl rfl dL_law_1660 ?_
  refine gc_aload_n hC 4 rfl rfl dL_law_1661 ?_
  refine gl_iload hC 0 rfl dL_law_1662 ?_
  refine gc_iconst (v := 1) hC (by decide) dL_law_1664 ?_
  refine gl_iadd hC dL_law_1665 ?_
  refine gl_sld hC hX hbl hbA hx1 dL_law_1666 ?_
  refine gc_aload_n hC 4 rfl rfl dL_law_1667 ?_
  refine gl_iload hC 0 rfl dL_law_1668 ?_
  refine gc_iconst (v := 2) hC (by decide) dL_law_1670 ?_
  refine gl_iadd hC dL_law_1671 ?_
  refine gl_sld hC hX hbl hbA hx2 dL_law_1672 ?_
  refine gc_aload_n hC 1 rfl rfl dL_law_1673 ?_
  obtain ⟨k1, o4, C2, e3, h⟩ := gq_h_i h
  refine gl_comm ?_
  refine gl_H (as := [.ref (adC 0), .int (xs (x4 + 1).toNatClampNeg), .int (xs (x4 + 2).toNatClampNeg), .ref oa]) hC hKL hZ hN (h_L_hall hl9 N _ _ _ _ _ _ _ _ e3) (by show oa :: _ = oa :: _; rw [gq_ws_fst 0 mtC]) mH_L_hall wm_L_192 rfl rfl (Nat.le_of_ble_eq_true rfl) ⟨by decide, by decide⟩ hkR dL_law_1674 ?_
  refine gl_comm ?_
  refine gl_istore (L2 := [(5, .int k1), (4, .int x4), (3, .ref oa), (2, .ref (adR 0)), (1, .ref (adC 0)), (0, .ref b)]) hC (by decide) rfl dL_law_1677 ?_
  refine gc_aload_n hC 3 rfl rfl dL_law_1679 ?_
  refine gc_aload_n hC 5 rfl rfl dL_law_1680 ?_
  refine gl_iload hC 1 rfl dL_law_1681 ?_
  refine gc_iconst (v := 1) hC (by decide) dL_law_1683 ?_
  refine gl_iadd hC dL_law_1684 ?_
  refine gl_sld hC hX hbl hbA hx1 dL_law_1685 ?_
  refine gc_aload_n hC 5 rfl rfl dL_law_1686 ?_
  refine gl_iload hC 1 rfl dL_law_1687 ?_
  refine gc_iconst (v := 2) hC (by decide) dL_law_1689 ?_
  refine gl_iadd hC dL_law_1690 ?_
  refine gl_sld hC hX hbl hbA hx2 dL_law_1691 ?_
  obtain ⟨v5, M6, e7, h⟩ := gq_b_i h
  refine gl_Vi (q := 0) (as := [.int (xs (x4 + 1).toNatClampNeg), .int (xs (x4 + 2).toNatClampNeg)]) hC (t_X10_hall N _ _ _ _ _ e7) mV_X10_hall wm_L_194 obR_0 rfl rfl (Nat.le_of_ble_eq_true rfl) ⟨by decide, by decide⟩ hkR dL_law_1692 ?_
  refine gl_istore (L2 := [(6, .int v5), (5, .int k1), (4, .int x4), (3, .ref oa), (2, .ref (adR 0)), (1, .ref (adC 0)), (0, .ref b)]) hC (by decide) rfl dL_law_1695 ?_
  refine gc_aload_n hC 4 rfl rfl dL_law_1697 ?_
  obtain ⟨v8, M9, e10, h⟩ := gq_b_i h
  refine gl_Vi (q := 0) (as := []) hC (t_X10_thrown N  _ _ _ e10) mV_X10_thrown wm_L_111 obR_0 rfl rfl (Nat.le_of_ble_eq_true rfl) ⟨by decide, by decide⟩ hkR dL_law_1698 ?_
  refine gl_iload hC 1 rfl dL_law_1701 ?_
  refine gl_icmp_eq (tgt := 1708) hC (by decide) dL_law_1703 (fun c11 => ?_) (fun c11 => ?_)
  · replace h := gq_t c11 h
    refine gl_iload hC 1 rfl dL_law_1708 ?_
    refine gl_if_ne (tgt := 1725) hC (by decide) dL_law_1710 (fun c12 => ?_) (fun c12 => ?_)
    · replace h := gq_f c12 h
      refine gl_goto (tgt := 2100) hC (by decide) dL_law_1725 ?_
      cases h
      refine gl_weak [2, 3, 4, 5, 6] rfl ?_
      exact hk
    · replace h := gq_t c12 h
      refine gc_aload_n hC 3 rfl rfl dL_law_1713 ?_
      refine gc_iconst (v := 0) hC (by decide) dL_law_1714 ?_
      refine gl_lald hC hKL dL_law_1715 ?_
      refine gc_cast (ws2 := ((gl_out cL oa o4 :: gq_ws cI cZ adC C2 0 mtC) ++ gq_ws cI cZ adR M9 0 mtR)) ?_ rfl rfl rfl rfl rfl rfl
      refine gl_iload hC 0 rfl dL_law_1716 ?_
      refine gl_i2l hC dL_law_1718 ?_
      refine gl_lcmp hC dL_law_1719 ?_
      refine gl_if_eq (tgt := 1725) hC (by decide) dL_law_1720 (fun c13 => ?_) (fun c13 => ?_)
      · replace h := gq_t c13 h
        refine gl_goto (tgt := 2100) hC (by decide) dL_law_1725 ?_
        cases h
        refine gl_weak [2, 3, 4, 5, 6] rfl ?_
        exact hk
      · replace h := gq_f c13 h
        refine gc_iconst (v := 0) hC (by decide) dL_law_1723 ?_
        cases h
  · replace h := gq_f c11 h
    refine gc_iconst (v := 0) hC (by decide) dL_law_1706 ?_
    cases h
def fl_24 (N : Nat) (p1 : Int32) (p2 : Int32) (p3 : Int32) (p4 : Int32) (p5 : Int32) (p6 : Int32) (C R : gq_M) (ov : Int64) : Option (gq_M × gq_M × Int64) := gq_h (fh_L_account N p1 p2 C ov) fun k1 o4 C2 => gq_b (f_X10_account N p1 p2 R) fun v5 M6 => gq_b (f_X10_thrown N  M6) fun v8 M9 => if v8 = k1 then (if k1 = 0 then (if (lg_cmp o4 (v5 : Int32).toInt64) = 0 then (some (C2, M9, o4)) else (none)) else (some (C2, M9, o4))) else (none)
set_option maxHeartbeats 4000000 in
set_option maxRecDepth 20000 in
theorem q_law_24 (hl9 : l.stackTraces = false) (hC : gc_C p s m args meth c D A cI cZ RL cL_law 7) (hKL : gl_K D cI cZ cL s) (hZ : gq_Z A s) (hN : gl_N s) (hX : va_X b Ln xs s s.heap) (hbl : b < s.heap.size) (hbA : ¬ A b) (hx1 : vp_in (x4 + 1) Ln) (hx2 : vp_in (x4 + 2) Ln) (hx3 : vp_in (x4 + 3) Ln) (hx4 : vp_in (x4 + 4) Ln) (hx5 : vp_in (x4 + 5) Ln) (hx6 : vp_in (x4 + 6) Ln) (hkR : kc + 1 ≤ room_1.cells ∧ ks + 6 ≤ room_1.slots) (N : Nat) {C R C9 R9 : gq_M} {ov ov9 : Int64} (h : fl_24 N (xs (x4 + 1).toNatClampNeg) (xs (x4 + 2).toNatClampNeg) (xs (x4 + 3).toNatClampNeg) (xs (x4 + 4).toNatClampNeg) (xs (x4 + 5).toNatClampNeg) (xs (x4 + 6).toNatClampNeg) C R ov = some (C9, R9, ov9)) (hk : gc_W p l e room_1 s m args below meth c D A 7 Q ((gl_out cL oa ov9 :: gq_ws cI cZ adC C9 0 mtC) ++ gq_ws cI cZ adR R9 0 mtR) 2100 [(4, .int x4), (3, .ref oa), (2, .ref (adR 0)), (1, .ref (adC 0)), (0, .ref b)] [] (kc + 1) (ks + 6)) : gc_W p l e room_1 s m args below meth c D A 7 Q ((gl_out cL oa ov :: gq_ws cI cZ adC C 0 mtC) ++ gq_ws cI cZ adR R 0 mtR) 1728 [(4, .int x4), (3, .ref oa), (2, .ref (adR 0)), (1, .ref (adC 0)), (0, .ref b)] [] kc ks := by
  unfold fl_24 at h
  refine gc_aload_n hC 3 rfl rfl dL_law_1728 ?_
  refine gc_aload_n hC 4 rfl rfl dL_law_1729 ?_
  refine gl_iload hC 0 rfl dL_law_1730 ?_
  refine gc_iconst (v := 1) hC (by decide) dL_law_1732 ?_
  refine gl_iadd hC dL_law_1733 ?_
  refine gl_sld hC hX hbl hbA hx1 dL_law_1734 ?_
  refine gc_aload_n hC 4 rfl rfl dL_law_1735 ?_
  refine gl_iload hC 0 rfl dL_law_1736 ?_
  refine gc_iconst (v := 2) hC (by decide) dL_law_1738 ?_
  refine gl_iadd hC dL_law_1739 ?_
  refine gl_sld hC hX hbl hbA hx2 dL_law_1740 ?_
  refine gc_aload_n hC 1 rfl rfl dL_law_1741 ?_
  obtain ⟨k1, o4, C2, e3, h⟩ := gq_h_i h
  refine gl_comm ?_
  refine gl_H (as := [.ref (adC 0), .int (xs (x4 + 1).toNatClampNeg), .int (xs (x4 + 2).toNatClampNeg), .ref oa]) hC hKL hZ hN (h_L_account hl9 N _ _ _ _ _ _ _ _ e3) (by show oa :: _ = oa :: _; rw [gq_ws_fst 0 mtC]) mH_L_account wm_L_195 rfl rfl (Nat.le_of_ble_eq_true rfl) ⟨by decide, by decide⟩ hkR dL_law_1742 ?_
  refine gl_comm ?_
  refine gl_istore (L2 := [(5, .int k1), (4, .int x4), (3, .ref oa), (2, .ref (adR 0)), (1, .ref (adC 0)), (0, .ref b)]) hC (by decide) rfl dL_law_1745 ?_
  refine gc_aload_n hC 3 rfl rfl dL_law_1747 ?_
  refine gc_aload_n hC 5 rfl rfl dL_law_1748 ?_
  refine gl_iload hC 1 rfl dL_law_1749 ?_
  refine gc_iconst (v := 1) hC (by decide) dL_law_1751 ?_
  refine gl_iadd hC dL_law_1752 ?_
  refine gl_sld hC hX hbl hbA hx1 dL_law_1753 ?_
  refine gc_aload_n hC 5 rfl rfl dL_law_1754 ?_
  refine gl_iload hC 1 rfl dL_law_1755 ?_
  refine gc_iconst (v := 2) hC (by decide) dL_law_1757 ?_
  refine gl_iadd hC dL_law_1758 ?_
  refine gl_sld hC hX hbl hbA hx2 dL_law_1759 ?_
  obtain ⟨v5, M6, e7, h⟩ := gq_b_i h
  refine gl_Vi (q := 0) (as := [.int (xs (x4 + 1).toNatClampNeg), .int (xs (x4 + 2).toNatClampNeg)]) hC (t_X10_account N _ _ _ _ _ e7) mV_X10_account wm_L_197 obR_0 rfl rfl (Nat.le_of_ble_eq_true rfl) ⟨by decide, by decide⟩ hkR dL_law_1760 ?_
  refine gl_istore (L2 := [(6, .int v5), (5, .int k1), (4, .int x4), (3, .ref oa), (2, .ref (adR 0)), (1, .ref (adC 0)), (0, .ref b)]) hC (by decide) rfl dL_law_1763 ?_
  refine gc_aload_n hC 4 rfl rfl dL_law_1765 ?_
  obtain ⟨v8, M9, e10, h⟩ := gq_b_i h
  refine gl_Vi (q := 0) (as := []) hC (t_X10_thrown N  _ _ _ e10) mV_X10_thrown wm_L_111 obR_0 rfl rfl (Nat.le_of_ble_eq_true rfl) ⟨by decide, by decide⟩ hkR dL_law_1766 ?_
  refine gl_iload hC 1 rfl dL_law_1769 ?_
  refine gl_icmp_eq (tgt := 1776) hC (by decide) dL_law_1771 (fun c11 => ?_) (fun c11 => ?_)
  · replace h := gq_t c11 h
    refine gl_iload hC 1 rfl dL_law_1776 ?_
    refine gl_if_ne (tgt := 1793) hC (by decide) dL_law_1778 (fun c12 => ?_) (fun c12 => ?_)
    · replace h := gq_f c12 h
      refine gl_goto (tgt := 2100) hC (by decide) dL_law_1793 ?_
      cases h
      refine gl_weak [2, 3, 4, 5, 6] rfl ?_
      exact hk
    · replace h := gq_t c12 h
      refine gc_aload_n hC 3 rfl rfl dL_law_1781 ?_
      refine gc_iconst (v := 0) hC (by decide) dL_law_1782 ?_
      refine gl_lald hC hKL dL_law_1783 ?_
      refine gc_cast (ws2 := ((gl_out cL oa o4 :: gq_ws cI cZ adC C2 0 mtC) ++ gq_ws cI cZ adR M9 0 mtR)) ?_ rfl rfl rfl rfl rfl rfl
      refine gl_iload hC 0 rfl dL_law_1784 ?_
      refine gl_i2l hC dL_law_1786 ?_
      refine gl_lcmp hC dL_law_1787 ?_
      refine gl_if_eq (tgt := 1793) hC (by decide) dL_law_1788 (fun c13 => ?_) (fun c13 => ?_)
      · replace h := gq_t c13 h
        refine gl_goto (tgt := 2100) hC (by decide) dL_law_1793 ?_
        cases h
        refine gl_weak [2, 3, 4, 5, 6] rfl ?_
        exact hk
      · replace h := gq_f c13 h
        refine gc_iconst (v := 0) hC (by decide) dL_law_1791 ?_
        cases h
  · replace h := gq_f c11 h
    refine gc_iconst (v := 0) hC (by decide) dL_law_1774 ?_
    cases h
def fl_25 (N : Nat) (p1 : Int32) (p2 : Int32) (p3 : Int32) (p4 : Int32) (p5 : Int32) (p6 : Int32) (C R : gq_M) (ov : Int64) : Option (gq_M × gq_M × Int64) := gq_h (fh_L_ship N p1 p2 C ov) fun k1 o4 C2 => gq_b (f_X10_ship N p1 p2 R) fun v5 M6 => gq_b (f_X10_thrown N  M6) fun v8 M9 => if v8 = k1 then (if k1 = 0 then (if (lg_cmp o4 (v5 : Int32).toInt64) = 0 then (some (C2, M9, o4)) else (none)) else (some (C2, M9, o4))) else (none)
set_option maxHeartbeats 4000000 in
set_option maxRecDepth 20000 in
theorem q_law_25 (hl9 : l.stackTraces = false) (hC : gc_C p s m args meth c D A cI cZ RL cL_law 7) (hKL : gl_K D cI cZ cL s) (hZ : gq_Z A s) (hN : gl_N s) (hX : va_X b Ln xs s s.heap) (hbl : b < s.heap.size) (hbA : ¬ A b) (hx1 : vp_in (x4 + 1) Ln) (hx2 : vp_in (x4 + 2) Ln) (hx3 : vp_in (x4 + 3) Ln) (hx4 : vp_in (x4 + 4) Ln) (hx5 : vp_in (x4 + 5) Ln) (hx6 : vp_in (x4 + 6) Ln) (hkR : kc + 1 ≤ room_1.cells ∧ ks + 6 ≤ room_1.slots) (N : Nat) {C R C9 R9 : gq_M} {ov ov9 : Int64} (h : fl_25 N (xs (x4 + 1).toNatClampNeg) (xs (x4 + 2).toNatClampNeg) (xs (x4 + 3).toNatClampNeg) (xs (x4 + 4).toNatClampNeg) (xs (x4 + 5).toNatClampNeg) (xs (x4 + 6).toNatClampNeg) C R ov = some (C9, R9, ov9)) (hk : gc_W p l e room_1 s m args below meth c D A 7 Q ((gl_out cL oa ov9 :: gq_ws cI cZ adC C9 0 mtC) ++ gq_ws cI cZ adR R9 0 mtR) 2100 [(4, .int x4), (3, .ref oa), (2, .ref (adR 0)), (1, .ref (adC 0)), (0, .ref b)] [] (kc + 1) (ks + 6)) : gc_W p l e room_1 s m args below meth c D A 7 Q ((gl_out cL oa ov :: gq_ws cI cZ adC C 0 mtC) ++ gq_ws cI cZ adR R 0 mtR) 1796 [(4, .int x4), (3, .ref oa), (2, .ref (adR 0)), (1, .ref (adC 0)), (0, .ref b)] [] kc ks := by
  unfold fl_25 at h
  refine gc_aload_n hC 3 rfl rfl dL_law_1796 ?_
  refine gc_aload_n hC 4 rfl rfl dL_law_1797 ?_
  refine gl_iload hC 0 rfl dL_law_1798 ?_
  refine gc_iconst (v := 1) hC (by decide) dL_law_1800 ?_
  refine gl_iadd hC dL_law_1801 ?_
  refine gl_sld hC hX hbl hbA hx1 dL_law_1802 ?_
  refine gc_aload_n hC 4 rfl rfl dL_law_1803 ?_
  refine gl_iload hC 0 rfl dL_law_1804 ?_
  refine gc_iconst (v := 2) hC (by decide) dL_law_1806 ?_
  refine gl_iadd hC dL_law_1807 ?_
  refine gl_sld hC hX hbl hbA hx2 dL_law_1808 ?_
  refine gc_aload_n hC 1 rfl rfl dL_law_1809 ?_
  obtain ⟨k1, o4, C2, e3, h⟩ := gq_h_i h
  refine gl_comm ?_
  refine gl_H (as := [.ref (adC 0), .int (xs (x4 + 1).toNatClampNeg), .int (xs (x4 + 2).toNatClampNeg), .ref oa]) hC hKL hZ hN (h_L_ship hl9 N _ _ _ _ _ _ _ _ e3) (by show oa :: _ = oa :: _; rw [gq_ws_fst 0 mtC]) mH_L_ship wm_L_198 rfl rfl (Nat.le_of_ble_eq_true rfl) ⟨by decide, by decide⟩ hkR dL_law_1810 ?_
  refine gl_comm ?_
  refine gl_istore (L2 := [(5, .int k1), (4, .int x4), (3, .ref oa), (2, .ref (adR 0)), (1, .ref (adC 0)), (0, .ref b)]) hC (by decide) rfl dL_law_1813 ?_
  refine gc_aload_n hC 3 rfl rfl dL_law_1815 ?_
  refine gc_aload_n hC 5 rfl rfl dL_law_1816 ?_
  refine gl_iload hC 1 rfl dL_law_1817 ?_
  refine gc_iconst (v := 1) hC (by decide) dL_law_1819 ?_
  refine gl_iadd hC dL_law_1820 ?_
  refine gl_sld hC hX hbl hbA hx1 dL_law_1821 ?_
  refine gc_aload_n hC 5 rfl rfl dL_law_1822 ?_
  refine gl_iload hC 1 rfl dL_law_1823 ?_
  refine gc_iconst (v := 2) hC (by decide) dL_law_1825 ?_
  refine gl_iadd hC dL_law_1826 ?_
  refine gl_sld hC hX hbl hbA hx2 dL_law_1827 ?_
  obtain ⟨v5, M6, e7, h⟩ := gq_b_i h
  refine gl_Vi (q := 0) (as := [.int (xs (x4 + 1).toNatClampNeg), .int (xs (x4 + 2).toNatClampNeg)]) hC (t_X10_ship N _ _ _ _ _ e7) mV_X10_ship wm_L_200 obR_0 rfl rfl (Nat.le_of_ble_eq_true rfl) ⟨by decide, by decide⟩ hkR dL_law_1828 ?_
  refine gl_istore (L2 := [(6, .int v5), (5, .int k1), (4, .int x4), (3, .ref oa), (2, .ref (adR 0)), (1, .ref (adC 0)), (0, .ref b)]) hC (by decide) rfl dL_law_1831 ?_
  refine gc_aload_n hC 4 rfl rfl dL_law_1833 ?_
  obtain ⟨v8, M9, e10, h⟩ := gq_b_i h
  refine gl_Vi (q := 0) (as := []) hC (t_X10_thrown N  _ _ _ e10) mV_X10_thrown wm_L_111 obR_0 rfl rfl (Nat.le_of_ble_eq_true rfl) ⟨by decide, by decide⟩ hkR dL_law_1834 ?_
  refine gl_iload hC 1 rfl dL_law_1837 ?_
  refine gl_icmp_eq (tgt := 1844) hC (by decide) dL_law_1839 (fun c11 => ?_) (fun c11 => ?_)
  · replace h := gq_t c11 h
    refine gl_iload hC 1 rfl dL_law_1844 ?_
    refine gl_if_ne (tgt := 1861) hC (by decide) dL_law_1846 (fun c12 => ?_) (fun c12 => ?_)
    · replace h := gq_f c12 h
      refine gl_goto (tgt := 2100) hC (by decide) dL_law_1861 ?_
      cases h
      refine gl_weak [2, 3, 4, 5, 6] rfl ?_
      exact hk
    · replace h := gq_t c12 h
      refine gc_aload_n hC 3 rfl rfl dL_law_1849 ?_
      refine gc_iconst (v := 0) hC (by decide) dL_law_1850 ?_
      refine gl_lald hC hKL dL_law_1851 ?_
      refine gc_cast (ws2 := ((gl_out cL oa o4 :: gq_ws cI cZ adC C2 0 mtC) ++ gq_ws cI cZ adR M9 0 mtR)) ?_ rfl rfl rfl rfl rfl rfl
      refine gl_iload hC 0 rfl dL_law_1852 ?_
      refine gl_i2l hC dL_law_1854 ?_
      refine gl_lcmp hC dL_law_1855 ?_
      refine gl_if_eq (tgt := 1861) hC (by decide) dL_law_1856 (fun c13 => ?_) (fun c13 => ?_)
      · replace h := gq_t c13 h
        refine gl_goto (tgt := 2100) hC (by decide) dL_law_1861 ?_
        cases h
        refine gl_weak [2, 3, 4, 5, 6] rfl ?_
        exact hk
      · replace h := gq_f c13 h
        refine gc_iconst (v := 0) hC (by decide) dL_law_1859 ?_
        cases h
  · replace h := gq_f c11 h
    refine gc_iconst (v := 0) hC (by decide) dL_law_1842 ?_
    cases h
def fl_26 (N : Nat) (p1 : Int32) (p2 : Int32) (p3 : Int32) (p4 : Int32) (p5 : Int32) (p6 : Int32) (C R : gq_M) (ov : Int64) : Option (gq_M × gq_M × Int64) := gq_h (fh_L_kilos N p1 C ov) fun k1 o4 C2 => gq_b (f_X10_kilos N p1 R) fun v5 M6 => gq_b (f_X10_thrown N  M6) fun v8 M9 => if v8 = k1 then (if k1 = 0 then (if (lg_cmp o4 (v5 : Int32).toInt64) = 0 then (some (C2, M9, o4)) else (none)) else (some (C2, M9, o4))) else (none)
set_option maxHeartbeats 4000000 in
set_option maxRecDepth 20000 in
theorem q_law_26 (hl9 : l.stackTraces = false) (hC : gc_C p s m args meth c D A cI cZ RL cL_law 7) (hKL : gl_K D cI cZ cL s) (hZ : gq_Z A s) (hN : gl_N s) (hX : va_X b Ln xs s s.heap) (hbl : b < s.heap.size) (hbA : ¬ A b) (hx1 : vp_in (x4 + 1) Ln) (hx2 : vp_in (x4 + 2) Ln) (hx3 : vp_in (x4 + 3) Ln) (hx4 : vp_in (x4 + 4) Ln) (hx5 : vp_in (x4 + 5) Ln) (hx6 : vp_in (x4 + 6) Ln) (hkR : kc + 1 ≤ room_1.cells ∧ ks + 6 ≤ room_1.slots) (N : Nat) {C R C9 R9 : gq_M} {ov ov9 : Int64} (h : fl_26 N (xs (x4 + 1).toNatClampNeg) (xs (x4 + 2).toNatClampNeg) (xs (x4 + 3).toNatClampNeg) (xs (x4 + 4).toNatClampNeg) (xs (x4 + 5).toNatClampNeg) (xs (x4 + 6).toNatClampNeg) C R ov = some (C9, R9, ov9)) (hk : gc_W p l e room_1 s m args below meth c D A 7 Q ((gl_out cL oa ov9 :: gq_ws cI cZ adC C9 0 mtC) ++ gq_ws cI cZ adR R9 0 mtR) 2100 [(4, .int x4), (3, .ref oa), (2, .ref (adR 0)), (1, .ref (adC 0)), (0, .ref b)] [] (kc + 1) (ks + 6)) : gc_W p l e room_1 s m args below meth c D A 7 Q ((gl_out cL oa ov :: gq_ws cI cZ adC C 0 mtC) ++ gq_ws cI cZ adR R 0 mtR) 1864 [(4, .int x4), (3, .ref oa), (2, .ref (adR 0)), (1, .ref (adC 0)), (0, .ref b)] [] kc ks := by
  unfold fl_26 at h
  refine gc_aload_n hC 3 rfl rfl dL_law_1864 ?_
  refine gc_aload_n hC 4 rfl rfl dL_law_1865 ?_
  refine gl_iload hC 0 rfl dL_law_1866 ?_
  refine gc_iconst (v := 1) hC (by decide) dL_law_1868 ?_
  refine gl_iadd hC dL_law_1869 ?_
  refine gl_sld hC hX hbl hbA hx1 dL_law_1870 ?_
  refine gc_aload_n hC 1 rfl rfl dL_law_1871 ?_
  obtain ⟨k1, o4, C2, e3, h⟩ := gq_h_i h
  refine gl_comm ?_
  refine gl_H (as := [.ref (adC 0), .int (xs (x4 + 1).toNatClampNeg), .ref oa]) hC hKL hZ hN (h_L_kilos hl9 N _ _ _ _ _ _ _ e3) (by show oa :: _ = oa :: _; rw [gq_ws_fst 0 mtC]) mH_L_kilos wm_L_201 rfl rfl (Nat.le_of_ble_eq_true rfl) ⟨by decide, by decide⟩ hkR dL_law_1872 ?_
  refine gl_comm ?_
  refine gl_istore (L2 := [(5, .int k1), (4, .int x4), (3, .ref oa), (2, .ref (adR 0)), (1, .ref (adC 0)), (0, .ref b)]) hC (by decide) rfl dL_law_1875 ?_
  refine gc_aload_n hC 3 rfl rfl dL_law_1877 ?_
  refine gc_aload_n hC 5 rfl rfl dL_law_1878 ?_
  refine gl_iload hC 1 rfl dL_law_1879 ?_
  refine gc_iconst (v := 1) hC (by decide) dL_law_1881 ?_
  refine gl_iadd hC dL_law_1882 ?_
  refine gl_sld hC hX hbl hbA hx1 dL_law_1883 ?_
  obtain ⟨v5, M6, e7, h⟩ := gq_b_i h
  refine gl_Vi (q := 0) (as := [.int (xs (x4 + 1).toNatClampNeg)]) hC (t_X10_kilos N _ _ _ _ e7) mV_X10_kilos wm_L_203 obR_0 rfl rfl (Nat.le_of_ble_eq_true rfl) ⟨by decide, by decide⟩ hkR dL_law_1884 ?_
  refine gl_istore (L2 := [(6, .int v5), (5, .int k1), (4, .int x4), (3, .ref oa), (2, .ref (adR 0)), (1, .ref (adC 0)), (0, .ref b)]) hC (by decide) rfl dL_law_1887 ?_
  refine gc_aload_n hC 4 rfl rfl dL_law_1889 ?_
  obtain ⟨v8, M9, e10, h⟩ := gq_b_i h
  refine gl_Vi (q := 0) (as := []) hC (t_X10_thrown N  _ _ _ e10) mV_X10_thrown wm_L_111 obR_0 rfl rfl (Nat.le_of_ble_eq_true rfl) ⟨by decide, by decide⟩ hkR dL_law_1890 ?_
  refine gl_iload hC 1 rfl dL_law_1893 ?_
  refine gl_icmp_eq (tgt := 1900) hC (by decide) dL_law_1895 (fun c11 => ?_) (fun c11 => ?_)
  · replace h := gq_t c11 h
    refine gl_iload hC 1 rfl dL_law_1900 ?_
    refine gl_if_ne (tgt := 1917) hC (by decide) dL_law_1902 (fun c12 => ?_) (fun c12 => ?_)
    · replace h := gq_f c12 h
      refine gl_goto (tgt := 2100) hC (by decide) dL_law_1917 ?_
      cases h
      refine gl_weak [2, 3, 4, 5, 6] rfl ?_
      exact hk
    · replace h := gq_t c12 h
      refine gc_aload_n hC 3 rfl rfl dL_law_1905 ?_
      refine gc_iconst (v := 0) hC (by decide) dL_law_1906 ?_
      refine gl_lald hC hKL dL_law_1907 ?_
      refine gc_cast (ws2 := ((gl_out cL oa o4 :: gq_ws cI cZ adC C2 0 mtC) ++ gq_ws cI cZ adR M9 0 mtR)) ?_ rfl rfl rfl rfl rfl rfl
      refine gl_iload hC 0 rfl dL_law_1908 ?_
      refine gl_i2l hC dL_law_1910 ?_
      refine gl_lcmp hC dL_law_1911 ?_
      refine gl_if_eq (tgt := 1917) hC (by decide) dL_law_1912 (fun c13 => ?_) (fun c13 => ?_)
      · replace h := gq_t c13 h
        refine gl_goto (tgt := 2100) hC (by decide) dL_law_1917 ?_
        cases h
        refine gl_weak [2, 3, 4, 5, 6] rfl ?_
        exact hk
      · replace h := gq_f c13 h
        refine gc_iconst (v := 0) hC (by decide) dL_law_1915 ?_
        cases h
  · replace h := gq_f c11 h
    refine gc_iconst (v := 0) hC (by decide) dL_law_1898 ?_
    cases h
def fl_27 (N : Nat) (p1 : Int32) (p2 : Int32) (p3 : Int32) (p4 : Int32) (p5 : Int32) (p6 : Int32) (C R : gq_M) (ov : Int64) : Option (gq_M × gq_M × Int64) := gq_h (fh_L_kilosAnew N p1 C ov) fun k1 o4 C2 => gq_b (f_X10_kilosAnew N p1 R) fun v5 M6 => gq_b (f_X10_thrown N  M6) fun v8 M9 => if v8 = k1 then (if k1 = 0 then (if (lg_cmp o4 (v5 : Int32).toInt64) = 0 then (some (C2, M9, o4)) else (none)) else (some (C2, M9, o4))) else (none)
set_option maxHeartbeats 4000000 in
set_option maxRecDepth 20000 in
theorem q_law_27 (hl9 : l.stackTraces = false) (hC : gc_C p s m args meth c D A cI cZ RL cL_law 7) (hKL : gl_K D cI cZ cL s) (hZ : gq_Z A s) (hN : gl_N s) (hX : va_X b Ln xs s s.heap) (hbl : b < s.heap.size) (hbA : ¬ A b) (hx1 : vp_in (x4 + 1) Ln) (hx2 : vp_in (x4 + 2) Ln) (hx3 : vp_in (x4 + 3) Ln) (hx4 : vp_in (x4 + 4) Ln) (hx5 : vp_in (x4 + 5) Ln) (hx6 : vp_in (x4 + 6) Ln) (hkR : kc + 1 ≤ room_1.cells ∧ ks + 6 ≤ room_1.slots) (N : Nat) {C R C9 R9 : gq_M} {ov ov9 : Int64} (h : fl_27 N (xs (x4 + 1).toNatClampNeg) (xs (x4 + 2).toNatClampNeg) (xs (x4 + 3).toNatClampNeg) (xs (x4 + 4).toNatClampNeg) (xs (x4 + 5).toNatClampNeg) (xs (x4 + 6).toNatClampNeg) C R ov = some (C9, R9, ov9)) (hk : gc_W p l e room_1 s m args below meth c D A 7 Q ((gl_out cL oa ov9 :: gq_ws cI cZ adC C9 0 mtC) ++ gq_ws cI cZ adR R9 0 mtR) 2100 [(4, .int x4), (3, .ref oa), (2, .ref (adR 0)), (1, .ref (adC 0)), (0, .ref b)] [] (kc + 1) (ks + 6)) : gc_W p l e room_1 s m args below meth c D A 7 Q ((gl_out cL oa ov :: gq_ws cI cZ adC C 0 mtC) ++ gq_ws cI cZ adR R 0 mtR) 1920 [(4, .int x4), (3, .ref oa), (2, .ref (adR 0)), (1, .ref (adC 0)), (0, .ref b)] [] kc ks := by
  unfold fl_27 at h
  refine gc_aload_n hC 3 rfl rfl dL_law_1920 ?_
  refine gc_aload_n hC 4 rfl rfl dL_law_1921 ?_
  refine gl_iload hC 0 rfl dL_law_1922 ?_
  refine gc_iconst (v := 1) hC (by decide) dL_law_1924 ?_
  refine gl_iadd hC dL_law_1925 ?_
  refine gl_sld hC hX hbl hbA hx1 dL_law_1926 ?_
  refine gc_aload_n hC 1 rfl rfl dL_law_1927 ?_
  obtain ⟨k1, o4, C2, e3, h⟩ := gq_h_i h
  refine gl_comm ?_
  refine gl_H (as := [.ref (adC 0), .int (xs (x4 + 1).toNatClampNeg), .ref oa]) hC hKL hZ hN (h_L_kilosAnew hl9 N _ _ _ _ _ _ _ e3) (by show oa :: _ = oa :: _; rw [gq_ws_fst 0 mtC]) mH_L_kilosAnew wm_L_204 rfl rfl (Nat.le_of_ble_eq_true rfl) ⟨by decide, by decide⟩ hkR dL_law_1928 ?_
  refine gl_comm ?_
  refine gl_istore (L2 := [(5, .int k1), (4, .int x4), (3, .ref oa), (2, .ref (adR 0)), (1, .ref (adC 0)), (0, .ref b)]) hC (by decide) rfl dL_law_1931 ?_
  refine gc_aload_n hC 3 rfl rfl dL_law_1933 ?_
  refine gc_aload_n hC 5 rfl rfl dL_law_1934 ?_
  refine gl_iload hC 1 rfl dL_law_1935 ?_
  refine gc_iconst (v := 1) hC (by decide) dL_law_1937 ?_
  refine gl_iadd hC dL_law_1938 ?_
  refine gl_sld hC hX hbl hbA hx1 dL_law_1939 ?_
  obtain ⟨v5, M6, e7, h⟩ := gq_b_i h
  refine gl_Vi (q := 0) (as := [.int (xs (x4 + 1).toNatClampNeg)]) hC (t_X10_kilosAnew N _ _ _ _ e7) mV_X10_kilosAnew wm_L_206 obR_0 rfl rfl (Nat.le_of_ble_eq_true rfl) ⟨by decide, by decide⟩ hkR dL_law_1940 ?_
  refine gl_istore (L2 := [(6, .int v5), (5, .int k1), (4, .int x4), (3, .ref oa), (2, .ref (adR 0)), (1, .ref (adC 0)), (0, .ref b)]) hC (by decide) rfl dL_law_1943 ?_
  refine gc_aload_n hC 4 rfl rfl dL_law_1945 ?_
  obtain ⟨v8, M9, e10, h⟩ := gq_b_i h
  refine gl_Vi (q := 0) (as := []) hC (t_X10_thrown N  _ _ _ e10) mV_X10_thrown wm_L_111 obR_0 rfl rfl (Nat.le_of_ble_eq_true rfl) ⟨by decide, by decide⟩ hkR dL_law_1946 ?_
  refine gl_iload hC 1 rfl dL_law_1949 ?_
  refine gl_icmp_eq (tgt := 1956) hC (by decide) dL_law_1951 (fun c11 => ?_) (fun c11 => ?_)
  · replace h := gq_t c11 h
    refine gl_iload hC 1 rfl dL_law_1956 ?_
    refine gl_if_ne (tgt := 1973) hC (by decide) dL_law_1958 (fun c12 => ?_) (fun c12 => ?_)
    · replace h := gq_f c12 h
      refine gl_goto (tgt := 2100) hC (by decide) dL_law_1973 ?_
      cases h
      refine gl_weak [2, 3, 4, 5, 6] rfl ?_
      exact hk
    · replace h := gq_t c12 h
      refine gc_aload_n hC 3 rfl rfl dL_law_1961 ?_
      refine gc_iconst (v := 0) hC (by decide) dL_law_1962 ?_
      refine gl_lald hC hKL dL_law_1963 ?_
      refine gc_cast (ws2 := ((gl_out cL oa o4 :: gq_ws cI cZ adC C2 0 mtC) ++ gq_ws cI cZ adR M9 0 mtR)) ?_ rfl rfl rfl rfl rfl rfl
      refine gl_iload hC 0 rfl dL_law_1964 ?_
      refine gl_i2l hC dL_law_1966 ?_
      refine gl_lcmp hC dL_law_1967 ?_
      refine gl_if_eq (tgt := 1973) hC (by decide) dL_law_1968 (fun c13 => ?_) (fun c13 => ?_)
      · replace h := gq_t c13 h
        refine gl_goto (tgt := 2100) hC (by decide) dL_law_1973 ?_
        cases h
        refine gl_weak [2, 3, 4, 5, 6] rfl ?_
        exact hk
      · replace h := gq_f c13 h
        refine gc_iconst (v := 0) hC (by decide) dL_law_1971 ?_
        cases h
  · replace h := gq_f c11 h
    refine gc_iconst (v := 0) hC (by decide) dL_law_1954 ?_
    cases h
def fl_28 (N : Nat) (p1 : Int32) (p2 : Int32) (p3 : Int32) (p4 : Int32) (p5 : Int32) (p6 : Int32) (C R : gq_M) (ov : Int64) : Option (gq_M × gq_M × Int64) := gq_h (fh_L_average N p1 p2 C ov) fun k1 o4 C2 => gq_b (f_X10_average N p1 p2 R) fun v5 M6 => gq_b (f_X10_thrown N  M6) fun v8 M9 => if v8 = k1 then (if k1 = 0 then (if (lg_cmp o4 (v5 : Int32).toInt64) = 0 then (some (C2, M9, o4)) else (none)) else (some (C2, M9, o4))) else (none)
set_option maxHeartbeats 4000000 in
set_option maxRecDepth 20000 in
theorem q_law_28 (hl9 : l.stackTraces = false) (hC : gc_C p s m args meth c D A cI cZ RL cL_law 7) (hKL : gl_K D cI cZ cL s) (hZ : gq_Z A s) (hN : gl_N s) (hX : va_X b Ln xs s s.heap) (hbl : b < s.heap.size) (hbA : ¬ A b) (hx1 : vp_in (x4 + 1) Ln) (hx2 : vp_in (x4 + 2) Ln) (hx3 : vp_in (x4 + 3) Ln) (hx4 : vp_in (x4 + 4) Ln) (hx5 : vp_in (x4 + 5) Ln) (hx6 : vp_in (x4 + 6) Ln) (hkR : kc + 1 ≤ room_1.cells ∧ ks + 6 ≤ room_1.slots) (N : Nat) {C R C9 R9 : gq_M} {ov ov9 : Int64} (h : fl_28 N (xs (x4 + 1).toNatClampNeg) (xs (x4 + 2).toNatClampNeg) (xs (x4 + 3).toNatClampNeg) (xs (x4 + 4).toNatClampNeg) (xs (x4 + 5).toNatClampNeg) (xs (x4 + 6).toNatClampNeg) C R ov = some (C9, R9, ov9)) (hk : gc_W p l e room_1 s m args below meth c D A 7 Q ((gl_out cL oa ov9 :: gq_ws cI cZ adC C9 0 mtC) ++ gq_ws cI cZ adR R9 0 mtR) 2100 [(4, .int x4), (3, .ref oa), (2, .ref (adR 0)), (1, .ref (adC 0)), (0, .ref b)] [] (kc + 1) (ks + 6)) : gc_W p l e room_1 s m args below meth c D A 7 Q ((gl_out cL oa ov :: gq_ws cI cZ adC C 0 mtC) ++ gq_ws cI cZ adR R 0 mtR) 1976 [(4, .int x4), (3, .ref oa), (2, .ref (adR 0)), (1, .ref (adC 0)), (0, .ref b)] [] kc ks := by
  unfold fl_28 at h
  refine gc_aload_n hC 3 rfl rfl dL_law_1976 ?_
  refine gc_aload_n hC 4 rfl rfl dL_law_1977 ?_
  refine gl_iload hC 0 rfl dL_law_1978 ?_
  refine gc_iconst (v := 1) hC (by decide) dL_law_1980 ?_
  refine gl_iadd hC dL_law_1981 ?_
  refine gl_sld hC hX hbl hbA hx1 dL_law_1982 ?_
  refine gc_aload_n hC 4 rfl rfl dL_law_1983 ?_
  refine gl_iload hC 0 rfl dL_law_1984 ?_
  refine gc_iconst (v := 2) hC (by decide) dL_law_1986 ?_
  refine gl_iadd hC dL_law_1987 ?_
  refine gl_sld hC hX hbl hbA hx2 dL_law_1988 ?_
  refine gc_aload_n hC 1 rfl rfl dL_law_1989 ?_
  obtain ⟨k1, o4, C2, e3, h⟩ := gq_h_i h
  refine gl_comm ?_
  refine gl_H (as := [.ref (adC 0), .int (xs (x4 + 1).toNatClampNeg), .int (xs (x4 + 2).toNatClampNeg), .ref oa]) hC hKL hZ hN (h_L_average hl9 N _ _ _ _ _ _ _ _ e3) (by show oa :: _ = oa :: _; rw [gq_ws_fst 0 mtC]) mH_L_average wm_L_207 rfl rfl (Nat.le_of_ble_eq_true rfl) ⟨by decide, by decide⟩ hkR dL_law_1990 ?_
  refine gl_comm ?_
  refine gl_istore (L2 := [(5, .int k1), (4, .int x4), (3, .ref oa), (2, .ref (adR 0)), (1, .ref (adC 0)), (0, .ref b)]) hC (by decide) rfl dL_law_1993 ?_
  refine gc_aload_n hC 3 rfl rfl dL_law_1995 ?_
  refine gc_aload_n hC 5 rfl rfl dL_law_1996 ?_
  refine gl_iload hC 1 rfl dL_law_1997 ?_
  refine gc_iconst (v := 1) hC (by decide) dL_law_1999 ?_
  refine gl_iadd hC dL_law_2000 ?_
  refine gl_sld hC hX hbl hbA hx1 dL_law_2001 ?_
  refine gc_aload_n hC 5 rfl rfl dL_law_2002 ?_
  refine gl_iload hC 1 rfl dL_law_2003 ?_
  refine gc_iconst (v := 2) hC (by decide) dL_law_2005 ?_
  refine gl_iadd hC dL_law_2006 ?_
  refine gl_sld hC hX hbl hbA hx2 dL_law_2007 ?_
  obtain ⟨v5, M6, e7, h⟩ := gq_b_i h
  refine gl_Vi (q := 0) (as := [.int (xs (x4 + 1).toNatClampNeg), .int (xs (x4 + 2).toNatClampNeg)]) hC (t_X10_average N _ _ _ _ _ e7) mV_X10_average wm_L_209 obR_0 rfl rfl (Nat.le_of_ble_eq_true rfl) ⟨by decide, by decide⟩ hkR dL_law_2008 ?_
  refine gl_istore (L2 := [(6, .int v5), (5, .int k1), (4, .int x4), (3, .ref oa), (2, .ref (adR 0)), (1, .ref (adC 0)), (0, .ref b)]) hC (by decide) rfl dL_law_2011 ?_
  refine gc_aload_n hC 4 rfl rfl dL_law_2013 ?_
  obtain ⟨v8, M9, e10, h⟩ := gq_b_i h
  refine gl_Vi (q := 0) (as := []) hC (t_X10_thrown N  _ _ _ e10) mV_X10_thrown wm_L_111 obR_0 rfl rfl (Nat.le_of_ble_eq_true rfl) ⟨by decide, by decide⟩ hkR dL_law_2014 ?_
  refine gl_iload hC 1 rfl dL_law_2017 ?_
  refine gl_icmp_eq (tgt := 2024) hC (by decide) dL_law_2019 (fun c11 => ?_) (fun c11 => ?_)
  · replace h := gq_t c11 h
    refine gl_iload hC 1 rfl dL_law_2024 ?_
    refine gl_if_ne (tgt := 2041) hC (by decide) dL_law_2026 (fun c12 => ?_) (fun c12 => ?_)
    · replace h := gq_f c12 h
      refine gl_goto (tgt := 2100) hC (by decide) dL_law_2041 ?_
      cases h
      refine gl_weak [2, 3, 4, 5, 6] rfl ?_
      exact hk
    · replace h := gq_t c12 h
      refine gc_aload_n hC 3 rfl rfl dL_law_2029 ?_
      refine gc_iconst (v := 0) hC (by decide) dL_law_2030 ?_
      refine gl_lald hC hKL dL_law_2031 ?_
      refine gc_cast (ws2 := ((gl_out cL oa o4 :: gq_ws cI cZ adC C2 0 mtC) ++ gq_ws cI cZ adR M9 0 mtR)) ?_ rfl rfl rfl rfl rfl rfl
      refine gl_iload hC 0 rfl dL_law_2032 ?_
      refine gl_i2l hC dL_law_2034 ?_
      refine gl_lcmp hC dL_law_2035 ?_
      refine gl_if_eq (tgt := 2041) hC (by decide) dL_law_2036 (fun c13 => ?_) (fun c13 => ?_)
      · replace h := gq_t c13 h
        refine gl_goto (tgt := 2100) hC (by decide) dL_law_2041 ?_
        cases h
        refine gl_weak [2, 3, 4, 5, 6] rfl ?_
        exact hk
      · replace h := gq_f c13 h
        refine gc_iconst (v := 0) hC (by decide) dL_law_2039 ?_
        cases h
  · replace h := gq_f c11 h
    refine gc_iconst (v := 0) hC (by decide) dL_law_2022 ?_
    cases h
def fl_29 (N : Nat) (p1 : Int32) (p2 : Int32) (p3 : Int32) (p4 : Int32) (p5 : Int32) (p6 : Int32) (C R : gq_M) (ov : Int64) : Option (gq_M × gq_M × Int64) := gq_h (fh_L_loaded N p1 C ov) fun k1 o4 C2 => gq_b (f_X10_loaded N p1 R) fun v5 M6 => gq_b (f_X10_thrown N  M6) fun v8 M9 => if v8 = k1 then (if k1 = 0 then (if (lg_cmp o4 (v5 : Int32).toInt64) = 0 then (some (C2, M9, o4)) else (none)) else (some (C2, M9, o4))) else (none)
set_option maxHeartbeats 4000000 in
set_option maxRecDepth 20000 in
theorem q_law_29 (hl9 : l.stackTraces = false) (hC : gc_C p s m args meth c D A cI cZ RL cL_law 7) (hKL : gl_K D cI cZ cL s) (hZ : gq_Z A s) (hN : gl_N s) (hX : va_X b Ln xs s s.heap) (hbl : b < s.heap.size) (hbA : ¬ A b) (hx1 : vp_in (x4 + 1) Ln) (hx2 : vp_in (x4 + 2) Ln) (hx3 : vp_in (x4 + 3) Ln) (hx4 : vp_in (x4 + 4) Ln) (hx5 : vp_in (x4 + 5) Ln) (hx6 : vp_in (x4 + 6) Ln) (hkR : kc + 1 ≤ room_1.cells ∧ ks + 6 ≤ room_1.slots) (N : Nat) {C R C9 R9 : gq_M} {ov ov9 : Int64} (h : fl_29 N (xs (x4 + 1).toNatClampNeg) (xs (x4 + 2).toNatClampNeg) (xs (x4 + 3).toNatClampNeg) (xs (x4 + 4).toNatClampNeg) (xs (x4 + 5).toNatClampNeg) (xs (x4 + 6).toNatClampNeg) C R ov = some (C9, R9, ov9)) (hk : gc_W p l e room_1 s m args below meth c D A 7 Q ((gl_out cL oa ov9 :: gq_ws cI cZ adC C9 0 mtC) ++ gq_ws cI cZ adR R9 0 mtR) 2100 [(4, .int x4), (3, .ref oa), (2, .ref (adR 0)), (1, .ref (adC 0)), (0, .ref b)] [] (kc + 1) (ks + 6)) : gc_W p l e room_1 s m args below meth c D A 7 Q ((gl_out cL oa ov :: gq_ws cI cZ adC C 0 mtC) ++ gq_ws cI cZ adR R 0 mtR) 2044 [(4, .int x4), (3, .ref oa), (2, .ref (adR 0)), (1, .ref (adC 0)), (0, .ref b)] [] kc ks := by
  unfold fl_29 at h
  refine gc_aload_n hC 3 rfl rfl dL_law_2044 ?_
  refine gc_aload_n hC 4 rfl rfl dL_law_2045 ?_
  refine gl_iload hC 0 rfl dL_law_2046 ?_
  refine gc_iconst (v := 1) hC (by decide) dL_law_2048 ?_
  refine gl_iadd hC dL_law_2049 ?_
  refine gl_sld hC hX hbl hbA hx1 dL_law_2050 ?_
  refine gc_aload_n hC 1 rfl rfl dL_law_2051 ?_
  obtain ⟨k1, o4, C2, e3, h⟩ := gq_h_i h
  refine gl_comm ?_
  refine gl_H (as := [.ref (adC 0), .int (xs (x4 + 1).toNatClampNeg), .ref oa]) hC hKL hZ hN (h_L_loaded hl9 N _ _ _ _ _ _ _ e3) (by show oa :: _ = oa :: _; rw [gq_ws_fst 0 mtC]) mH_L_loaded wm_L_210 rfl rfl (Nat.le_of_ble_eq_true rfl) ⟨by decide, by decide⟩ hkR dL_law_2052 ?_
  refine gl_comm ?_
  refine gl_istore (L2 := [(5, .int k1), (4, .int x4), (3, .ref oa), (2, .ref (adR 0)), (1, .ref (adC 0)), (0, .ref b)]) hC (by decide) rfl dL_law_2055 ?_
  refine gc_aload_n hC 3 rfl rfl dL_law_2057 ?_
  refine gc_aload_n hC 5 rfl rfl dL_law_2058 ?_
  refine gl_iload hC 1 rfl dL_law_2059 ?_
  refine gc_iconst (v := 1) hC (by decide) dL_law_2061 ?_
  refine gl_iadd hC dL_law_2062 ?_
  refine gl_sld hC hX hbl hbA hx1 dL_law_2063 ?_
  obtain ⟨v5, M6, e7, h⟩ := gq_b_i h
  refine gl_Vi (q := 0) (as := [.int (xs (x4 + 1).toNatClampNeg)]) hC (t_X10_loaded N _ _ _ _ e7) mV_X10_loaded wm_L_212 obR_0 rfl rfl (Nat.le_of_ble_eq_true rfl) ⟨by decide, by decide⟩ hkR dL_law_2064 ?_
  refine gl_istore (L2 := [(6, .int v5), (5, .int k1), (4, .int x4), (3, .ref oa), (2, .ref (adR 0)), (1, .ref (adC 0)), (0, .ref b)]) hC (by decide) rfl dL_law_2067 ?_
  refine gc_aload_n hC 4 rfl rfl dL_law_2069 ?_
  obtain ⟨v8, M9, e10, h⟩ := gq_b_i h
  refine gl_Vi (q := 0) (as := []) hC (t_X10_thrown N  _ _ _ e10) mV_X10_thrown wm_L_111 obR_0 rfl rfl (Nat.le_of_ble_eq_true rfl) ⟨by decide, by decide⟩ hkR dL_law_2070 ?_
  refine gl_iload hC 1 rfl dL_law_2073 ?_
  refine gl_icmp_eq (tgt := 2080) hC (by decide) dL_law_2075 (fun c11 => ?_) (fun c11 => ?_)
  · replace h := gq_t c11 h
    refine gl_iload hC 1 rfl dL_law_2080 ?_
    refine gl_if_ne (tgt := 2097) hC (by decide) dL_law_2082 (fun c12 => ?_) (fun c12 => ?_)
    · replace h := gq_f c12 h
      refine gl_goto (tgt := 2100) hC (by decide) dL_law_2097 ?_
      cases h
      refine gl_weak [2, 3, 4, 5, 6] rfl ?_
      exact hk
    · replace h := gq_t c12 h
      refine gc_aload_n hC 3 rfl rfl dL_law_2085 ?_
      refine gc_iconst (v := 0) hC (by decide) dL_law_2086 ?_
      refine gl_lald hC hKL dL_law_2087 ?_
      refine gc_cast (ws2 := ((gl_out cL oa o4 :: gq_ws cI cZ adC C2 0 mtC) ++ gq_ws cI cZ adR M9 0 mtR)) ?_ rfl rfl rfl rfl rfl rfl
      refine gl_iload hC 0 rfl dL_law_2088 ?_
      refine gl_i2l hC dL_law_2090 ?_
      refine gl_lcmp hC dL_law_2091 ?_
      refine gl_if_eq (tgt := 2097) hC (by decide) dL_law_2092 (fun c13 => ?_) (fun c13 => ?_)
      · replace h := gq_t c13 h
        refine gl_goto (tgt := 2100) hC (by decide) dL_law_2097 ?_
        cases h
        refine gl_weak [2, 3, 4, 5, 6] rfl ?_
        exact hk
      · replace h := gq_f c13 h
        refine gc_iconst (v := 0) hC (by decide) dL_law_2095 ?_
        cases h
  · replace h := gq_f c11 h
    refine gc_iconst (v := 0) hC (by decide) dL_law_2078 ?_
    cases h
def fl (N : Nat) (p0 : Int32) (p1 : Int32) (p2 : Int32) (p3 : Int32) (p4 : Int32) (p5 : Int32) (p6 : Int32) (C R : gq_M) (ov : Int64) : Option (gq_M × gq_M × Int64) := if (p0 &&& 31) = 0 then fl_0 N p1 p2 p3 p4 p5 p6 C R ov else if (p0 &&& 31) = 1 then fl_1 N p1 p2 p3 p4 p5 p6 C R ov else if (p0 &&& 31) = 2 then fl_2 N p1 p2 p3 p4 p5 p6 C R ov else if (p0 &&& 31) = 3 then fl_3 N p1 p2 p3 p4 p5 p6 C R ov else if (p0 &&& 31) = 4 then fl_4 N p1 p2 p3 p4 p5 p6 C R ov else if (p0 &&& 31) = 5 then fl_5 N p1 p2 p3 p4 p5 p6 C R ov else if (p0 &&& 31) = 6 then fl_6 N p1 p2 p3 p4 p5 p6 C R ov else if (p0 &&& 31) = 7 then fl_7 N p1 p2 p3 p4 p5 p6 C R ov else if (p0 &&& 31) = 8 then fl_8 N p1 p2 p3 p4 p5 p6 C R ov else if (p0 &&& 31) = 9 then fl_9 N p1 p2 p3 p4 p5 p6 C R ov else if (p0 &&& 31) = 10 then fl_10 N p1 p2 p3 p4 p5 p6 C R ov else if (p0 &&& 31) = 11 then fl_11 N p1 p2 p3 p4 p5 p6 C R ov else if (p0 &&& 31) = 12 then fl_12 N p1 p2 p3 p4 p5 p6 C R ov else if (p0 &&& 31) = 13 then fl_13 N p1 p2 p3 p4 p5 p6 C R ov else if (p0 &&& 31) = 14 then fl_14 N p1 p2 p3 p4 p5 p6 C R ov else if (p0 &&& 31) = 15 then fl_15 N p1 p2 p3 p4 p5 p6 C R ov else if (p0 &&& 31) = 16 then fl_16 N p1 p2 p3 p4 p5 p6 C R ov else if (p0 &&& 31) = 17 then fl_17 N p1 p2 p3 p4 p5 p6 C R ov else if (p0 &&& 31) = 18 then fl_18 N p1 p2 p3 p4 p5 p6 C R ov else if (p0 &&& 31) = 19 then fl_19 N p1 p2 p3 p4 p5 p6 C R ov else if (p0 &&& 31) = 20 then fl_20 N p1 p2 p3 p4 p5 p6 C R ov else if (p0 &&& 31) = 21 then fl_21 N p1 p2 p3 p4 p5 p6 C R ov else if (p0 &&& 31) = 22 then fl_22 N p1 p2 p3 p4 p5 p6 C R ov else if (p0 &&& 31) = 23 then fl_23 N p1 p2 p3 p4 p5 p6 C R ov else if (p0 &&& 31) = 24 then fl_24 N p1 p2 p3 p4 p5 p6 C R ov else if (p0 &&& 31) = 25 then fl_25 N p1 p2 p3 p4 p5 p6 C R ov else if (p0 &&& 31) = 26 then fl_26 N p1 p2 p3 p4 p5 p6 C R ov else if (p0 &&& 31) = 27 then fl_27 N p1 p2 p3 p4 p5 p6 C R ov else if (p0 &&& 31) = 28 then fl_28 N p1 p2 p3 p4 p5 p6 C R ov else if (p0 &&& 31) = 29 then fl_29 N p1 p2 p3 p4 p5 p6 C R ov else some (C, R, ov)
set_option maxHeartbeats 4000000 in
set_option maxRecDepth 20000 in
theorem q_law (hl9 : l.stackTraces = false) (hC : gc_C p s m args meth c D A cI cZ RL cL_law 7) (hKL : gl_K D cI cZ cL s) (hZ : gq_Z A s) (hN : gl_N s) (hX : va_X b Ln xs s s.heap) (hbl : b < s.heap.size) (hbA : ¬ A b) (hx1 : vp_in (x4 + 1) Ln) (hx2 : vp_in (x4 + 2) Ln) (hx3 : vp_in (x4 + 3) Ln) (hx4 : vp_in (x4 + 4) Ln) (hx5 : vp_in (x4 + 5) Ln) (hx6 : vp_in (x4 + 6) Ln) (hkR : kc + 1 ≤ room_1.cells ∧ ks + 6 ≤ room_1.slots) (N : Nat) {p0 : Int32} {C R C9 R9 : gq_M} {ov ov9 : Int64} (h : fl N p0 (xs (x4 + 1).toNatClampNeg) (xs (x4 + 2).toNatClampNeg) (xs (x4 + 3).toNatClampNeg) (xs (x4 + 4).toNatClampNeg) (xs (x4 + 5).toNatClampNeg) (xs (x4 + 6).toNatClampNeg) C R ov = some (C9, R9, ov9)) (hk : gc_W p l e room_1 s m args below meth c D A 7 Q ((gl_out cL oa ov9 :: gq_ws cI cZ adC C9 0 mtC) ++ gq_ws cI cZ adR R9 0 mtR) 2100 [(4, .int x4), (3, .ref oa), (2, .ref (adR 0)), (1, .ref (adC 0)), (0, .ref b)] [] (kc + 1) (ks + 6)) : gc_W p l e room_1 s m args below meth c D A 7 Q ((gl_out cL oa ov :: gq_ws cI cZ adC C 0 mtC) ++ gq_ws cI cZ adR R 0 mtR) 40 [(4, .int x4), (3, .ref oa), (2, .ref (adR 0)), (1, .ref (adC 0)), (0, .ref b)] [.int (p0 &&& 31)] kc ks := by
  unfold fl at h
  rcases gq_or h with ⟨c0, h⟩ | ⟨c0, h⟩
  · exact gl_tsIn (tgt := 176) hC (by rw [c0]; decide) (by rw [c0]; decide) (by rw [c0]; rfl) (by decide) dL_law_40 (q_law_0 hl9 hC hKL hZ hN hX hbl hbA hx1 hx2 hx3 hx4 hx5 hx6 hkR N h hk)
  rcases gq_or h with ⟨c1, h⟩ | ⟨c1, h⟩
  · exact gl_tsIn (tgt := 256) hC (by rw [c1]; decide) (by rw [c1]; decide) (by rw [c1]; rfl) (by decide) dL_law_40 (q_law_1 hl9 hC hKL hZ hN hX hbl hbA hx1 hx2 hx3 hx4 hx5 hx6 hkR N h hk)
  rcases gq_or h with ⟨c2, h⟩ | ⟨c2, h⟩
  · exact gl_tsIn (tgt := 352) hC (by rw [c2]; decide) (by rw [c2]; decide) (by rw [c2]; rfl) (by decide) dL_law_40 (q_law_2 hl9 hC hKL hZ hN hX hbl hbA hx1 hx2 hx3 hx4 hx5 hx6 hkR N h hk)
  rcases gq_or h with ⟨c3, h⟩ | ⟨c3, h⟩
  · exact gl_tsIn (tgt := 424) hC (by rw [c3]; decide) (by rw [c3]; decide) (by rw [c3]; rfl) (by decide) dL_law_40 (q_law_3 hl9 hC hKL hZ hN hX hbl hbA hx1 hx2 hx3 hx4 hx5 hx6 hkR N h hk)
  rcases gq_or h with ⟨c4, h⟩ | ⟨c4, h⟩
  · exact gl_tsIn (tgt := 492) hC (by rw [c4]; decide) (by rw [c4]; decide) (by rw [c4]; rfl) (by decide) dL_law_40 (q_law_4 hl9 hC hKL hZ hN hX hbl hbA hx1 hx2 hx3 hx4 hx5 hx6 hkR N h hk)
  rcases gq_or h with ⟨c5, h⟩ | ⟨c5, h⟩
  · exact gl_tsIn (tgt := 572) hC (by rw [c5]; decide) (by rw [c5]; decide) (by rw [c5]; rfl) (by decide) dL_law_40 (q_law_5 hl9 hC hKL hZ hN hX hbl hbA hx1 hx2 hx3 hx4 hx5 hx6 hkR N h hk)
  rcases gq_or h with ⟨c6, h⟩ | ⟨c6, h⟩
  · exact gl_tsIn (tgt := 597) hC (by rw [c6]; decide) (by rw [c6]; decide) (by rw [c6]; rfl) (by decide) dL_law_40 (q_law_6 hl9 hC hKL hZ hN hX hbl hbA hx1 hx2 hx3 hx4 hx5 hx6 hkR N h hk)
  rcases gq_or h with ⟨c7, h⟩ | ⟨c7, h⟩
  · exact gl_tsIn (tgt := 688) hC (by rw [c7]; decide) (by rw [c7]; decide) (by rw [c7]; rfl) (by decide) dL_law_40 (q_law_7 hl9 hC hKL hZ hN hX hbl hbA hx1 hx2 hx3 hx4 hx5 hx6 hkR N h hk)
  rcases gq_or h with ⟨c8, h⟩ | ⟨c8, h⟩
  · exact gl_tsIn (tgt := 779) hC (by rw [c8]; decide) (by rw [c8]; decide) (by rw [c8]; rfl) (by decide) dL_law_40 (q_law_8 hl9 hC hKL hZ hN hX hbl hbA hx1 hx2 hx3 hx4 hx5 hx6 hkR N h hk)
  rcases gq_or h with ⟨c9, h⟩ | ⟨c9, h⟩
  · exact gl_tsIn (tgt := 897) hC (by rw [c9]; decide) (by rw [c9]; decide) (by rw [c9]; rfl) (by decide) dL_law_40 (q_law_9 hl9 hC hKL hZ hN hX hbl hbA hx1 hx2 hx3 hx4 hx5 hx6 hkR N h hk)
  rcases gq_or h with ⟨c10, h⟩ | ⟨c10, h⟩
  · exact gl_tsIn (tgt := 941) hC (by rw [c10]; decide) (by rw [c10]; decide) (by rw [c10]; rfl) (by decide) dL_law_40 (q_law_10 hl9 hC hKL hZ hN hX hbl hbA hx1 hx2 hx3 hx4 hx5 hx6 hkR N h hk)
  rcases gq_or h with ⟨c11, h⟩ | ⟨c11, h⟩
  · exact gl_tsIn (tgt := 985) hC (by rw [c11]; decide) (by rw [c11]; decide) (by rw [c11]; rfl) (by decide) dL_law_40 (q_law_11 hl9 hC hKL hZ hN hX hbl hbA hx1 hx2 hx3 hx4 hx5 hx6 hkR N h hk)
  rcases gq_or h with ⟨c12, h⟩ | ⟨c12, h⟩
  · exact gl_tsIn (tgt := 1053) hC (by rw [c12]; decide) (by rw [c12]; decide) (by rw [c12]; rfl) (by decide) dL_law_40 (q_law_12 hl9 hC hKL hZ hN hX hbl hbA hx1 hx2 hx3 hx4 hx5 hx6 hkR N h hk)
  rcases gq_or h with ⟨c13, h⟩ | ⟨c13, h⟩
  · exact gl_tsIn (tgt := 1133) hC (by rw [c13]; decide) (by rw [c13]; decide) (by rw [c13]; rfl) (by decide) dL_law_40 (q_law_13 hl9 hC hKL hZ hN hX hbl hbA hx1 hx2 hx3 hx4 hx5 hx6 hkR N h hk)
  rcases gq_or h with ⟨c14, h⟩ | ⟨c14, h⟩
  · exact gl_tsIn (tgt := 1189) hC (by rw [c14]; decide) (by rw [c14]; decide) (by rw [c14]; rfl) (by decide) dL_law_40 (q_law_14 hl9 hC hKL hZ hN hX hbl hbA hx1 hx2 hx3 hx4 hx5 hx6 hkR N h hk)
  rcases gq_or h with ⟨c15, h⟩ | ⟨c15, h⟩
  · exact gl_tsIn (tgt := 1269) hC (by rw [c15]; decide) (by rw [c15]; decide) (by rw [c15]; rfl) (by decide) dL_law_40 (q_law_15 hl9 hC hKL hZ hN hX hbl hbA hx1 hx2 hx3 hx4 hx5 hx6 hkR N h hk)
  rcases gq_or h with ⟨c16, h⟩ | ⟨c16, h⟩
  · exact gl_tsIn (tgt := 1337) hC (by rw [c16]; decide) (by rw [c16]; decide) (by rw [c16]; rfl) (by decide) dL_law_40 (q_law_16 hl9 hC hKL hZ hN hX hbl hbA hx1 hx2 hx3 hx4 hx5 hx6 hkR N h hk)
  rcases gq_or h with ⟨c17, h⟩ | ⟨c17, h⟩
  · exact gl_tsIn (tgt := 1405) hC (by rw [c17]; decide) (by rw [c17]; decide) (by rw [c17]; rfl) (by decide) dL_law_40 (q_law_17 hl9 hC hKL hZ hN hX hbl hbA hx1 hx2 hx3 hx4 hx5 hx6 hkR N h hk)
  rcases gq_or h with ⟨c18, h⟩ | ⟨c18, h⟩
  · exact gl_tsIn (tgt := 1485) hC (by rw [c18]; decide) (by rw [c18]; decide) (by rw [c18]; rfl) (by decide) dL_law_40 (q_law_18 hl9 hC hKL hZ hN hX hbl hbA hx1 hx2 hx3 hx4 hx5 hx6 hkR N h hk)
  rcases gq_or h with ⟨c19, h⟩ | ⟨c19, h⟩
  · exact gl_tsIn (tgt := 1498) hC (by rw [c19]; decide) (by rw [c19]; decide) (by rw [c19]; rfl) (by decide) dL_law_40 (q_law_19 hl9 hC hKL hZ hN hX hbl hbA hx1 hx2 hx3 hx4 hx5 hx6 hkR N h hk)
  rcases gq_or h with ⟨c20, h⟩ | ⟨c20, h⟩
  · exact gl_tsIn (tgt := 1511) hC (by rw [c20]; decide) (by rw [c20]; decide) (by rw [c20]; rfl) (by decide) dL_law_40 (q_law_20 hl9 hC hKL hZ hN hX hbl hbA hx1 hx2 hx3 hx4 hx5 hx6 hkR N h hk)
  rcases gq_or h with ⟨c21, h⟩ | ⟨c21, h⟩
  · exact gl_tsIn (tgt := 1524) hC (by rw [c21]; decide) (by rw [c21]; decide) (by rw [c21]; rfl) (by decide) dL_law_40 (q_law_21 hl9 hC hKL hZ hN hX hbl hbA hx1 hx2 hx3 hx4 hx5 hx6 hkR N h hk)
  rcases gq_or h with ⟨c22, h⟩ | ⟨c22, h⟩
  · exact gl_tsIn (tgt := 1592) hC (by rw [c22]; decide) (by rw [c22]; decide) (by rw [c22]; rfl) (by decide) dL_law_40 (q_law_22 hl9 hC hKL hZ hN hX hbl hbA hx1 hx2 hx3 hx4 hx5 hx6 hkR N h hk)
  rcases gq_or h with ⟨c23, h⟩ | ⟨c23, h⟩
  · exact gl_tsIn (tgt := 1660) hC (by rw [c23]; decide) (by rw [c23]; decide) (by rw [c23]; rfl) (by decide) dL_law_40 (q_law_23 hl9 hC hKL hZ hN hX hbl hbA hx1 hx2 hx3 hx4 hx5 hx6 hkR N h hk)
  rcases gq_or h with ⟨c24, h⟩ | ⟨c24, h⟩
  · exact gl_tsIn (tgt := 1728) hC (by rw [c24]; decide) (by rw [c24]; decide) (by rw [c24]; rfl) (by decide) dL_law_40 (q_law_24 hl9 hC hKL hZ hN hX hbl hbA hx1 hx2 hx3 hx4 hx5 hx6 hkR N h hk)
  rcases gq_or h with ⟨c25, h⟩ | ⟨c25, h⟩
  · exact gl_tsIn (tgt := 1796) hC (by rw [c25]; decide) (by rw [c25]; decide) (by rw [c25]; rfl) (by decide) dL_law_40 (q_law_25 hl9 hC hKL hZ hN hX hbl hbA hx1 hx2 hx3 hx4 hx5 hx6 hkR N h hk)
  rcases gq_or h with ⟨c26, h⟩ | ⟨c26, h⟩
  · exact gl_tsIn (tgt := 1864) hC (by rw [c26]; decide) (by rw [c26]; decide) (by rw [c26]; rfl) (by decide) dL_law_40 (q_law_26 hl9 hC hKL hZ hN hX hbl hbA hx1 hx2 hx3 hx4 hx5 hx6 hkR N h hk)
  rcases gq_or h with ⟨c27, h⟩ | ⟨c27, h⟩
  · exact gl_tsIn (tgt := 1920) hC (by rw [c27]; decide) (by rw [c27]; decide) (by rw [c27]; rfl) (by decide) dL_law_40 (q_law_27 hl9 hC hKL hZ hN hX hbl hbA hx1 hx2 hx3 hx4 hx5 hx6 hkR N h hk)
  rcases gq_or h with ⟨c28, h⟩ | ⟨c28, h⟩
  · exact gl_tsIn (tgt := 1976) hC (by rw [c28]; decide) (by rw [c28]; decide) (by rw [c28]; rfl) (by decide) dL_law_40 (q_law_28 hl9 hC hKL hZ hN hX hbl hbA hx1 hx2 hx3 hx4 hx5 hx6 hkR N h hk)
  rcases gq_or h with ⟨c29, h⟩ | ⟨c29, h⟩
  · exact gl_tsIn (tgt := 2044) hC (by rw [c29]; decide) (by rw [c29]; decide) (by rw [c29]; rfl) (by decide) dL_law_40 (q_law_29 hl9 hC hKL hZ hN hX hbl hbA hx1 hx2 hx3 hx4 hx5 hx6 hkR N h hk)
  refine gl_tsOut (tgt := 2100) hC (by have z0 := lv_neT c0 (a := 0) (by decide); have z1 := lv_neT c1 (a := 1) (by decide); have z2 := lv_neT c2 (a := 2) (by decide); have z3 := lv_neT c3 (a := 3) (by decide); have z4 := lv_neT c4 (a := 4) (by decide); have z5 := lv_neT c5 (a := 5) (by decide); have z6 := lv_neT c6 (a := 6) (by decide); have z7 := lv_neT c7 (a := 7) (by decide); have z8 := lv_neT c8 (a := 8) (by decide); have z9 := lv_neT c9 (a := 9) (by decide); have z10 := lv_neT c10 (a := 10) (by decide); have z11 := lv_neT c11 (a := 11) (by decide); have z12 := lv_neT c12 (a := 12) (by decide); have z13 := lv_neT c13 (a := 13) (by decide); have z14 := lv_neT c14 (a := 14) (by decide); have z15 := lv_neT c15 (a := 15) (by decide); have z16 := lv_neT c16 (a := 16) (by decide); have z17 := lv_neT c17 (a := 17) (by decide); have z18 := lv_neT c18 (a := 18) (by decide); have z19 := lv_neT c19 (a := 19) (by decide); have z20 := lv_neT c20 (a := 20) (by decide); have z21 := lv_neT c21 (a := 21) (by decide); have z22 := lv_neT c22 (a := 22) (by decide); have z23 := lv_neT c23 (a := 23) (by decide); have z24 := lv_neT c24 (a := 24) (by decide); have z25 := lv_neT c25 (a := 25) (by decide); have z26 := lv_neT c26 (a := 26) (by decide); have z27 := lv_neT c27 (a := 27) (by decide); have z28 := lv_neT c28 (a := 28) (by decide); have z29 := lv_neT c29 (a := 29) (by decide); omega) (by decide) dL_law_40 ?_
  cases h
  refine gl_widen (kc2 := kc + 1) (ks2 := ks + 6) (by omega) (by omega) ?_
  exact hk
end
