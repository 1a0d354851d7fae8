/-! pure: land -/
theorem b_sumOf0 {β : Type} {N : Nat} {M : gq_M} {F : Int32 → gq_M → Option β} : gq_b (f_X1_sumOf N 0 M) F = F (nI 5) M := rfl
theorem b_sumOf1 {β : Type} {N : Nat} {M : gq_M} {F : Int32 → gq_M → Option β} : gq_b (f_X1_sumOf N 1 M) F = F (nI 4) M := rfl
theorem b_add0 {β : Type} {r n N : Nat} {v : Int32} {M : gq_M} {F : Int32 → gq_M → Option β} (h : 0 < n) (hn : n < 2 ^ 31) : gq_b (f_X8_add r n N 0 v M) F = F 0 (gq_up M r 0 (M r 0 + v)) := b_addN (j := 0) h hn
theorem rngs_push {n a b : Nat} {f : Nat → Int32} {v : Int32} (h : rngs n a b f) (hv : rng a b v) : rngs (n + 1) a b (upd f n v) := by
  intro k hk
  by_cases hh : k = n
  · subst hh; rw [upd_s]; exact hv
  · rw [upd_n hh]; exact h k (by omega)
theorem eqR_ext {n : Nat} {f g : Nat → Int32} (h : eqR n f g) (hv : f n = g n) : eqR (n + 1) f g := by
  intro k hk
  by_cases hh : k = n
  · subst hh; exact hv
  · exact h k (by omega)
theorem K_rk_push {n x y z : Nat} {c k s f : Nat → Int32} {v : Int32} (h : K_rk n c k s f) (hx : x < 4) (hy : y < 3) (hz : 1 ≤ z) (hz2 : z ≤ 9) (hv : v = nI ((x * 3 + y) * 9 + (9 - z))) : K_rk (n + 1) (upd c n v) (upd k n (nI x)) (upd s n (nI y)) (upd f n (nI z)) := by
  intro b hb
  by_cases hh : b = n
  · subst hh; rw [upd_s, upd_s, upd_s, upd_s]; exact ⟨x, y, z, hx, hy, hz, hz2, rfl, rfl, rfl, hv⟩
  · rw [upd_n hh, upd_n hh, upd_n hh, upd_n hh]; exact h b (by omega)
theorem rank_v {x y z : Nat} (hz : z ≤ 9) : ((nI x * 3) + nI y) * 9 + 9 - nI z = nI ((x * 3 + y) * 9 + (9 - z)) := by
  rw [show (3 : Int32) = nI 3 from rfl, show (9 : Int32) = nI 9 from rfl, nI_mul, nI_add, nI_mul, nI_add, nI_sub (by omega)]
  congr 1
  omega
theorem cnt_push {n : Nat} {p q : Nat → Bool} (h : ∀ b, b < n → q b = p b) : cnt (rg 0 (n + 1)) q = cnt (rg 0 n) p + (if q n = true then 1 else 0) := by
  rw [rg_c, cnt_app, Nat.zero_add, cnt_cons, cnt_nil, Nat.add_zero, cnt_congr (p := q) (q := p) fun b hb => h b (by have := (rg_m.mp hb).2; omega)]
theorem lsum_push {n : Nat} {f g : Nat → Int32} (h : ∀ b, b < n → g b = f b) : lsum (rg 0 (n + 1)) g = lsum (rg 0 n) f + g n := by
  rw [rg_c, lsum_app, Nat.zero_add, lsum_congr (f := g) (g := f) fun b hb => h b (by have := (rg_m.mp hb).2; omega)]
  exact congrArg _ (Int32.add_zero _)
theorem offl_push {n l : Nat} {lo st : Nat → Int32} {s : Int32} (hl : l < 2 ^ 31) : offl (n + 1) (upd lo n (-1)) (upd st n s) l = offl n lo st l := by
  unfold offl
  rw [rg_c, List.filter_append, Nat.zero_add]
  have h1 : ([n].filter fun b => decide (upd lo n (-1) b = nI l ∧ upd st n s b = 2)) = [] := by
    rw [List.filter_cons, upd_s, if_neg (by
      intro hh
      have := (of_decide_eq_true hh).1
      exact nI_m1 hl this.symm)]
    rfl
  rw [h1, List.append_nil]
  exact List.filter_congr fun b hb => by
    have := (rg_m.mp hb).2
    rw [upd_n (by omega), upd_n (by omega)]
theorem K_sum_push {nb s : Nat} {c st ki : Nat → Int32} {v k : Int32} (h : K_sum nb c st ki) (hs : smN v = s) : K_sum (nb + 1) (upd (upd c 0 (c 0 + k)) s ((upd c 0 (c 0 + k)) s + k)) (upd st nb v) (upd ki nb k) := by
  intro w hw
  have hs2 := smN_lt v
  rw [lsum_push (f := fun b => if inS (st b) w = true then ki b else 0) (fun b hb => by rw [upd_n (by omega), upd_n (by omega)]), upd_s, upd_s, ← h w hw]
  unfold inS
  by_cases h0 : w = 0
  · subst h0
    rw [upd_n (by omega), upd_s]
    simp
  · by_cases h1 : s = w
    · subst h1
      rw [upd_s, upd_n (by omega)]
      simp [hs]
    · rw [upd_n (by omega), upd_n (by omega)]
      simp [hs, h0, h1]
theorem K_ld_up {i k : Nat} {c r : Nat → Int32} {v : Int32} (h : K_ld c r) (hk : k < 4) : K_ld (upd c i (c i + v)) (upd r (4 * i + k) (r (4 * i + k) + v)) := by
  intro j hj
  by_cases hh : j = i
  · subst hh
    rw [upd_s, lsum_upd 4 (4 * j) (by omega) (by omega), ← h j hj]
    grind
  · rw [upd_n hh, h j hj]
    exact lsum_congr fun b hb => by
      have := rg_m.mp hb
      rw [upd_n (by omega)]
theorem K_bg_push {nb : Nat} {c r : Nat → Int32} (h : K_bg nb c r) : K_bg (nb + 1) c (upd r nb (-1)) := by
  intro j hj
  rw [h j hj, cnt_push (p := fun b => decide (r b = nI j)) (fun b hb => by rw [upd_n (by omega)]), upd_s, if_neg (fun hh => nI_m1 (by omega) (of_decide_eq_true hh).symm)]
  rfl
theorem K_sale_push {nb tn : Nat} {c1 r1 c2 r2 c3 r3 c4 r4 : Nat → Int32} (h : K_sale nb tn c1 r1 c2 r2 c3 r3 c4 r4) (hn : nb < 150) : K_sale (nb + 1) tn c1 (upd r1 nb (-1)) c2 (upd r2 nb (-1)) c3 r3 c4 r4 := by
  refine ⟨fun b hb => ?_, fun b g1 g2 => h.2 b (by omega) g2⟩
  by_cases hh : b = nb
  · subst hh
    obtain ⟨e1, e2, e3⟩ := h.2 b (Nat.le_refl _) hn
    rw [upd_s, upd_s]
    exact ⟨e1, e2, Or.inl ⟨rfl, e3⟩⟩
  · rw [upd_n hh, upd_n hh]; exact h.1 b (by omega)
theorem K_sb_push {nb : Nat} {bu st : Nat → Int32} {v : Int32} (h : K_sb nb bu st) : K_sb (nb + 1) (upd bu nb (-1)) (upd st nb v) := by
  intro b hb
  by_cases hh : b = nb
  · subst hh; rw [upd_s]; exact Or.inl rfl
  · rw [upd_n hh, upd_n hh]; exact h b (by omega)
theorem K_mon_push {nb : Nat} {pu st cl : Nat → Int32} {v : Int32} (h : K_mon nb pu st cl) : K_mon (nb + 1) pu (upd st nb v) cl := by
  intro j hj
  rw [cnt_push (p := fun b => isSd (st b)) (fun b hb => by rw [upd_n (by omega)]), cnt_push (p := fun b => decide (cl b = 1)) (fun b hb => rfl)]
  have := h j hj
  omega

set_option maxHeartbeats 1000000 in
theorem c_land {N : Nat} {a1 a2 a3 a4 a5 a6 : Int32} {C R : gq_M} (hN : 600 ≤ N) (H : INV C R) : OUT kC (f_X9_land N a1 a2 a3 a4 a5 a6 C) (f_X10_land N a1 a2 a3 a4 a5 a6 R) := by
  have H0 := H
  obtain ⟨nb, nl, nr, tn, hnb, hnl, hnr, htn, hda, hop, hdr, hqu, hai, hid, hac, hlk, hla, hwt, hks, hkm, hkh, hbg, hbd, hbo, hbl, hbb, hst, hpw, hxb, hxk, hxr, hxs, hxf, hxl, hxc, hxi, hxp, hsu, hmo, hsb, hlo, hlb, hlf, hlh, hld, hsg, hlr, hcl, hhl⟩ := H0
  have hb150 := hnb.2.2
  have hl150 := hnl.2.2
  have hr20 := hnr.2.2
  have ht5 := htn.2.2
  have q150 : ((150 : Int32) ≤ nI nb) = ¬ nb < 150 := propext ((nI_leI (a := 150) (by omega) (by omega)).trans (by omega))
  have q150b : (nI nb = (150 : Int32)) = ¬ nb < 150 := propext ((nI_eq (b := 150) (by omega) (by omega)).trans (by omega))
  by_cases h1 : vp_in a1 8
  · skip
    by_cases h2 : vp_in a2 4
    · skip
      by_cases h3 : 0 ≤ a3 ∧ a3 ≤ 2
      · skip
        by_cases h4 : 1 ≤ a4 ∧ a4 ≤ 9
        · skip
          by_cases h5 : 1 ≤ a5 ∧ a5 ≤ 100
          · skip
            by_cases h6 : 1 ≤ a6 ∧ a6 ≤ 100
            · skip
              by_cases h7 : nb < 150
              · skip
                obtain ⟨i, hi, rfl⟩ := vp_in_of h1 (by omega)
                obtain ⟨k, hk, rfl⟩ := vp_in_of h2 (by omega)
                obtain ⟨y, hy, rfl⟩ := in_lit (n := 2) (by omega) h3
                obtain ⟨z, hz, hz2, rfl⟩ := rng_of (a := 1) (b := 9) (by omega) h4 (by omega)
                have g5 : rng 1 100 a5 := rng_of (a := 1) (b := 100) (by omega) h5 (by omega)
                have g6 : rng 1 100 a6 := rng_of (a := 1) (b := 100) (by omega) h6 (by omega)
                by_cases cq : R 2 (4 * i + k) + a5 ≤ R 1 (4 * i + k) + R 1 (4 * i + k) / 10
                · have hcq := eq_true cq
                  simp (disch := omega) only [f_X9_land_90, f_X9_land_59, f_X9_land, f_X10_land_235, f_X10_land_104, f_X10_land_68, f_X10_land_67, f_X10_land_19, f_X10_land_18, f_X10_land, f_X0_addLanded, f_X0_placeOf, f_X0_isAboveQuota_39, f_X0_isAboveQuota, f_X1_rankOf, f_X1_add, ↓m_exist, ↓m_beIn, ↓m_hold, e8a, e8b, e4a, e4b, e3a, e3b, ↓b_isEight, ↓b_isKind, ↓b_isHall, ↓b_areCents, ↓b_isBox, ↓b_isIn, ↓b_fails, ↓gq_b_s, ↓gq_l_e, ↓b_atN, ↓b_putN, ↓b_addN, ↓b_swapN, ↓g_inN, b_atN, b_putN, b_addN, b_swapN, g_inN, ↓g_bb0, ↓g_bb1, ↓g_bbI, bI_z, Classical.not_not, ↓reduceIte, not_true_eq_false, not_false_eq_true, f01, f02, f03, f00, ite_not, ite_self, and_self, nI_clamp, pl4, pl4b, pl8, pl8b, thr_r, thr_s, h1, h2, h3, h4, h5, h6, h7, hcq, hlk (4 * i + k) (by omega), hqu (4 * i + k) (by omega), b_sumOf0, b_add0, nI_1, nI_pred, up_ne, ne_eq, Nat.reduceEqDiff, up_row, upd_s, f10, q150, q150b, hnb.1, hnb.2.1]
                  refine out_v rfl rfl ⟨(nb + 1), nl, nr, tn, ⟨rfl, rfl, by omega⟩, ⟨hnl.1, hnl.2.1, by omega⟩, hnr, htn, hda, hop, hdr, hqu, hai, hid, hac, (eqR_up hlk), (K_ld_up hla hk), hwt, hks, hkm, hkh, hbg, hbd, hbo, hbl, (K_bg_push hbb), hst, hpw, ⟨eqR_push hxb.1, rngs_push hxb.2 ⟨i, Nat.zero_le _, by omega, rfl⟩⟩, ⟨eqR_push hxk.1, rngs_push hxk.2 g5⟩, ⟨eqR_push hxr.1, rngs_push hxr.2 g6⟩, ⟨eqR_push hxs.1, rngs_push hxs.2 ⟨0, by omega, by omega, rfl⟩⟩, (K_rk_push hxf hk (Nat.lt_succ_of_le hy) hz hz2 (rank_v hz2)), ⟨eqR_push' hxl.1 (hxl.2 nb (Nat.le_refl _) h7), fun b g1 g2 => hxl.2 b (by omega) g2⟩, ⟨eqR_ext hxc.1 ((hxc.2.2 nb (Nat.le_refl _) h7).1.trans (hxc.2.2 nb (Nat.le_refl _) h7).2.symm), hxc.2.1, fun b g1 g2 => hxc.2.2 b (by omega) g2⟩, ⟨eqR_ext hxi.1 ((hxi.2.2 nb (Nat.le_refl _) h7).1.trans (hxi.2.2 nb (Nat.le_refl _) h7).2.symm), hxi.2.1, fun b g1 g2 => hxi.2.2 b (by omega) g2⟩, (K_sale_push hxp h7), (K_sum_push (s := 5) hsu rfl), (K_mon_push hmo), (K_sb_push hsb), hlo, hlb, hlf, hlh, hld, (fun l hl => ?_), (fun b hb => ?_), hcl, (fun h hh => ?_)⟩
                  · show K_seg1 _ _ _ _ (offl (nb + 1) (upd (R 26) nb (-1)) (upd (R 19) nb 0) l)
                    rw [offl_push (by omega)]
                    exact hsg l hl
                  · show upd (R 26) nb (-1) b = -1 ∨ ∃ l, l < nl ∧ upd (R 26) nb (-1) b = nI l
                    by_cases hh : b = nb
                    · subst hh; rw [upd_s]; exact Or.inl rfl
                    · rw [upd_n hh]; exact hlr b (by omega)
                  · refine hall_fr (hhl h hh) rfl rfl rfl rfl rfl rfl rfl rfl rfl rfl rfl (fun _ _ => rfl) (fun _ _ _ => rfl) (fun l hl _ hq => ?_) (Nat.le_refl _) (fun j hj => ⟨rfl, rfl, rfl, rfl, rfl, rfl, rfl⟩)
                    show offl (nb + 1) (upd (R 26) nb (-1)) (upd (R 19) nb 0) l ≠ []
                    rw [offl_push (by omega)]
                    exact hq
                · have hcq := eq_false cq
                  simp (disch := omega) only [f_X9_land_90, f_X9_land_59, f_X9_land, f_X10_land_235, f_X10_land_104, f_X10_land_68, f_X10_land_67, f_X10_land_19, f_X10_land_18, f_X10_land, f_X0_addLanded, f_X0_placeOf, f_X0_isAboveQuota_39, f_X0_isAboveQuota, f_X1_rankOf, f_X1_add, ↓m_exist, ↓m_beIn, ↓m_hold, e8a, e8b, e4a, e4b, e3a, e3b, ↓b_isEight, ↓b_isKind, ↓b_isHall, ↓b_areCents, ↓b_isBox, ↓b_isIn, ↓b_fails, ↓gq_b_s, ↓gq_l_e, ↓b_atN, ↓b_putN, ↓b_addN, ↓b_swapN, ↓g_inN, b_atN, b_putN, b_addN, b_swapN, g_inN, ↓g_bb0, ↓g_bb1, ↓g_bbI, bI_z, Classical.not_not, ↓reduceIte, not_true_eq_false, not_false_eq_true, f01, f02, f03, f00, ite_not, ite_self, and_self, nI_clamp, pl4, pl4b, pl8, pl8b, thr_r, thr_s, h1, h2, h3, h4, h5, h6, h7, hcq, hlk (4 * i + k) (by omega), hqu (4 * i + k) (by omega), b_sumOf1, b_add0, nI_1, nI_pred, up_ne, ne_eq, Nat.reduceEqDiff, up_row, upd_s, f10, q150, q150b, hnb.1, hnb.2.1]
                  refine out_v rfl rfl ⟨(nb + 1), nl, nr, tn, ⟨rfl, rfl, by omega⟩, ⟨hnl.1, hnl.2.1, by omega⟩, hnr, htn, hda, hop, hdr, hqu, hai, hid, hac, (eqR_up hlk), (K_ld_up hla hk), hwt, hks, hkm, hkh, hbg, hbd, hbo, hbl, (K_bg_push hbb), hst, hpw, ⟨eqR_push hxb.1, rngs_push hxb.2 ⟨i, Nat.zero_le _, by omega, rfl⟩⟩, ⟨eqR_push hxk.1, rngs_push hxk.2 g5⟩, ⟨eqR_push hxr.1, rngs_push hxr.2 g6⟩, ⟨eqR_push hxs.1, rngs_push hxs.2 ⟨1, by omega, by omega, rfl⟩⟩, (K_rk_push hxf hk (Nat.lt_succ_of_le hy) hz hz2 (rank_v hz2)), ⟨eqR_push' hxl.1 (hxl.2 nb (Nat.le_refl _) h7), fun b g1 g2 => hxl.2 b (by omega) g2⟩, ⟨eqR_ext hxc.1 ((hxc.2.2 nb (Nat.le_refl _) h7).1.trans (hxc.2.2 nb (Nat.le_refl _) h7).2.symm), hxc.2.1, fun b g1 g2 => hxc.2.2 b (by omega) g2⟩, ⟨eqR_ext hxi.1 ((hxi.2.2 nb (Nat.le_refl _) h7).1.trans (hxi.2.2 nb (Nat.le_refl _) h7).2.symm), hxi.2.1, fun b g1 g2 => hxi.2.2 b (by omega) g2⟩, (K_sale_push hxp h7), (K_sum_push (s := 4) hsu rfl), (K_mon_push hmo), (K_sb_push hsb), hlo, hlb, hlf, hlh, hld, (fun l hl => ?_), (fun b hb => ?_), hcl, (fun h hh => ?_)⟩
                  · show K_seg1 _ _ _ _ (offl (nb + 1) (upd (R 26) nb (-1)) (upd (R 19) nb 1) l)
                    rw [offl_push (by omega)]
                    exact hsg l hl
                  · show upd (R 26) nb (-1) b = -1 ∨ ∃ l, l < nl ∧ upd (R 26) nb (-1) b = nI l
                    by_cases hh : b = nb
                    · subst hh; rw [upd_s]; exact Or.inl rfl
                    · rw [upd_n hh]; exact hlr b (by omega)
                  · refine hall_fr (hhl h hh) rfl rfl rfl rfl rfl rfl rfl rfl rfl rfl rfl (fun _ _ => rfl) (fun _ _ _ => rfl) (fun l hl _ hq => ?_) (Nat.le_refl _) (fun j hj => ⟨rfl, rfl, rfl, rfl, rfl, rfl, rfl⟩)
                    show offl (nb + 1) (upd (R 26) nb (-1)) (upd (R 19) nb 1) l ≠ []
                    rw [offl_push (by omega)]
                    exact hq
              · simp (disch := omega) only [f_X9_land_90, f_X9_land_59, f_X9_land, f_X10_land_235, f_X10_land_104, f_X10_land_68, f_X10_land_67, f_X10_land_19, f_X10_land_18, f_X10_land, ↓m_exist, ↓m_beIn, ↓m_hold, e8a, e8b, e4a, e4b, e3a, e3b, ↓b_isEight, ↓b_isKind, ↓b_isHall, ↓b_areCents, ↓b_isBox, ↓b_isIn, ↓b_fails, ↓gq_b_s, ↓gq_l_e, ↓b_atN, ↓b_putN, ↓b_addN, ↓b_swapN, ↓g_inN, b_atN, b_putN, b_addN, b_swapN, g_inN, ↓g_bb0, ↓g_bb1, ↓g_bbI, bI_z, Classical.not_not, ↓reduceIte, not_true_eq_false, not_false_eq_true, f01, f02, f03, f00, ite_not, ite_self, and_self, nI_clamp, pl4, pl4b, pl8, pl8b, thr_r, thr_s, h1, h2, h3, h4, h5, h6, h7, q150, q150b, hnb.1, hnb.2.1]
                exact out_t H rfl
            · simp (disch := omega) only [f_X9_land_90, f_X9_land_59, f_X9_land, f_X10_land_235, f_X10_land_104, f_X10_land_68, f_X10_land_67, f_X10_land_19, f_X10_land_18, f_X10_land, ↓m_exist, ↓m_beIn, ↓m_hold, e8a, e8b, e4a, e4b, e3a, e3b, ↓b_isEight, ↓b_isKind, ↓b_isHall, ↓b_areCents, ↓b_isBox, ↓b_isIn, ↓b_fails, ↓gq_b_s, ↓gq_l_e, ↓b_atN, ↓b_putN, ↓b_addN, ↓b_swapN, ↓g_inN, b_atN, b_putN, b_addN, b_swapN, g_inN, ↓g_bb0, ↓g_bb1, ↓g_bbI, bI_z, Classical.not_not, ↓reduceIte, not_true_eq_false, not_false_eq_true, f01, f02, f03, f00, ite_not, ite_self, and_self, nI_clamp, pl4, pl4b, pl8, pl8b, thr_r, thr_s, h1, h2, h3, h4, h5, h6, q150, q150b, hnb.1, hnb.2.1]
              exact out_t H rfl
          · simp (disch := omega) only [f_X9_land_90, f_X9_land_59, f_X9_land, f_X10_land_235, f_X10_land_104, f_X10_land_68, f_X10_land_67, f_X10_land_19, f_X10_land_18, f_X10_land, ↓m_exist, ↓m_beIn, ↓m_hold, e8a, e8b, e4a, e4b, e3a, e3b, ↓b_isEight, ↓b_isKind, ↓b_isHall, ↓b_areCents, ↓b_isBox, ↓b_isIn, ↓b_fails, ↓gq_b_s, ↓gq_l_e, ↓b_atN, ↓b_putN, ↓b_addN, ↓b_swapN, ↓g_inN, b_atN, b_putN, b_addN, b_swapN, g_inN, ↓g_bb0, ↓g_bb1, ↓g_bbI, bI_z, Classical.not_not, ↓reduceIte, not_true_eq_false, not_false_eq_true, f01, f02, f03, f00, ite_not, ite_self, and_self, nI_clamp, pl4, pl4b, pl8, pl8b, thr_r, thr_s, h1, h2, h3, h4, h5, q150, q150b, hnb.1, hnb.2.1]
            exact out_t H rfl
        · simp (disch := omega) only [f_X9_land_90, f_X9_land_59, f_X9_land, f_X10_land_235, f_X10_land_104, f_X10_land_68, f_X10_land_67, f_X10_land_19, f_X10_land_18, f_X10_land, ↓m_exist, ↓m_beIn, ↓m_hold, e8a, e8b, e4a, e4b, e3a, e3b, ↓b_isEight, ↓b_isKind, ↓b_isHall, ↓b_areCents, ↓b_isBox, ↓b_isIn, ↓b_fails, ↓gq_b_s, ↓gq_l_e, ↓b_atN, ↓b_putN, ↓b_addN, ↓b_swapN, ↓g_inN, b_atN, b_putN, b_addN, b_swapN, g_inN, ↓g_bb0, ↓g_bb1, ↓g_bbI, bI_z, Classical.not_not, ↓reduceIte, not_true_eq_false, not_false_eq_true, f01, f02, f03, f00, ite_not, ite_self, and_self, nI_clamp, pl4, pl4b, pl8, pl8b, thr_r, thr_s, h1, h2, h3, h4, q150, q150b, hnb.1, hnb.2.1]
          exact out_t H rfl
      · simp (disch := omega) only [f_X9_land_90, f_X9_land_59, f_X9_land, f_X10_land_235, f_X10_land_104, f_X10_land_68, f_X10_land_67, f_X10_land_19, f_X10_land_18, f_X10_land, ↓m_exist, ↓m_beIn, ↓m_hold, e8a, e8b, e4a, e4b, e3a, e3b, ↓b_isEight, ↓b_isKind, ↓b_isHall, ↓b_areCents, ↓b_isBox, ↓b_isIn, ↓b_fails, ↓gq_b_s, ↓gq_l_e, ↓b_atN, ↓b_putN, ↓b_addN, ↓b_swapN, ↓g_inN, b_atN, b_putN, b_addN, b_swapN, g_inN, ↓g_bb0, ↓g_bb1, ↓g_bbI, bI_z, Classical.not_not, ↓reduceIte, not_true_eq_false, not_false_eq_true, f01, f02, f03, f00, ite_not, ite_self, and_self, nI_clamp, pl4, pl4b, pl8, pl8b, thr_r, thr_s, h1, h2, h3, q150, q150b, hnb.1, hnb.2.1]
        exact out_t H rfl
    · simp (disch := omega) only [f_X9_land_90, f_X9_land_59, f_X9_land, f_X10_land_235, f_X10_land_104, f_X10_land_68, f_X10_land_67, f_X10_land_19, f_X10_land_18, f_X10_land, ↓m_exist, ↓m_beIn, ↓m_hold, e8a, e8b, e4a, e4b, e3a, e3b, ↓b_isEight, ↓b_isKind, ↓b_isHall, ↓b_areCents, ↓b_isBox, ↓b_isIn, ↓b_fails, ↓gq_b_s, ↓gq_l_e, ↓b_atN, ↓b_putN, ↓b_addN, ↓b_swapN, ↓g_inN, b_atN, b_putN, b_addN, b_swapN, g_inN, ↓g_bb0, ↓g_bb1, ↓g_bbI, bI_z, Classical.not_not, ↓reduceIte, not_true_eq_false, not_false_eq_true, f01, f02, f03, f00, ite_not, ite_self, and_self, nI_clamp, pl4, pl4b, pl8, pl8b, thr_r, thr_s, h1, h2, q150, q150b, hnb.1, hnb.2.1]
      exact out_t H rfl
  · simp (disch := omega) only [f_X9_land_90, f_X9_land_59, f_X9_land, f_X10_land_235, f_X10_land_104, f_X10_land_68, f_X10_land_67, f_X10_land_19, f_X10_land_18, f_X10_land, ↓m_exist, ↓m_beIn, ↓m_hold, e8a, e8b, e4a, e4b, e3a, e3b, ↓b_isEight, ↓b_isKind, ↓b_isHall, ↓b_areCents, ↓b_isBox, ↓b_isIn, ↓b_fails, ↓gq_b_s, ↓gq_l_e, ↓b_atN, ↓b_putN, ↓b_addN, ↓b_swapN, ↓g_inN, b_atN, b_putN, b_addN, b_swapN, g_inN, ↓g_bb0, ↓g_bb1, ↓g_bbI, bI_z, Classical.not_not, ↓reduceIte, not_true_eq_false, not_false_eq_true, f01, f02, f03, f00, ite_not, ite_self, and_self, nI_clamp, pl4, pl4b, pl8, pl8b, thr_r, thr_s, h1, q150, q150b, hnb.1, hnb.2.1]
    exact out_t H rfl
