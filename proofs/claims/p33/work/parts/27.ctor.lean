/-! the constructors -/
def gc_ad (h0 : Nat) (u : Nat → Nat) : Nat → Nat := fun k => if k = 0 then h0 else u k
/-- two contents that agree on the places that there are -/
def gq_ag1 (f g : Nat → Int32) (n : Nat) : Bool := (List.range n).all (fun j => decide (f j = g j))
def gq_ag : Nat → List gq_T → gq_M → gq_M → Bool
  | _, [], _, _ => true
  | k, .inl o :: r, M, M2 => gq_ag1 (M k) (M2 k) o.2.length && gq_ag (k + 1) r M M2
  | k, .inr a :: r, M, M2 => gq_ag1 (M k) (M2 k) a.2 && gq_ag (k + 1) r M M2
theorem gq_ag1_i {f g : Nat → Int32} {n : Nat} (h : gq_ag1 f g n = true) : ∀ j, j < n → f j = g j := fun j hj => of_decide_eq_true (List.all_eq_true.mp h j (List.mem_range.mpr hj))
theorem gq_ag1_o {f g : Nat → Int32} {n : Nat} (h : ∀ j, j < n → f j = g j) : gq_ag1 f g n = true := List.all_eq_true.mpr fun j hj => decide_eq_true (h j (List.mem_range.mp hj))
theorem gq_ag_i : ∀ (mt : List gq_T) (k : Nat) {M M2 : gq_M}, gq_ag k mt M M2 = true → ∀ (i : Nat) (t : gq_T), mt[i]? = some t → match t with | .inl o => gq_ag1 (M (k + i)) (M2 (k + i)) o.2.length = true | .inr a => gq_ag1 (M (k + i)) (M2 (k + i)) a.2 = true
  | [], _, _, _, _, _, _, h => by cases h
  | .inl o :: r, k, M, M2, h, 0, t, e => by cases e; exact (Bool.and_eq_true _ _ ▸ h : _ ∧ _).1
  | .inr a :: r, k, M, M2, h, 0, t, e => by cases e; exact (Bool.and_eq_true _ _ ▸ h : _ ∧ _).1
  | .inl o :: r, k, M, M2, h, i + 1, t, e => by
    have := gq_ag_i r (k + 1) (Bool.and_eq_true _ _ ▸ h : _ ∧ _).2 i t e
    rw [show k + 1 + i = k + (i + 1) by omega] at this
    exact this
  | .inr a :: r, k, M, M2, h, i + 1, t, e => by
    have := gq_ag_i r (k + 1) (Bool.and_eq_true _ _ ▸ h : _ ∧ _).2 i t e
    rw [show k + 1 + i = k + (i + 1) by omega] at this
    exact this
theorem gq_fd_cong (ad : Nat → Nat) (f g : Nat → Int32) : ∀ (fd : List (Option Nat)) (j0 : Nat), (∀ j, j < fd.length → f (j0 + j) = g (j0 + j)) → gq_fd ad f j0 fd = gq_fd ad g j0 fd
  | [], _, _ => rfl
  | some q :: r, j0, h => by
    show Value.ref (ad q) :: _ = Value.ref (ad q) :: _
    rw [gq_fd_cong ad f g r (j0 + 1) (fun j hj => by have := h (j + 1) (by simp; omega); rwa [show j0 + (j + 1) = j0 + 1 + j by omega] at this)]
  | none :: r, j0, h => by
    show Value.int (f j0) :: _ = Value.int (g j0) :: _
    rw [gq_fd_cong ad f g r (j0 + 1) (fun j hj => by have := h (j + 1) (by simp; omega); rwa [show j0 + (j + 1) = j0 + 1 + j by omega] at this), show f j0 = g j0 from h 0 (by simp)]
theorem gq_ag_P {D : va_G} {cI cZ : ClassId} {ad : Nat → Nat} {mt : List gq_T} {M M2 : gq_M} {H : Heap} (h : gq_ag 0 mt M M2 = true) (hP : va_P D vwCl (gq_ws cI cZ ad M 0 mt) H) : va_P D vwCl (gq_ws cI cZ ad M2 0 mt) H := by
  intro k q hq
  rw [gq_ws_at] at hq
  cases hm : mt[k]? with
  | none => rw [hm] at hq; cases hq
  | some t =>
    rw [hm] at hq
    cases hq
    have h1 := hP k _ (gq_ws_get (cI := cI) (cZ := cZ) (ad := ad) (M := M) hm)
    have h2 := gq_ag_i mt 0 h k t hm
    rw [Nat.zero_add] at h2 ⊢
    cases t with
    | inl o =>
      have h3 : gq_fd ad (M k) 0 o.2 = gq_fd ad (M2 k) 0 o.2 := gq_fd_cong ad _ _ o.2 0 (fun j hj => by rw [Nat.zero_add]; exact gq_ag1_i h2 j hj)
      show va_at D vwCl (ad k, .inr (o.1, gq_fd ad (M2 k) 0 o.2)) H
      rw [← h3]; exact h1
    | inr a =>
      show H[ad k]? = some (arrV _ a.2 (fun j => .int (M2 k j)))
      have h4 : arrV (if a.1 then cZ else cI) a.2 (fun j => .int (M k j)) = arrV (if a.1 then cZ else cI) a.2 (fun j => .int (M2 k j)) := by
        unfold arrV
        congr 1
        apply Array.ext
        · simp
        · intro i h5 h6
          simp only [Array.getElem_ofFn]
          rw [gq_ag1_i h2 i (by simpa using h5)]
      rw [← h4]; exact h1
/-- a row of n cells, all v -/
def gc_rowW (cI : ClassId) (h0 : Nat) (n : Nat) (v : Int32) (r : Nat) : va_W := [(h0, .inr (8, [.ref r])), (r, .inl (cI, n, .inl (fun _ => v)))]
def mtRow (n : Nat) : List gq_T := [.inl (8, [some 1]), .inr (false, n)]
section
variable {p : Program} {l : Launch} {e : Env} {s : State} {m : MethodId} {args : Array Value} {below : List Frame} {meth : Method} {c : Code} {D : va_G} {A : Nat → Prop} {cI cZ : ClassId}
theorem k_row_loop {ad : Nat → Nat} {n : Nat} {v : Int32} {kc ks : Nat} (hn : n < 1000) (hC : gq_C p s m args meth c D A cI cZ ad (mtRow n) RX8 cX8_init 4) (hr : meth.sig.returnType = none) : ∀ (k i : Nat) (M : gq_M), i + k = n → (∀ j, j < i → M 1 j = v) → gq_W p l e (gc_rm 1 1 n) s m args below meth c D A cI cZ ad (mtRow n) 4 (MQ below (gc_Qv D cI cZ A (gc_rowW cI (ad 0) n v)) args s kc ks A) 21 [(3, .int (nI i)), (0, .ref (ad 0)), (1, .int (nI n)), (2, .int v)] [] M kc ks := by
  have hq : gq_lk (mtRow n) 0 8 0 (some 1) := ⟨_, rfl, rfl⟩
  have hr2 : (mtRow n)[1]? = some (.inr (false, n)) := rfl
  intro k
  induction k with
  | zero =>
    intro i M hi hM
    have hi : i = n := by omega
    subst hi
    refine g_iload_n hC 0 rfl rfl dX8_init_21 ?_
    refine g_aload_n hC 1 rfl rfl dX8_init_22 ?_
    refine g_getR hC fF_X8_7 hq dX8_init_23 ?_
    refine g_alen hC hr2 dX8_init_26 ?_
    refine g_icmp_ge (tgt := 43) hC (by decide) dX8_init_27 (fun c1 => ?_) (fun c1 => absurd (nI_le (Nat.le_refl i) (by omega)) c1)
    intro H locs ls hP hS hl
    have hP2 : va_P D vwCl (gq_ws cI cZ ad (fun k => if k = 0 then M 0 else fun _ => v) 0 (mtRow i)) H := gq_ag_P (M := M) (by
      show (gq_ag1 (M 0) (M 0) 1 && (gq_ag1 (M 1) (fun _ => v) i && true)) = true
      rw [gq_ag1_o (fun _ _ => rfl), gq_ag1_o hM]; rfl) hP
    have hD2 : va_D A (gq_ws cI cZ ad (fun k => if k = 0 then M 0 else fun _ => v) 0 (mtRow i)) := gq_D hC.2.2.2.2.2.2.2.2
    exact W.vret hC.1 hC.2.1 hr (fun t ht hW => ⟨⟨ad 1, rfl, trivial, by rw [ht]; exact hP2, va_K.moved hW.alike hC.2.2.2.2.2.1, hD2⟩, hS.F ht⟩) hS.2.2 dX8_init_43 hC.2.2.2.2.2.2.1
  | succ k ih =>
    intro i M hi hM
    refine g_iload_n hC 0 rfl rfl dX8_init_21 ?_
    refine g_aload_n hC 1 rfl rfl dX8_init_22 ?_
    refine g_getR hC fF_X8_7 hq dX8_init_23 ?_
    refine g_alen hC hr2 dX8_init_26 ?_
    refine g_icmp_ge (tgt := 43) hC (by decide) dX8_init_27 (fun c1 => absurd c1 (nI_ge (by omega) (by omega))) (fun c1 => ?_)
    refine g_aload_n hC 1 rfl rfl dX8_init_30 ?_
    refine g_getR hC fF_X8_7 hq dX8_init_31 ?_
    refine g_iload_n hC 0 rfl rfl dX8_init_34 ?_
    refine g_iload_n hC 3 rfl rfl dX8_init_35 ?_
    refine g_iast hC hr2 (vp_in_nI (by omega) (by omega)) dX8_init_36 ?_
    refine g_iinc (n := 1) (v := nI (i + 1)) (L2 := [(3, .int (nI (i + 1))), (0, .ref (ad 0)), (1, .int (nI n)), (2, .int v)]) hC 0 rfl (by rw [show Int32.ofInt 1 = (1 : Int32) from rfl]; exact nI_1 i) (by decide) rfl dX8_init_37 ?_
    refine g_goto (tgt := 21) hC (by decide) dX8_init_40 ?_
    refine ih (i + 1) _ (by omega) (fun j hj => ?_)
    rw [nI_clamp (by omega)]
    show (if (1 : Nat) = 1 then upd (M 1) i v else M 1) j = v
    rw [if_pos rfl]
    by_cases h : j = i
    · rw [h]; exact if_pos rfl
    · exact (if_neg h).trans (hM j (by omega))
end
set_option maxHeartbeats 1000000 in
set_option maxRecDepth 20000 in
theorem k_row {l : Launch} {D : va_G} {cI cZ : ClassId} (h0 n : Nat) (hn : n < 1000) (v : Int32) : gc_Ct l D cI cZ yX8_init cX8_init 4 1 1 n [.ref h0, .int (nI n), .int v] [(h0, .inr (8, [.null]))] (gc_rowW cI h0 n v) := by
  refine gc_intro (own := RX8) (by decide) rfl (Nat.le_of_ble_eq_true rfl) ?_
  intro p e s m below meth c hC hr hnm0
  refine gc_cast (L2 := [(0, .ref h0), (1, .int (nI n)), (2, .int v)]) ?_ rfl rfl rfl rfl rfl rfl
  refine gc_aload_n hC 0 rfl rfl dX8_init_0 ?_
  refine gc_objInit hC wo_X8 wo_i wo_c ⟨Nat.le_refl 1, Nat.le_of_ble_eq_true rfl⟩ dX8_init_1 ?_
  refine gc_aload_n hC 0 rfl rfl dX8_init_4 ?_
  refine gc_iload_n hC 1 rfl rfl dX8_init_5 ?_
  refine gc_if_ge (tgt := 13) hC (by decide) dX8_init_6 (fun _ => ?_) (fun c1 => absurd (nI_pos' (by omega)) c1)
  refine gc_iload_n hC 1 rfl rfl dX8_init_13 ?_
  refine gc_newaI hC wa_int (nI_pos (by omega)) (nI_clamp (by omega)) (by omega) (Nat.le_refl 1) (by show 0 + n ≤ n; omega) dX8_init_14 (fun r => ?_)
  refine gc_cast (ws2 := [(h0, .inr (8, [.null])), (r, .inl (cI, n, .inl (fun _ => 0)))]) (kc2 := 1) (ks2 := n) ?_ rfl rfl rfl rfl rfl (Nat.zero_add n)
  refine gc_putR hC hnm0 tyX8 rfl inX8 tyX8_ok nmX8 (k := 0) (by decide) wf_X8_7 rfl rfl (by decide +kernel : _ = some (FieldType.array .int)) rfl rfl (by decide) dX8_init_16 ?_
  refine gc_iconst (v := 0) hC (by decide) dX8_init_19 ?_
  refine gc_istore_n (L2 := [(3, .int 0), (0, .ref h0), (1, .int (nI n)), (2, .int v)]) hC rfl (by decide) rfl dX8_init_20 ?_
  refine gc_toq (cI := cI) (cZ := cZ) (ad := fun k => if k = 0 then h0 else r) (mt := mtRow n) (M := fun _ _ => 0) rfl (fun hDD => ?_)
  exact k_row_loop hn ⟨hC.1, hC.2.1, hC.2.2.1, hC.2.2.2.1, hC.2.2.2.2.1, hC.2.2.2.2.2.1, hC.2.2.2.2.2.2.1, hC.2.2.2.2.2.2.2, hDD⟩ hr n 0 _ (Nat.zero_add n) (fun j hj => absurd hj (Nat.not_lt_zero j))
def mtS_X0 : List gq_T := [.inl (0, [some 1, some 3, some 5, some 7, some 9, some 11, some 13]), .inl (8, [some 2]), .inr (false, 32), .inl (8, [some 4]), .inr (false, 32), .inl (8, [some 6]), .inr (false, 8), .inl (8, [some 8]), .inr (false, 8), .inl (8, [some 10]), .inr (false, 8), .inl (8, [some 12]), .inr (false, 8), .inl (8, [some 14]), .inr (false, 8)]
def MS_X0 : gq_M := fun k => [(fun _ => 0), (fun _ => 0), (fun _ => 10000), (fun _ => 0), (fun _ => 0), (fun _ => 0), (fun _ => 0), (fun _ => 0), (fun _ => 0), (fun _ => 0), (fun _ => 0), (fun _ => 0), (fun _ => 0), (fun _ => 0), (fun _ => 0)].getD k (fun _ => 0)
set_option maxHeartbeats 1000000 in
set_option maxRecDepth 20000 in
theorem k_X0 {l : Launch} {D : va_G} {cI cZ : ClassId} (h0 : Nat) : gc_Ct l D cI cZ yX0_init cX0_init 1 2 14 111 [.ref h0] [(h0, .inr (0, [.null, .null, .null, .null, .null, .null, .null]))] (fun u => gq_ws cI cZ (gc_ad h0 u) MS_X0 0 mtS_X0) := by
  refine gc_intro (own := RX0) (by decide) rfl (Nat.le_of_ble_eq_true rfl) ?_
  intro p e s m below meth c hC hr hnm0
  refine gc_cast (L2 := [(0, .ref h0)]) ?_ rfl rfl rfl rfl rfl rfl
  refine gc_aload_n hC 0 rfl rfl dX0_init_0 ?_
  refine gc_objInit hC wo_X0 wo_i wo_c ⟨by decide, Nat.le_of_ble_eq_true rfl⟩ dX0_init_1 ?_
  refine gc_aload_n hC 0 rfl rfl dX0_init_4 ?_
  refine gc_new (ci := 8) hC tyX8 (fs := [.null]) rfl inX8 tyX8_ok wl_X0_9 wj_X8 wn_X8 (fun j hj => by rw [show j = 0 by omega]; rfl) (by decide) (by decide) dX0_init_5 (fun q0 => ?_)
  refine gc_dup hC rfl dX0_init_8 ?_
  refine gc_bipush (v := 32) hC (by decide) dX0_init_9 ?_
  refine gc_sipush (v := 10000) hC (by decide) dX0_init_11 ?_
  refine gc_callI (X := [(h0, .inr (0, [.null, .null, .null, .null, .null, .null, .null]))]) hC (k_row q0 32 (by decide) 10000) mI_X8_init wm_X0_11 rfl rfl rfl (Nat.le_of_ble_eq_true rfl) ⟨by decide, by decide⟩ ⟨by decide, by decide⟩ dX0_init_14 (fun r0 => ?_)
  refine gc_cast (ws2 := [(h0, .inr (0, [.null, .null, .null, .null, .null, .null, .null])), (q0, .inr (8, [.ref r0])), (r0, .inl (cI, 32, .inl (fun _ => 10000)))]) (kc2 := 2) (ks2 := 33) ?_ rfl rfl rfl rfl rfl rfl
  refine gc_putR hC hnm0 tyX0 rfl inX0 tyX0_ok nmX0 (k := 0) (by decide) wf_X0_14 rfl rfl (by decide +kernel : _ = some (FieldType.object "Fishclock$Row")) rfl rfl (Nat.le_of_ble_eq_true rfl) dX0_init_17 ?_
  refine gc_cast (ws2 := [(h0, .inr (0, [.ref q0, .null, .null, .null, .null, .null, .null])), (q0, .inr (8, [.ref r0])), (r0, .inl (cI, 32, .inl (fun _ => 10000)))]) ?_ rfl rfl rfl rfl rfl rfl
  refine gc_aload_n hC 0 rfl rfl dX0_init_20 ?_
  refine gc_new (ci := 8) hC tyX8 (fs := [.null]) rfl inX8 tyX8_ok wl_X0_9 wj_X8 wn_X8 (fun j hj => by rw [show j = 0 by omega]; rfl) (by decide) (by decide) dX0_init_21 (fun q1 => ?_)
  refine gc_dup hC rfl dX0_init_24 ?_
  refine gc_bipush (v := 32) hC (by decide) dX0_init_25 ?_
  refine gc_iconst (v := 0) hC (by decide) dX0_init_27 ?_
  refine gc_callI (X := [(h0, .inr (0, [.ref q0, .null, .null, .null, .null, .null, .null])), (q0, .inr (8, [.ref r0])), (r0, .inl (cI, 32, .inl (fun _ => 10000)))]) hC (k_row q1 32 (by decide) 0) mI_X8_init wm_X0_11 rfl rfl rfl (Nat.le_of_ble_eq_true rfl) ⟨by decide, by decide⟩ ⟨by decide, by decide⟩ dX0_init_28 (fun r1 => ?_)
  refine gc_cast (ws2 := [(h0, .inr (0, [.ref q0, .null, .null, .null, .null, .null, .null])), (q0, .inr (8, [.ref r0])), (r0, .inl (cI, 32, .inl (fun _ => 10000))), (q1, .inr (8, [.ref r1])), (r1, .inl (cI, 32, .inl (fun _ => 0)))]) (kc2 := 4) (ks2 := 66) ?_ rfl rfl rfl rfl rfl rfl
  refine gc_putR hC hnm0 tyX0 rfl inX0 tyX0_ok nmX0 (k := 1) (by decide) wf_X0_20 rfl rfl (by decide +kernel : _ = some (FieldType.object "Fishclock$Row")) rfl rfl (Nat.le_of_ble_eq_true rfl) dX0_init_31 ?_
  refine gc_cast (ws2 := [(h0, .inr (0, [.ref q0, .ref q1, .null, .null, .null, .null, .null])), (q0, .inr (8, [.ref r0])), (r0, .inl (cI, 32, .inl (fun _ => 10000))), (q1, .inr (8, [.ref r1])), (r1, .inl (cI, 32, .inl (fun _ => 0)))]) ?_ rfl rfl rfl rfl rfl rfl
  refine gc_aload_n hC 0 rfl rfl dX0_init_34 ?_
  refine gc_new (ci := 8) hC tyX8 (fs := [.null]) rfl inX8 tyX8_ok wl_X0_9 wj_X8 wn_X8 (fun j hj => by rw [show j = 0 by omega]; rfl) (by decide) (by decide) dX0_init_35 (fun q2 => ?_)
  refine gc_dup hC rfl dX0_init_38 ?_
  refine gc_bipush (v := 8) hC (by decide) dX0_init_39 ?_
  refine gc_iconst (v := 0) hC (by decide) dX0_init_41 ?_
  refine gc_callI (X := [(h0, .inr (0, [.ref q0, .ref q1, .null, .null, .null, .null, .null])), (q0, .inr (8, [.ref r0])), (r0, .inl (cI, 32, .inl (fun _ => 10000))), (q1, .inr (8, [.ref r1])), (r1, .inl (cI, 32, .inl (fun _ => 0)))]) hC (k_row q2 8 (by decide) 0) mI_X8_init wm_X0_11 rfl rfl rfl (Nat.le_of_ble_eq_true rfl) ⟨by decide, by decide⟩ ⟨by decide, by decide⟩ dX0_init_42 (fun r2 => ?_)
  refine gc_cast (ws2 := [(h0, .inr (0, [.ref q0, .ref q1, .null, .null, .null, .null, .null])), (q0, .inr (8, [.ref r0])), (r0, .inl (cI, 32, .inl (fun _ => 10000))), (q1, .inr (8, [.ref r1])), (r1, .inl (cI, 32, .inl (fun _ => 0))), (q2, .inr (8, [.ref r2])), (r2, .inl (cI, 8, .inl (fun _ => 0)))]) (kc2 := 6) (ks2 := 75) ?_ rfl rfl rfl rfl rfl rfl
  refine gc_putR hC hnm0 tyX0 rfl inX0 tyX0_ok nmX0 (k := 2) (by decide) wf_X0_23 rfl rfl (by decide +kernel : _ = some (FieldType.object "Fishclock$Row")) rfl rfl (Nat.le_of_ble_eq_true rfl) dX0_init_45 ?_
  refine gc_cast (ws2 := [(h0, .inr (0, [.ref q0, .ref q1, .ref q2, .null, .null, .null, .null])), (q0, .inr (8, [.ref r0])), (r0, .inl (cI, 32, .inl (fun _ => 10000))), (q1, .inr (8, [.ref r1])), (r1, .inl (cI, 32, .inl (fun _ => 0))), (q2, .inr (8, [.ref r2])), (r2, .inl (cI, 8, .inl (fun _ => 0)))]) ?_ rfl rfl rfl rfl rfl rfl
  refine gc_aload_n hC 0 rfl rfl dX0_init_48 ?_
  refine gc_new (ci := 8) hC tyX8 (fs := [.null]) rfl inX8 tyX8_ok wl_X0_9 wj_X8 wn_X8 (fun j hj => by rw [show j = 0 by omega]; rfl) (by decide) (by decide) dX0_init_49 (fun q3 => ?_)
  refine gc_dup hC rfl dX0_init_52 ?_
  refine gc_bipush (v := 8) hC (by decide) dX0_init_53 ?_
  refine gc_iconst (v := 0) hC (by decide) dX0_init_55 ?_
  refine gc_callI (X := [(h0, .inr (0, [.ref q0, .ref q1, .ref q2, .null, .null, .null, .null])), (q0, .inr (8, [.ref r0])), (r0, .inl (cI, 32, .inl (fun _ => 10000))), (q1, .inr (8, [.ref r1])), (r1, .inl (cI, 32, .inl (fun _ => 0))), (q2, .inr (8, [.ref r2])), (r2, .inl (cI, 8, .inl (fun _ => 0)))]) hC (k_row q3 8 (by decide) 0) mI_X8_init wm_X0_11 rfl rfl rfl (Nat.le_of_ble_eq_true rfl) ⟨by decide, by decide⟩ ⟨by decide, by decide⟩ dX0_init_56 (fun r3 => ?_)
  refine gc_cast (ws2 := [(h0, .inr (0, [.ref q0, .ref q1, .ref q2, .null, .null, .null, .null])), (q0, .inr (8, [.ref r0])), (r0, .inl (cI, 32, .inl (fun _ => 10000))), (q1, .inr (8, [.ref r1])), (r1, .inl (cI, 32, .inl (fun _ => 0))), (q2, .inr (8, [.ref r2])), (r2, .inl (cI, 8, .inl (fun _ => 0))), (q3, .inr (8, [.ref r3])), (r3, .inl (cI, 8, .inl (fun _ => 0)))]) (kc2 := 8) (ks2 := 84) ?_ rfl rfl rfl rfl rfl rfl
  refine gc_putR hC hnm0 tyX0 rfl inX0 tyX0_ok nmX0 (k := 3) (by decide) wf_X0_26 rfl rfl (by decide +kernel : _ = some (FieldType.object "Fishclock$Row")) rfl rfl (Nat.le_of_ble_eq_true rfl) dX0_init_59 ?_
  refine gc_cast (ws2 := [(h0, .inr (0, [.ref q0, .ref q1, .ref q2, .ref q3, .null, .null, .null])), (q0, .inr (8, [.ref r0])), (r0, .inl (cI, 32, .inl (fun _ => 10000))), (q1, .inr (8, [.ref r1])), (r1, .inl (cI, 32, .inl (fun _ => 0))), (q2, .inr (8, [.ref r2])), (r2, .inl (cI, 8, .inl (fun _ => 0))), (q3, .inr (8, [.ref r3])), (r3, .inl (cI, 8, .inl (fun _ => 0)))]) ?_ rfl rfl rfl rfl rfl rfl
  refine gc_aload_n hC 0 rfl rfl dX0_init_62 ?_
  refine gc_new (ci := 8) hC tyX8 (fs := [.null]) rfl inX8 tyX8_ok wl_X0_9 wj_X8 wn_X8 (fun j hj => by rw [show j = 0 by omega]; rfl) (by decide) (by decide) dX0_init_63 (fun q4 => ?_)
  refine gc_dup hC rfl dX0_init_66 ?_
  refine gc_bipush (v := 8) hC (by decide) dX0_init_67 ?_
  refine gc_iconst (v := 0) hC (by decide) dX0_init_69 ?_
  refine gc_callI (X := [(h0, .inr (0, [.ref q0, .ref q1, .ref q2, .ref q3, .null, .null, .null])), (q0, .inr (8, [.ref r0])), (r0, .inl (cI, 32, .inl (fun _ => 10000))), (q1, .inr (8, [.ref r1])), (r1, .inl (cI, 32, .inl (fun _ => 0))), (q2, .inr (8, [.ref r2])), (r2, .inl (cI, 8, .inl (fun _ => 0))), (q3, .inr (8, [.ref r3])), (r3, .inl (cI, 8, .inl (fun _ => 0)))]) hC (k_row q4 8 (by decide) 0) mI_X8_init wm_X0_11 rfl rfl rfl (Nat.le_of_ble_eq_true rfl) ⟨by decide, by decide⟩ ⟨by decide, by decide⟩ dX0_init_70 (fun r4 => ?_)
  refine gc_cast (ws2 := [(h0, .inr (0, [.ref q0, .ref q1, .ref q2, .ref q3, .null, .null, .null])), (q0, .inr (8, [.ref r0])), (r0, .inl (cI, 32, .inl (fun _ => 10000))), (q1, .inr (8, [.ref r1])), (r1, .inl (cI, 32, .inl (fun _ => 0))), (q2, .inr (8, [.ref r2])), (r2, .inl (cI, 8, .inl (fun _ => 0))), (q3, .inr (8, [.ref r3])), (r3, .inl (cI, 8, .inl (fun _ => 0))), (q4, .inr (8, [.ref r4])), (r4, .inl (cI, 8, .inl (fun _ => 0)))]) (kc2 := 10) (ks2 := 93) ?_ rfl rfl rfl rfl rfl rfl
  refine gc_putR hC hnm0 tyX0 rfl inX0 tyX0_ok nmX0 (k := 4) (by decide) wf_X0_29 rfl rfl (by decide +kernel : _ = some (FieldType.object "Fishclock$Row")) rfl rfl (Nat.le_of_ble_eq_true rfl) dX0_init_73 ?_
  refine gc_cast (ws2 := [(h0, .inr (0, [.ref q0, .ref q1, .ref q2, .ref q3, .ref q4, .null, .null])), (q0, .inr (8, [.ref r0])), (r0, .inl (cI, 32, .inl (fun _ => 10000))), (q1, .inr (8, [.ref r1])), (r1, .inl (cI, 32, .inl (fun _ => 0))), (q2, .inr (8, [.ref r2])), (r2, .inl (cI, 8, .inl (fun _ => 0))), (q3, .inr (8, [.ref r3])), (r3, .inl (cI, 8, .inl (fun _ => 0))), (q4, .inr (8, [.ref r4])), (r4, .inl (cI, 8, .inl (fun _ => 0)))]) ?_ rfl rfl rfl rfl rfl rfl
  refine gc_aload_n hC 0 rfl rfl dX0_init_76 ?_
  refine gc_new (ci := 8) hC tyX8 (fs := [.null]) rfl inX8 tyX8_ok wl_X0_9 wj_X8 wn_X8 (fun j hj => by rw [show j = 0 by omega]; rfl) (by decide) (by decide) dX0_init_77 (fun q5 => ?_)
  refine gc_dup hC rfl dX0_init_80 ?_
  refine gc_bipush (v := 8) hC (by decide) dX0_init_81 ?_
  refine gc_iconst (v := 0) hC (by decide) dX0_init_83 ?_
  refine gc_callI (X := [(h0, .inr (0, [.ref q0, .ref q1, .ref q2, .ref q3, .ref q4, .null, .null])), (q0, .inr (8, [.ref r0])), (r0, .inl (cI, 32, .inl (fun _ => 10000))), (q1, .inr (8, [.ref r1])), (r1, .inl (cI, 32, .inl (fun _ => 0))), (q2, .inr (8, [.ref r2])), (r2, .inl (cI, 8, .inl (fun _ => 0))), (q3, .inr (8, [.ref r3])), (r3, .inl (cI, 8, .inl (fun _ => 0))), (q4, .inr (8, [.ref r4])), (r4, .inl (cI, 8, .inl (fun _ => 0)))]) hC (k_row q5 8 (by decide) 0) mI_X8_init wm_X0_11 rfl rfl rfl (Nat.le_of_ble_eq_true rfl) ⟨by decide, by decide⟩ ⟨by decide, by decide⟩ dX0_init_84 (fun r5 => ?_)
  refine gc_cast (ws2 := [(h0, .inr (0, [.ref q0, .ref q1, .ref q2, .ref q3, .ref q4, .null, .null])), (q0, .inr (8, [.ref r0])), (r0, .inl (cI, 32, .inl (fun _ => 10000))), (q1, .inr (8, [.ref r1])), (r1, .inl (cI, 32, .inl (fun _ => 0))), (q2, .inr (8, [.ref r2])), (r2, .inl (cI, 8, .inl (fun _ => 0))), (q3, .inr (8, [.ref r3])), (r3, .inl (cI, 8, .inl (fun _ => 0))), (q4, .inr (8, [.ref r4])), (r4, .inl (cI, 8, .inl (fun _ => 0))), (q5, .inr (8, [.ref r5])), (r5, .inl (cI, 8, .inl (fun _ => 0)))]) (kc2 := 12) (ks2 := 102) ?_ rfl rfl rfl rfl rfl rfl
  refine gc_putR hC hnm0 tyX0 rfl inX0 tyX0_ok nmX0 (k := 5) (by decide) wf_X0_32 rfl rfl (by decide +kernel : _ = some (FieldType.object "Fishclock$Row")) rfl rfl (Nat.le_of_ble_eq_true rfl) dX0_init_87 ?_
  refine gc_cast (ws2 := [(h0, .inr (0, [.ref q0, .ref q1, .ref q2, .ref q3, .ref q4, .ref q5, .null])), (q0, .inr (8, [.ref r0])), (r0, .inl (cI, 32, .inl (fun _ => 10000))), (q1, .inr (8, [.ref r1])), (r1, .inl (cI, 32, .inl (fun _ => 0))), (q2, .inr (8, [.ref r2])), (r2, .inl (cI, 8, .inl (fun _ => 0))), (q3, .inr (8, [.ref r3])), (r3, .inl (cI, 8, .inl (fun _ => 0))), (q4, .inr (8, [.ref r4])), (r4, .inl (cI, 8, .inl (fun _ => 0))), (q5, .inr (8, [.ref r5])), (r5, .inl (cI, 8, .inl (fun _ => 0)))]) ?_ rfl rfl rfl rfl rfl rfl
  refine gc_aload_n hC 0 rfl rfl dX0_init_90 ?_
  refine gc_new (ci := 8) hC tyX8 (fs := [.null]) rfl inX8 tyX8_ok wl_X0_9 wj_X8 wn_X8 (fun j hj => by rw [show j = 0 by omega]; rfl) (by decide) (by decide) dX0_init_91 (fun q6 => ?_)
  refine gc_dup hC rfl dX0_init_94 ?_
  refine gc_bipush (v := 8) hC (by decide) dX0_init_95 ?_
  refine gc_iconst (v := 0) hC (by decide) dX0_init_97 ?_
  refine gc_callI (X := [(h0, .inr (0, [.ref q0, .ref q1, .ref q2, .ref q3, .ref q4, .ref q5, .null])), (q0, .inr (8, [.ref r0])), (r0, .inl (cI, 32, .inl (fun _ => 10000))), (q1, .inr (8, [.ref r1])), (r1, .inl (cI, 32, .inl (fun _ => 0))), (q2, .inr (8, [.ref r2])), (r2, .inl (cI, 8, .inl (fun _ => 0))), (q3, .inr (8, [.ref r3])), (r3, .inl (cI, 8, .inl (fun _ => 0))), (q4, .inr (8, [.ref r4])), (r4, .inl (cI, 8, .inl (fun _ => 0))), (q5, .inr (8, [.ref r5])), (r5, .inl (cI, 8, .inl (fun _ => 0)))]) hC (k_row q6 8 (by decide) 0) mI_X8_init wm_X0_11 rfl rfl rfl (Nat.le_of_ble_eq_true rfl) ⟨by decide, by decide⟩ ⟨by decide, by decide⟩ dX0_init_98 (fun r6 => ?_)
  refine gc_cast (ws2 := [(h0, .inr (0, [.ref q0, .ref q1, .ref q2, .ref q3, .ref q4, .ref q5, .null])), (q0, .inr (8, [.ref r0])), (r0, .inl (cI, 32, .inl (fun _ => 10000))), (q1, .inr (8, [.ref r1])), (r1, .inl (cI, 32, .inl (fun _ => 0))), (q2, .inr (8, [.ref r2])), (r2, .inl (cI, 8, .inl (fun _ => 0))), (q3, .inr (8, [.ref r3])), (r3, .inl (cI, 8, .inl (fun _ => 0))), (q4, .inr (8, [.ref r4])), (r4, .inl (cI, 8, .inl (fun _ => 0))), (q5, .inr (8, [.ref r5])), (r5, .inl (cI, 8, .inl (fun _ => 0))), (q6, .inr (8, [.ref r6])), (r6, .inl (cI, 8, .inl (fun _ => 0)))]) (kc2 := 14) (ks2 := 111) ?_ rfl rfl rfl rfl rfl rfl
  refine gc_putR hC hnm0 tyX0 rfl inX0 tyX0_ok nmX0 (k := 6) (by decide) wf_X0_35 rfl rfl (by decide +kernel : _ = some (FieldType.object "Fishclock$Row")) rfl rfl (Nat.le_of_ble_eq_true rfl) dX0_init_101 ?_
  refine gc_cast (ws2 := [(h0, .inr (0, [.ref q0, .ref q1, .ref q2, .ref q3, .ref q4, .ref q5, .ref q6])), (q0, .inr (8, [.ref r0])), (r0, .inl (cI, 32, .inl (fun _ => 10000))), (q1, .inr (8, [.ref r1])), (r1, .inl (cI, 32, .inl (fun _ => 0))), (q2, .inr (8, [.ref r2])), (r2, .inl (cI, 8, .inl (fun _ => 0))), (q3, .inr (8, [.ref r3])), (r3, .inl (cI, 8, .inl (fun _ => 0))), (q4, .inr (8, [.ref r4])), (r4, .inl (cI, 8, .inl (fun _ => 0))), (q5, .inr (8, [.ref r5])), (r5, .inl (cI, 8, .inl (fun _ => 0))), (q6, .inr (8, [.ref r6])), (r6, .inl (cI, 8, .inl (fun _ => 0)))]) ?_ rfl rfl rfl rfl rfl rfl
  exact gc_vret hC hr (fun k => [h0, q0, r0, q1, r1, q2, r2, q3, r3, q4, r4, q5, r5, q6, r6].getD k 0) rfl dX0_init_104
def mtS_X4 : List gq_T := [.inl (4, [some 1, some 3, some 5]), .inl (8, [some 2]), .inr (false, 4), .inl (8, [some 4]), .inr (false, 4), .inl (8, [some 6]), .inr (false, 4)]
def MS_X4 : gq_M := fun k => [(fun _ => 0), (fun _ => 0), (fun _ => 1000), (fun _ => 0), (fun _ => 100), (fun _ => 0), (fun j => nI (j % 3))].getD k (fun _ => 0)
theorem obK_0 : gq_ob mtS_X4 0 RX4 := ⟨_, _, _, rfl, rfl, rfl⟩
theorem lkK_0_0 : gq_lk mtS_X4 0 4 0 (some 1) := ⟨_, rfl, rfl⟩
theorem lkK_0_1 : gq_lk mtS_X4 0 4 1 (some 3) := ⟨_, rfl, rfl⟩
theorem lkK_0_2 : gq_lk mtS_X4 0 4 2 (some 5) := ⟨_, rfl, rfl⟩
theorem obK_1 : gq_ob mtS_X4 1 RX8 := ⟨_, _, _, rfl, rfl, rfl⟩
theorem lkK_1_0 : gq_lk mtS_X4 1 8 0 (some 2) := ⟨_, rfl, rfl⟩
theorem arK_2 : mtS_X4[2]? = some (.inr (false, 4)) := rfl
theorem obK_3 : gq_ob mtS_X4 3 RX8 := ⟨_, _, _, rfl, rfl, rfl⟩
theorem lkK_3_0 : gq_lk mtS_X4 3 8 0 (some 4) := ⟨_, rfl, rfl⟩
theorem arK_4 : mtS_X4[4]? = some (.inr (false, 4)) := rfl
theorem obK_5 : gq_ob mtS_X4 5 RX8 := ⟨_, _, _, rfl, rfl, rfl⟩
theorem lkK_5_0 : gq_lk mtS_X4 5 8 0 (some 6) := ⟨_, rfl, rfl⟩
theorem arK_6 : mtS_X4[6]? = some (.inr (false, 4)) := rfl
section
variable {p : Program} {l : Launch} {e : Env} {s : State} {m : MethodId} {args : Array Value} {below : List Frame} {meth : Method} {c : Code} {Q : State → Prop} {D : va_G} {A : Nat → Prop} {cI cZ : ClassId} {ad : Nat → Nat}
def f_X4_init_48_b (N : Nat) (kh48 : Int32 → gq_M → Option (Int32 × gq_M)) (x1 : Int32) (M : gq_M) : Option (Int32 × gq_M) :=
  if 4 ≤ x1 then (some (0, M)) else (gq_b (f_X8_put 6 4 N x1 (x1 - x1 / 3 * 3) M) fun v2 M3 => kh48 (x1 + 1) M3)
def f_X4_init_48 (N : Nat) : Nat → Int32 → gq_M → Option (Int32 × gq_M)
  | 0 => fun _ _ => none
  | n9 + 1 => f_X4_init_48_b N  (f_X4_init_48 N  n9)
set_option maxHeartbeats 1000000 in
set_option maxRecDepth 20000 in
theorem t_X4_init_48_b {N : Nat} {kh48 : Int32 → gq_M → Option (Int32 × gq_M)} {v9 : Int32} {M9 : gq_M} (hret : ∀ (pc : Nat) (L : List (Nat × Value)), decode cX4_init pc = .ok (.return_, 1) → gq_W p l e (gc_rm 2 6 15) s m args below meth c D A cI cZ ad mtS_X4 2 Q pc L [] M9 6 15) (hC : gq_C p s m args meth c D A cI cZ ad mtS_X4 RX4 cX4_init 2) (hr : meth.sig.returnType = none)  (hk48 : ∀ (x1 : Int32) (M : gq_M), kh48 x1 M = some (v9, M9) → gq_W p l e (gc_rm 2 6 15) s m args below meth c D A cI cZ ad mtS_X4 2 Q 48 [(0, .ref (ad 0)), (1, .int x1)] [] M 6 15) : ∀ (x1 : Int32) (M : gq_M), f_X4_init_48_b N  kh48 x1 M = some (v9, M9) → gq_W p l e (gc_rm 2 6 15) s m args below meth c D A cI cZ ad mtS_X4 2 Q 48 [(0, .ref (ad 0)), (1, .int x1)] [] M 6 15 := by
  intro x1 M h
  unfold f_X4_init_48_b at h
  refine g_iload_n hC 1 rfl rfl dX4_init_48 ?_
  refine g_iconst (v := 4) hC (by decide) dX4_init_49 ?_
  refine g_icmp_ge (tgt := 70) hC (by decide) dX4_init_50 (fun c1 => ?_) (fun c1 => ?_)
  · replace h := gq_t c1 h
    cases h
    exact hret _ _ dX4_init_70
  · replace h := gq_f c1 h
    refine g_aload_n hC 0 rfl rfl dX4_init_53 ?_
    refine g_getR hC fF_X4_23 lkK_0_2 dX4_init_54 ?_
    refine g_iload_n hC 1 rfl rfl dX4_init_57 ?_
    refine g_iload_n hC 1 rfl rfl dX4_init_58 ?_
    refine g_iconst (v := 3) hC (by decide) dX4_init_59 ?_
    refine g_irem hC (by decide) dX4_init_60 ?_
    obtain ⟨v2, M3, c4, h⟩ := gq_b_i h
    refine g_Vv (as := [.int x1, .int (x1 - x1 / 3 * 3)]) hC (t_X8_put lkK_5_0 arK_6 N _ _ _ _ _ c4) mV_X8_put  wm_X4_26 obK_5 rfl rfl (Nat.le_of_ble_eq_true rfl) ⟨Nat.le_of_ble_eq_true rfl, Nat.le_of_ble_eq_true rfl⟩ ⟨Nat.le_of_ble_eq_true rfl, Nat.le_of_ble_eq_true rfl⟩ dX4_init_61 ?_
    refine g_iinc (v := (x1 + 1)) (L2 := [(1, .int (x1 + 1)), (0, .ref (ad 0))]) hC 1 rfl (by first | rfl | decide) (by decide) rfl dX4_init_64 ?_
    refine g_goto (tgt := 48) hC (by decide) dX4_init_67 ?_
    exact g_weak [1, 0] rfl (hk48 (x1 + 1) M3 h)
theorem t_X4_init_48 {N : Nat} {v9 : Int32} {M9 : gq_M} (hret : ∀ (pc : Nat) (L : List (Nat × Value)), decode cX4_init pc = .ok (.return_, 1) → gq_W p l e (gc_rm 2 6 15) s m args below meth c D A cI cZ ad mtS_X4 2 Q pc L [] M9 6 15) (hC : gq_C p s m args meth c D A cI cZ ad mtS_X4 RX4 cX4_init 2) (hr : meth.sig.returnType = none)  : ∀ (n9 : Nat) (x1 : Int32) (M : gq_M), f_X4_init_48 N  n9 x1 M = some (v9, M9) → gq_W p l e (gc_rm 2 6 15) s m args below meth c D A cI cZ ad mtS_X4 2 Q 48 [(0, .ref (ad 0)), (1, .int x1)] [] M 6 15 := by
  intro n9
  induction n9 with
  | zero => intro x1 M h; cases h
  | succ n9 ih => intro x1 M h; exact t_X4_init_48_b hret hC hr  ih x1 M h
def f_X4_init_46 (N : Nat) (M : gq_M) : Option (Int32 × gq_M) :=
  f_X4_init_48 N  N 0 M
set_option maxHeartbeats 1000000 in
set_option maxRecDepth 20000 in
theorem t_X4_init_46 {N : Nat} {v9 : Int32} {M9 : gq_M} (hret : ∀ (pc : Nat) (L : List (Nat × Value)), decode cX4_init pc = .ok (.return_, 1) → gq_W p l e (gc_rm 2 6 15) s m args below meth c D A cI cZ ad mtS_X4 2 Q pc L [] M9 6 15) (hC : gq_C p s m args meth c D A cI cZ ad mtS_X4 RX4 cX4_init 2) (hr : meth.sig.returnType = none)   : ∀ (M : gq_M), f_X4_init_46 N   M = some (v9, M9) → gq_W p l e (gc_rm 2 6 15) s m args below meth c D A cI cZ ad mtS_X4 2 Q 46 [(0, .ref (ad 0))] [] M 6 15 := by
  intro  M h
  unfold f_X4_init_46 at h
  refine g_iconst (v := 0) hC (by decide) dX4_init_46 ?_
  refine g_istore_n (L2 := [(1, .int 0), (0, .ref (ad 0))]) hC rfl (by decide) rfl dX4_init_47 ?_
  exact g_weak [1, 0] rfl (t_X4_init_48 hret hC hr  N 0 M h)
end
theorem k_X4_pure : ∃ M9, f_X4_init_46 10 (fun k => [(fun _ => 0), (fun _ => 0), (fun _ => 1000), (fun _ => 0), (fun _ => 100), (fun _ => 0), (fun _ => 0)].getD k (fun _ => 0)) = some (0, M9) ∧ gq_ag 0 mtS_X4 M9 MS_X4 = true := by
  have h : (match f_X4_init_46 10 (fun k => [(fun _ => 0), (fun _ => 0), (fun _ => 1000), (fun _ => 0), (fun _ => 100), (fun _ => 0), (fun _ => 0)].getD k (fun _ => 0)) with | some r => decide (r.1 = 0) && gq_ag 0 mtS_X4 r.2 MS_X4 | none => false) = true := by decide +kernel
  revert h
  cases hx : f_X4_init_46 10 (fun k => [(fun _ => 0), (fun _ => 0), (fun _ => 1000), (fun _ => 0), (fun _ => 100), (fun _ => 0), (fun _ => 0)].getD k (fun _ => 0)) with
  | none => intro h; cases h
  | some r => intro h; rw [Bool.and_eq_true] at h; exact ⟨r.2, by rw [← of_decide_eq_true h.1], h.2⟩
set_option maxHeartbeats 1000000 in
set_option maxRecDepth 20000 in
theorem k_X4 {l : Launch} {D : va_G} {cI cZ : ClassId} (h0 : Nat) : gc_Ct l D cI cZ yX4_init cX4_init 2 2 6 15 [.ref h0] [(h0, .inr (4, [.null, .null, .null]))] (fun u => gq_ws cI cZ (gc_ad h0 u) MS_X4 0 mtS_X4) := by
  refine gc_intro (own := RX4) (by decide) rfl (Nat.le_of_ble_eq_true rfl) ?_
  intro p e s m below meth c hC hr hnm0
  refine gc_cast (L2 := [(0, .ref h0)]) ?_ rfl rfl rfl rfl rfl rfl
  refine gc_aload_n hC 0 rfl rfl dX4_init_0 ?_
  refine gc_objInit hC wo_X4 wo_i wo_c ⟨by decide, Nat.le_of_ble_eq_true rfl⟩ dX4_init_1 ?_
  refine gc_aload_n hC 0 rfl rfl dX4_init_4 ?_
  refine gc_new (ci := 8) hC tyX8 (fs := [.null]) rfl inX8 tyX8_ok wl_X4_9 wj_X8 wn_X8 (fun j hj => by rw [show j = 0 by omega]; rfl) (by decide) (by decide) dX4_init_5 (fun q0 => ?_)
  refine gc_dup hC rfl dX4_init_8 ?_
  refine gc_iconst (v := 4) hC (by decide) dX4_init_9 ?_
  refine gc_sipush (v := 1000) hC (by decide) dX4_init_10 ?_
  refine gc_callI (X := [(h0, .inr (4, [.null, .null, .null]))]) hC (k_row q0 4 (by decide) 1000) mI_X8_init wm_X4_11 rfl rfl rfl (Nat.le_of_ble_eq_true rfl) ⟨by decide, by decide⟩ ⟨by decide, by decide⟩ dX4_init_13 (fun r0 => ?_)
  refine gc_cast (ws2 := [(h0, .inr (4, [.null, .null, .null])), (q0, .inr (8, [.ref r0])), (r0, .inl (cI, 4, .inl (fun _ => 1000)))]) (kc2 := 2) (ks2 := 5) ?_ rfl rfl rfl rfl rfl rfl
  refine gc_putR hC hnm0 tyX4 rfl inX4 tyX4_ok nmX4 (k := 0) (by decide) wf_X4_14 rfl rfl (by decide +kernel : _ = some (FieldType.object "Fishclock$Row")) rfl rfl (Nat.le_of_ble_eq_true rfl) dX4_init_16 ?_
  refine gc_cast (ws2 := [(h0, .inr (4, [.ref q0, .null, .null])), (q0, .inr (8, [.ref r0])), (r0, .inl (cI, 4, .inl (fun _ => 1000)))]) ?_ rfl rfl rfl rfl rfl rfl
  refine gc_aload_n hC 0 rfl rfl dX4_init_19 ?_
  refine gc_new (ci := 8) hC tyX8 (fs := [.null]) rfl inX8 tyX8_ok wl_X4_9 wj_X8 wn_X8 (fun j hj => by rw [show j = 0 by omega]; rfl) (by decide) (by decide) dX4_init_20 (fun q1 => ?_)
  refine gc_dup hC rfl dX4_init_23 ?_
  refine gc_iconst (v := 4) hC (by decide) dX4_init_24 ?_
  refine gc_bipush (v := 100) hC (by decide) dX4_init_25 ?_
  refine gc_callI (X := [(h0, .inr (4, [.ref q0, .null, .null])), (q0, .inr (8, [.ref r0])), (r0, .inl (cI, 4, .inl (fun _ => 1000)))]) hC (k_row q1 4 (by decide) 100) mI_X8_init wm_X4_11 rfl rfl rfl (Nat.le_of_ble_eq_true rfl) ⟨by decide, by decide⟩ ⟨by decide, by decide⟩ dX4_init_27 (fun r1 => ?_)
  refine gc_cast (ws2 := [(h0, .inr (4, [.ref q0, .null, .null])), (q0, .inr (8, [.ref r0])), (r0, .inl (cI, 4, .inl (fun _ => 1000))), (q1, .inr (8, [.ref r1])), (r1, .inl (cI, 4, .inl (fun _ => 100)))]) (kc2 := 4) (ks2 := 10) ?_ rfl rfl rfl rfl rfl rfl
  refine gc_putR hC hnm0 tyX4 rfl inX4 tyX4_ok nmX4 (k := 1) (by decide) wf_X4_20 rfl rfl (by decide +kernel : _ = some (FieldType.object "Fishclock$Row")) rfl rfl (Nat.le_of_ble_eq_true rfl) dX4_init_30 ?_
  refine gc_cast (ws2 := [(h0, .inr (4, [.ref q0, .ref q1, .null])), (q0, .inr (8, [.ref r0])), (r0, .inl (cI, 4, .inl (fun _ => 1000))), (q1, .inr (8, [.ref r1])), (r1, .inl (cI, 4, .inl (fun _ => 100)))]) ?_ rfl rfl rfl rfl rfl rfl
  refine gc_aload_n hC 0 rfl rfl dX4_init_33 ?_
  refine gc_new (ci := 8) hC tyX8 (fs := [.null]) rfl inX8 tyX8_ok wl_X4_9 wj_X8 wn_X8 (fun j hj => by rw [show j = 0 by omega]; rfl) (by decide) (by decide) dX4_init_34 (fun q2 => ?_)
  refine gc_dup hC rfl dX4_init_37 ?_
  refine gc_iconst (v := 4) hC (by decide) dX4_init_38 ?_
  refine gc_iconst (v := 0) hC (by decide) dX4_init_39 ?_
  refine gc_callI (X := [(h0, .inr (4, [.ref q0, .ref q1, .null])), (q0, .inr (8, [.ref r0])), (r0, .inl (cI, 4, .inl (fun _ => 1000))), (q1, .inr (8, [.ref r1])), (r1, .inl (cI, 4, .inl (fun _ => 100)))]) hC (k_row q2 4 (by decide) 0) mI_X8_init wm_X4_11 rfl rfl rfl (Nat.le_of_ble_eq_true rfl) ⟨by decide, by decide⟩ ⟨by decide, by decide⟩ dX4_init_40 (fun r2 => ?_)
  refine gc_cast (ws2 := [(h0, .inr (4, [.ref q0, .ref q1, .null])), (q0, .inr (8, [.ref r0])), (r0, .inl (cI, 4, .inl (fun _ => 1000))), (q1, .inr (8, [.ref r1])), (r1, .inl (cI, 4, .inl (fun _ => 100))), (q2, .inr (8, [.ref r2])), (r2, .inl (cI, 4, .inl (fun _ => 0)))]) (kc2 := 6) (ks2 := 15) ?_ rfl rfl rfl rfl rfl rfl
  refine gc_putR hC hnm0 tyX4 rfl inX4 tyX4_ok nmX4 (k := 2) (by decide) wf_X4_23 rfl rfl (by decide +kernel : _ = some (FieldType.object "Fishclock$Row")) rfl rfl (Nat.le_of_ble_eq_true rfl) dX4_init_43 ?_
  refine gc_cast (ws2 := [(h0, .inr (4, [.ref q0, .ref q1, .ref q2])), (q0, .inr (8, [.ref r0])), (r0, .inl (cI, 4, .inl (fun _ => 1000))), (q1, .inr (8, [.ref r1])), (r1, .inl (cI, 4, .inl (fun _ => 100))), (q2, .inr (8, [.ref r2])), (r2, .inl (cI, 4, .inl (fun _ => 0)))]) ?_ rfl rfl rfl rfl rfl rfl
  refine gc_toq (cI := cI) (cZ := cZ) (ad := gc_ad h0 (fun k => [h0, q0, r0, q1, r1, q2, r2].getD k 0)) (mt := mtS_X4) (M := (fun k => [(fun _ => 0), (fun _ => 0), (fun _ => 1000), (fun _ => 0), (fun _ => 100), (fun _ => 0), (fun _ => 0)].getD k (fun _ => 0))) rfl (fun hDD => ?_)
  obtain ⟨M9, hf, hag⟩ := k_X4_pure
  refine g_weak [0] rfl (t_X4_init_46 (N := 10) (fun pc L d => ?_) ⟨hC.1, hC.2.1, hC.2.2.1, hC.2.2.2.1, hC.2.2.2.2.1, hC.2.2.2.2.2.1, hC.2.2.2.2.2.2.1, hC.2.2.2.2.2.2.2, hDD⟩ hr _ hf)
  exact fun H locs ls hP hS hl => W.vret hC.1 hC.2.1 hr (fun t ht hW => ⟨⟨fun k => [h0, q0, r0, q1, r1, q2, r2].getD k 0, rfl, trivial, by rw [ht]; exact gq_ag_P hag hP, va_K.moved hW.alike hC.2.2.2.2.2.1, gq_D hDD⟩, hS.F ht⟩) hS.2.2 d hC.2.2.2.2.2.2.1
def mtS_X2 : List gq_T := [.inl (2, [some 1, some 3, some 5, some 7, some 9]), .inl (8, [some 2]), .inr (false, 8), .inl (8, [some 4]), .inr (false, 8), .inl (8, [some 6]), .inr (false, 8), .inl (8, [some 8]), .inr (false, 8), .inl (8, [some 10]), .inr (false, 8)]
def MS_X2 : gq_M := fun k => [(fun _ => 0), (fun _ => 0), (fun _ => 0), (fun _ => 0), (fun _ => 1), (fun _ => 0), (fun _ => 0), (fun _ => 0), (fun _ => 0), (fun _ => 0), (fun _ => 1)].getD k (fun _ => 0)
set_option maxHeartbeats 1000000 in
set_option maxRecDepth 20000 in
theorem k_X2 {l : Launch} {D : va_G} {cI cZ : ClassId} (h0 : Nat) : gc_Ct l D cI cZ yX2_init cX2_init 1 2 10 45 [.ref h0] [(h0, .inr (2, [.null, .null, .null, .null, .null]))] (fun u => gq_ws cI cZ (gc_ad h0 u) MS_X2 0 mtS_X2) := by
  refine gc_intro (own := RX2) (by decide) rfl (Nat.le_of_ble_eq_true rfl) ?_
  intro p e s m below meth c hC hr hnm0
  refine gc_cast (L2 := [(0, .ref h0)]) ?_ rfl rfl rfl rfl rfl rfl
  refine gc_aload_n hC 0 rfl rfl dX2_init_0 ?_
  refine gc_objInit hC wo_X2 wo_i wo_c ⟨by decide, Nat.le_of_ble_eq_true rfl⟩ dX2_init_1 ?_
  refine gc_aload_n hC 0 rfl rfl dX2_init_4 ?_
  refine gc_new (ci := 8) hC tyX8 (fs := [.null]) rfl inX8 tyX8_ok wl_X2_9 wj_X8 wn_X8 (fun j hj => by rw [show j = 0 by omega]; rfl) (by decide) (by decide) dX2_init_5 (fun q0 => ?_)
  refine gc_dup hC rfl dX2_init_8 ?_
  refine gc_bipush (v := 8) hC (by decide) dX2_init_9 ?_
  refine gc_iconst (v := 0) hC (by decide) dX2_init_11 ?_
  refine gc_callI (X := [(h0, .inr (2, [.null, .null, .null, .null, .null]))]) hC (k_row q0 8 (by decide) 0) mI_X8_init wm_X2_11 rfl rfl rfl (Nat.le_of_ble_eq_true rfl) ⟨by decide, by decide⟩ ⟨by decide, by decide⟩ dX2_init_12 (fun r0 => ?_)
  refine gc_cast (ws2 := [(h0, .inr (2, [.null, .null, .null, .null, .null])), (q0, .inr (8, [.ref r0])), (r0, .inl (cI, 8, .inl (fun _ => 0)))]) (kc2 := 2) (ks2 := 9) ?_ rfl rfl rfl rfl rfl rfl
  refine gc_putR hC hnm0 tyX2 rfl inX2 tyX2_ok nmX2 (k := 0) (by decide) wf_X2_14 rfl rfl (by decide +kernel : _ = some (FieldType.object "Fishclock$Row")) rfl rfl (Nat.le_of_ble_eq_true rfl) dX2_init_15 ?_
  refine gc_cast (ws2 := [(h0, .inr (2, [.ref q0, .null, .null, .null, .null])), (q0, .inr (8, [.ref r0])), (r0, .inl (cI, 8, .inl (fun _ => 0)))]) ?_ rfl rfl rfl rfl rfl rfl
  refine gc_aload_n hC 0 rfl rfl dX2_init_18 ?_
  refine gc_new (ci := 8) hC tyX8 (fs := [.null]) rfl inX8 tyX8_ok wl_X2_9 wj_X8 wn_X8 (fun j hj => by rw [show j = 0 by omega]; rfl) (by decide) (by decide) dX2_init_19 (fun q1 => ?_)
  refine gc_dup hC rfl dX2_init_22 ?_
  refine gc_bipush (v := 8) hC (by decide) dX2_init_23 ?_
  refine gc_iconst (v := 1) hC (by decide) dX2_init_25 ?_
  refine gc_callI (X := [(h0, .inr (2, [.ref q0, .null, .null, .null, .null])), (q0, .inr (8, [.ref r0])), (r0, .inl (cI, 8, .inl (fun _ => 0)))]) hC (k_row q1 8 (by decide) 1) mI_X8_init wm_X2_11 rfl rfl rfl (Nat.le_of_ble_eq_true rfl) ⟨by decide, by decide⟩ ⟨by decide, by decide⟩ dX2_init_26 (fun r1 => ?_)
  refine gc_cast (ws2 := [(h0, .inr (2, [.ref q0, .null, .null, .null, .null])), (q0, .inr (8, [.ref r0])), (r0, .inl (cI, 8, .inl (fun _ => 0))), (q1, .inr (8, [.ref r1])), (r1, .inl (cI, 8, .inl (fun _ => 1)))]) (kc2 := 4) (ks2 := 18) ?_ rfl rfl rfl rfl rfl rfl
  refine gc_putR hC hnm0 tyX2 rfl inX2 tyX2_ok nmX2 (k := 1) (by decide) wf_X2_20 rfl rfl (by decide +kernel : _ = some (FieldType.object "Fishclock$Row")) rfl rfl (Nat.le_of_ble_eq_true rfl) dX2_init_29 ?_
  refine gc_cast (ws2 := [(h0, .inr (2, [.ref q0, .ref q1, .null, .null, .null])), (q0, .inr (8, [.ref r0])), (r0, .inl (cI, 8, .inl (fun _ => 0))), (q1, .inr (8, [.ref r1])), (r1, .inl (cI, 8, .inl (fun _ => 1)))]) ?_ rfl rfl rfl rfl rfl rfl
  refine gc_aload_n hC 0 rfl rfl dX2_init_32 ?_
  refine gc_new (ci := 8) hC tyX8 (fs := [.null]) rfl inX8 tyX8_ok wl_X2_9 wj_X8 wn_X8 (fun j hj => by rw [show j = 0 by omega]; rfl) (by decide) (by decide) dX2_init_33 (fun q2 => ?_)
  refine gc_dup hC rfl dX2_init_36 ?_
  refine gc_bipush (v := 8) hC (by decide) dX2_init_37 ?_
  refine gc_iconst (v := 0) hC (by decide) dX2_init_39 ?_
  refine gc_callI (X := [(h0, .inr (2, [.ref q0, .ref q1, .null, .null, .null])), (q0, .inr (8, [.ref r0])), (r0, .inl (cI, 8, .inl (fun _ => 0))), (q1, .inr (8, [.ref r1])), (r1, .inl (cI, 8, .inl (fun _ => 1)))]) hC (k_row q2 8 (by decide) 0) mI_X8_init wm_X2_11 rfl rfl rfl (Nat.le_of_ble_eq_true rfl) ⟨by decide, by decide⟩ ⟨by decide, by decide⟩ dX2_init_40 (fun r2 => ?_)
  refine gc_cast (ws2 := [(h0, .inr (2, [.ref q0, .ref q1, .null, .null, .null])), (q0, .inr (8, [.ref r0])), (r0, .inl (cI, 8, .inl (fun _ => 0))), (q1, .inr (8, [.ref r1])), (r1, .inl (cI, 8, .inl (fun _ => 1))), (q2, .inr (8, [.ref r2])), (r2, .inl (cI, 8, .inl (fun _ => 0)))]) (kc2 := 6) (ks2 := 27) ?_ rfl rfl rfl rfl rfl rfl
  refine gc_putR hC hnm0 tyX2 rfl inX2 tyX2_ok nmX2 (k := 2) (by decide) wf_X2_23 rfl rfl (by decide +kernel : _ = some (FieldType.object "Fishclock$Row")) rfl rfl (Nat.le_of_ble_eq_true rfl) dX2_init_43 ?_
  refine gc_cast (ws2 := [(h0, .inr (2, [.ref q0, .ref q1, .ref q2, .null, .null])), (q0, .inr (8, [.ref r0])), (r0, .inl (cI, 8, .inl (fun _ => 0))), (q1, .inr (8, [.ref r1])), (r1, .inl (cI, 8, .inl (fun _ => 1))), (q2, .inr (8, [.ref r2])), (r2, .inl (cI, 8, .inl (fun _ => 0)))]) ?_ rfl rfl rfl rfl rfl rfl
  refine gc_aload_n hC 0 rfl rfl dX2_init_46 ?_
  refine gc_new (ci := 8) hC tyX8 (fs := [.null]) rfl inX8 tyX8_ok wl_X2_9 wj_X8 wn_X8 (fun j hj => by rw [show j = 0 by omega]; rfl) (by decide) (by decide) dX2_init_47 (fun q3 => ?_)
  refine gc_dup hC rfl dX2_init_50 ?_
  refine gc_bipush (v := 8) hC (by decide) dX2_init_51 ?_
  refine gc_iconst (v := 0) hC (by decide) dX2_init_53 ?_
  refine gc_callI (X := [(h0, .inr (2, [.ref q0, .ref q1, .ref q2, .null, .null])), (q0, .inr (8, [.ref r0])), (r0, .inl (cI, 8, .inl (fun _ => 0))), (q1, .inr (8, [.ref r1])), (r1, .inl (cI, 8, .inl (fun _ => 1))), (q2, .inr (8, [.ref r2])), (r2, .inl (cI, 8, .inl (fun _ => 0)))]) hC (k_row q3 8 (by decide) 0) mI_X8_init wm_X2_11 rfl rfl rfl (Nat.le_of_ble_eq_true rfl) ⟨by decide, by decide⟩ ⟨by decide, by decide⟩ dX2_init_54 (fun r3 => ?_)
  refine gc_cast (ws2 := [(h0, .inr (2, [.ref q0, .ref q1, .ref q2, .null, .null])), (q0, .inr (8, [.ref r0])), (r0, .inl (cI, 8, .inl (fun _ => 0))), (q1, .inr (8, [.ref r1])), (r1, .inl (cI, 8, .inl (fun _ => 1))), (q2, .inr (8, [.ref r2])), (r2, .inl (cI, 8, .inl (fun _ => 0))), (q3, .inr (8, [.ref r3])), (r3, .inl (cI, 8, .inl (fun _ => 0)))]) (kc2 := 8) (ks2 := 36) ?_ rfl rfl rfl rfl rfl rfl
  refine gc_putR hC hnm0 tyX2 rfl inX2 tyX2_ok nmX2 (k := 3) (by decide) wf_X2_26 rfl rfl (by decide +kernel : _ = some (FieldType.object "Fishclock$Row")) rfl rfl (Nat.le_of_ble_eq_true rfl) dX2_init_57 ?_
  refine gc_cast (ws2 := [(h0, .inr (2, [.ref q0, .ref q1, .ref q2, .ref q3, .null])), (q0, .inr (8, [.ref r0])), (r0, .inl (cI, 8, .inl (fun _ => 0))), (q1, .inr (8, [.ref r1])), (r1, .inl (cI, 8, .inl (fun _ => 1))), (q2, .inr (8, [.ref r2])), (r2, .inl (cI, 8, .inl (fun _ => 0))), (q3, .inr (8, [.ref r3])), (r3, .inl (cI, 8, .inl (fun _ => 0)))]) ?_ rfl rfl rfl rfl rfl rfl
  refine gc_aload_n hC 0 rfl rfl dX2_init_60 ?_
  refine gc_new (ci := 8) hC tyX8 (fs := [.null]) rfl inX8 tyX8_ok wl_X2_9 wj_X8 wn_X8 (fun j hj => by rw [show j = 0 by omega]; rfl) (by decide) (by decide) dX2_init_61 (fun q4 => ?_)
  refine gc_dup hC rfl dX2_init_64 ?_
  refine gc_bipush (v := 8) hC (by decide) dX2_init_65 ?_
  refine gc_iconst (v := 1) hC (by decide) dX2_init_67 ?_
  refine gc_callI (X := [(h0, .inr (2, [.ref q0, .ref q1, .ref q2, .ref q3, .null])), (q0, .inr (8, [.ref r0])), (r0, .inl (cI, 8, .inl (fun _ => 0))), (q1, .inr (8, [.ref r1])), (r1, .inl (cI, 8, .inl (fun _ => 1))), (q2, .inr (8, [.ref r2])), (r2, .inl (cI, 8, .inl (fun _ => 0))), (q3, .inr (8, [.ref r3])), (r3, .inl (cI, 8, .inl (fun _ => 0)))]) hC (k_row q4 8 (by decide) 1) mI_X8_init wm_X2_11 rfl rfl rfl (Nat.le_of_ble_eq_true rfl) ⟨by decide, by decide⟩ ⟨by decide, by decide⟩ dX2_init_68 (fun r4 => ?_)
  refine gc_cast (ws2 := [(h0, .inr (2, [.ref q0, .ref q1, .ref q2, .ref q3, .null])), (q0, .inr (8, [.ref r0])), (r0, .inl (cI, 8, .inl (fun _ => 0))), (q1, .inr (8, [.ref r1])), (r1, .inl (cI, 8, .inl (fun _ => 1))), (q2, .inr (8, [.ref r2])), (r2, .inl (cI, 8, .inl (fun _ => 0))), (q3, .inr (8, [.ref r3])), (r3, .inl (cI, 8, .inl (fun _ => 0))), (q4, .inr (8, [.ref r4])), (r4, .inl (cI, 8, .inl (fun _ => 1)))]) (kc2 := 10) (ks2 := 45) ?_ rfl rfl rfl rfl rfl rfl
  refine gc_putR hC hnm0 tyX2 rfl inX2 tyX2_ok nmX2 (k := 4) (by decide) wf_X2_29 rfl rfl (by decide +kernel : _ = some (FieldType.object "Fishclock$Row")) rfl rfl (Nat.le_of_ble_eq_true rfl) dX2_init_71 ?_
  refine gc_cast (ws2 := [(h0, .inr (2, [.ref q0, .ref q1, .ref q2, .ref q3, .ref q4])), (q0, .inr (8, [.ref r0])), (r0, .inl (cI, 8, .inl (fun _ => 0))), (q1, .inr (8, [.ref r1])), (r1, .inl (cI, 8, .inl (fun _ => 1))), (q2, .inr (8, [.ref r2])), (r2, .inl (cI, 8, .inl (fun _ => 0))), (q3, .inr (8, [.ref r3])), (r3, .inl (cI, 8, .inl (fun _ => 0))), (q4, .inr (8, [.ref r4])), (r4, .inl (cI, 8, .inl (fun _ => 1)))]) ?_ rfl rfl rfl rfl rfl rfl
  exact gc_vret hC hr (fun k => [h0, q0, r0, q1, r1, q2, r2, q3, r3, q4, r4].getD k 0) rfl dX2_init_74
def mtS_X1 : List gq_T := [.inl (1, [some 1, some 3, some 5, some 7, some 9, some 11, some 13, some 15, some 17, some 19, some 21, some 23, some 25, none]), .inl (8, [some 2]), .inr (false, 150), .inl (8, [some 4]), .inr (false, 150), .inl (8, [some 6]), .inr (false, 150), .inl (8, [some 8]), .inr (false, 150), .inl (8, [some 10]), .inr (false, 150), .inl (8, [some 12]), .inr (false, 150), .inl (8, [some 14]), .inr (false, 150), .inl (8, [some 16]), .inr (false, 150), .inl (8, [some 18]), .inr (false, 150), .inl (8, [some 20]), .inr (false, 150), .inl (8, [some 22]), .inr (false, 150), .inl (8, [some 24]), .inr (false, 150), .inl (8, [some 26]), .inr (false, 6)]
def MS_X1 : gq_M := fun k => [(fun _ => 0), (fun _ => 0), (fun _ => (-1)), (fun _ => 0), (fun _ => 0), (fun _ => 0), (fun _ => 0), (fun _ => 0), (fun _ => 0), (fun _ => 0), (fun _ => 0), (fun _ => 0), (fun _ => (-1)), (fun _ => 0), (fun _ => (-1)), (fun _ => 0), (fun _ => (-1)), (fun _ => 0), (fun _ => (-1)), (fun _ => 0), (fun _ => (-1)), (fun _ => 0), (fun _ => 0), (fun _ => 0), (fun _ => 0), (fun _ => 0), (fun _ => 0)].getD k (fun _ => 0)
set_option maxHeartbeats 1000000 in
set_option maxRecDepth 20000 in
theorem k_X1 {l : Launch} {D : va_G} {cI cZ : ClassId} (h0 : Nat) : gc_Ct l D cI cZ yX1_init cX1_init 1 2 26 1819 [.ref h0] [(h0, .inr (1, [.null, .null, .null, .null, .null, .null, .null, .null, .null, .null, .null, .null, .null, .int 0]))] (fun u => gq_ws cI cZ (gc_ad h0 u) MS_X1 0 mtS_X1) := by
  refine gc_intro (own := RX1) (by decide) rfl (Nat.le_of_ble_eq_true rfl) ?_
  intro p e s m below meth c hC hr hnm0
  refine gc_cast (L2 := [(0, .ref h0)]) ?_ rfl rfl rfl rfl rfl rfl
  refine gc_aload_n hC 0 rfl rfl dX1_init_0 ?_
  refine gc_objInit hC wo_X1 wo_i wo_c ⟨by decide, Nat.le_of_ble_eq_true rfl⟩ dX1_init_1 ?_
  refine gc_aload_n hC 0 rfl rfl dX1_init_4 ?_
  refine gc_new (ci := 8) hC tyX8 (fs := [.null]) rfl inX8 tyX8_ok wl_X1_9 wj_X8 wn_X8 (fun j hj => by rw [show j = 0 by omega]; rfl) (by decide) (by decide) dX1_init_5 (fun q0 => ?_)
  refine gc_dup hC rfl dX1_init_8 ?_
  refine gc_sipush (v := 150) hC (by decide) dX1_init_9 ?_
  refine gc_iconst (v := (-1)) hC (by decide) dX1_init_12 ?_
  refine gc_callI (X := [(h0, .inr (1, [.null, .null, .null, .null, .null, .null, .null, .null, .null, .null, .null, .null, .null, .int 0]))]) hC (k_row q0 150 (by decide) (-1)) mI_X8_init wm_X1_11 rfl rfl rfl (Nat.le_of_ble_eq_true rfl) ⟨by decide, by decide⟩ ⟨by decide, by decide⟩ dX1_init_13 (fun r0 => ?_)
  refine gc_cast (ws2 := [(h0, .inr (1, [.null, .null, .null, .null, .null, .null, .null, .null, .null, .null, .null, .null, .null, .int 0])), (q0, .inr (8, [.ref r0])), (r0, .inl (cI, 150, .inl (fun _ => (-1))))]) (kc2 := 2) (ks2 := 151) ?_ rfl rfl rfl rfl rfl rfl
  refine gc_putR hC hnm0 tyX1 rfl inX1 tyX1_ok nmX1 (k := 0) (by decide) wf_X1_14 rfl rfl (by decide +kernel : _ = some (FieldType.object "Fishclock$Row")) rfl rfl (Nat.le_of_ble_eq_true rfl) dX1_init_16 ?_
  refine gc_cast (ws2 := [(h0, .inr (1, [.ref q0, .null, .null, .null, .null, .null, .null, .null, .null, .null, .null, .null, .null, .int 0])), (q0, .inr (8, [.ref r0])), (r0, .inl (cI, 150, .inl (fun _ => (-1))))]) ?_ rfl rfl rfl rfl rfl rfl
  refine gc_aload_n hC 0 rfl rfl dX1_init_19 ?_
  refine gc_new (ci := 8) hC tyX8 (fs := [.null]) rfl inX8 tyX8_ok wl_X1_9 wj_X8 wn_X8 (fun j hj => by rw [show j = 0 by omega]; rfl) (by decide) (by decide) dX1_init_20 (fun q1 => ?_)
  refine gc_dup hC rfl dX1_init_23 ?_
  refine gc_sipush (v := 150) hC (by decide) dX1_init_24 ?_
  refine gc_iconst (v := 0) hC (by decide) dX1_init_27 ?_
  refine gc_callI (X := [(h0, .inr (1, [.ref q0, .null, .null, .null, .null, .null, .null, .null, .null, .null, .null, .null, .null, .int 0])), (q0, .inr (8, [.ref r0])), (r0, .inl (cI, 150, .inl (fun _ => (-1))))]) hC (k_row q1 150 (by decide) 0) mI_X8_init wm_X1_11 rfl rfl rfl (Nat.le_of_ble_eq_true rfl) ⟨by decide, by decide⟩ ⟨by decide, by decide⟩ dX1_init_28 (fun r1 => ?_)
  refine gc_cast (ws2 := [(h0, .inr (1, [.ref q0, .null, .null, .null, .null, .null, .null, .null, .null, .null, .null, .null, .null, .int 0])), (q0, .inr (8, [.ref r0])), (r0, .inl (cI, 150, .inl (fun _ => (-1)))), (q1, .inr (8, [.ref r1])), (r1, .inl (cI, 150, .inl (fun _ => 0)))]) (kc2 := 4) (ks2 := 302) ?_ rfl rfl rfl rfl rfl rfl
  refine gc_putR hC hnm0 tyX1 rfl inX1 tyX1_ok nmX1 (k := 1) (by decide) wf_X1_20 rfl rfl (by decide +kernel : _ = some (FieldType.object "Fishclock$Row")) rfl rfl (Nat.le_of_ble_eq_true rfl) dX1_init_31 ?_
  refine gc_cast (ws2 := [(h0, .inr (1, [.ref q0, .ref q1, .null, .null, .null, .null, .null, .null, .null, .null, .null, .null, .null, .int 0])), (q0, .inr (8, [.ref r0])), (r0, .inl (cI, 150, .inl (fun _ => (-1)))), (q1, .inr (8, [.ref r1])), (r1, .inl (cI, 150, .inl (fun _ => 0)))]) ?_ rfl rfl rfl rfl rfl rfl
  refine gc_aload_n hC 0 rfl rfl dX1_init_34 ?_
  refine gc_new (ci := 8) hC tyX8 (fs := [.null]) rfl inX8 tyX8_ok wl_X1_9 wj_X8 wn_X8 (fun j hj => by rw [show j = 0 by omega]; rfl) (by decide) (by decide) dX1_init_35 (fun q2 => ?_)
  refine gc_dup hC rfl dX1_init_38 ?_
  refine gc_sipush (v := 150) hC (by decide) dX1_init_39 ?_
  refine gc_iconst (v := 0) hC (by decide) dX1_init_42 ?_
  refine gc_callI (X := [(h0, .inr (1, [.ref q0, .ref q1, .null, .null, .null, .null, .null, .null, .null, .null, .null, .null, .null, .int 0])), (q0, .inr (8, [.ref r0])), (r0, .inl (cI, 150, .inl (fun _ => (-1)))), (q1, .inr (8, [.ref r1])), (r1, .inl (cI, 150, .inl (fun _ => 0)))]) hC (k_row q2 150 (by decide) 0) mI_X8_init wm_X1_11 rfl rfl rfl (Nat.le_of_ble_eq_true rfl) ⟨by decide, by decide⟩ ⟨by decide, by decide⟩ dX1_init_43 (fun r2 => ?_)
  refine gc_cast (ws2 := [(h0, .inr (1, [.ref q0, .ref q1, .null, .null, .null, .null, .null, .null, .null, .null, .null, .null, .null, .int 0])), (q0, .inr (8, [.ref r0])), (r0, .inl (cI, 150, .inl (fun _ => (-1)))), (q1, .inr (8, [.ref r1])), (r1, .inl (cI, 150, .inl (fun _ => 0))), (q2, .inr (8, [.ref r2])), (r2, .inl (cI, 150, .inl (fun _ => 0)))]) (kc2 := 6) (ks2 := 453) ?_ rfl rfl rfl rfl rfl rfl
  refine gc_putR hC hnm0 tyX1 rfl inX1 tyX1_ok nmX1 (k := 2) (by decide) wf_X1_23 rfl rfl (by decide +kernel : _ = some (FieldType.object "Fishclock$Row")) rfl rfl (Nat.le_of_ble_eq_true rfl) dX1_init_46 ?_
  refine gc_cast (ws2 := [(h0, .inr (1, [.ref q0, .ref q1, .ref q2, .null, .null, .null, .null, .null, .null, .null, .null, .null, .null, .int 0])), (q0, .inr (8, [.ref r0])), (r0, .inl (cI, 150, .inl (fun _ => (-1)))), (q1, .inr (8, [.ref r1])), (r1, .inl (cI, 150, .inl (fun _ => 0))), (q2, .inr (8, [.ref r2])), (r2, .inl (cI, 150, .inl (fun _ => 0)))]) ?_ rfl rfl rfl rfl rfl rfl
  refine gc_aload_n hC 0 rfl rfl dX1_init_49 ?_
  refine gc_new (ci := 8) hC tyX8 (fs := [.null]) rfl inX8 tyX8_ok wl_X1_9 wj_X8 wn_X8 (fun j hj => by rw [show j = 0 by omega]; rfl) (by decide) (by decide) dX1_init_50 (fun q3 => ?_)
  refine gc_dup hC rfl dX1_init_53 ?_
  refine gc_sipush (v := 150) hC (by decide) dX1_init_54 ?_
  refine gc_iconst (v := 0) hC (by decide) dX1_init_57 ?_
  refine gc_callI (X := [(h0, .inr (1, [.ref q0, .ref q1, .ref q2, .null, .null, .null, .null, .null, .null, .null, .null, .null, .null, .int 0])), (q0, .inr (8, [.ref r0])), (r0, .inl (cI, 150, .inl (fun _ => (-1)))), (q1, .inr (8, [.ref r1])), (r1, .inl (cI, 150, .inl (fun _ => 0))), (q2, .inr (8, [.ref r2])), (r2, .inl (cI, 150, .inl (fun _ => 0)))]) hC (k_row q3 150 (by decide) 0) mI_X8_init wm_X1_11 rfl rfl rfl (Nat.le_of_ble_eq_true rfl) ⟨by decide, by decide⟩ ⟨by decide, by decide⟩ dX1_init_58 (fun r3 => ?_)
  refine gc_cast (ws2 := [(h0, .inr (1, [.ref q0, .ref q1, .ref q2, .null, .null, .null, .null, .null, .null, .null, .null, .null, .null, .int 0])), (q0, .inr (8, [.ref r0])), (r0, .inl (cI, 150, .inl (fun _ => (-1)))), (q1, .inr (8, [.ref r1])), (r1, .inl (cI, 150, .inl (fun _ => 0))), (q2, .inr (8, [.ref r2])), (r2, .inl (cI, 150, .inl (fun _ => 0))), (q3, .inr (8, [.ref r3])), (r3, .inl (cI, 150, .inl (fun _ => 0)))]) (kc2 := 8) (ks2 := 604) ?_ rfl rfl rfl rfl rfl rfl
  refine gc_putR hC hnm0 tyX1 rfl inX1 tyX1_ok nmX1 (k := 3) (by decide) wf_X1_26 rfl rfl (by decide +kernel : _ = some (FieldType.object "Fishclock$Row")) rfl rfl (Nat.le_of_ble_eq_true rfl) dX1_init_61 ?_
  refine gc_cast (ws2 := [(h0, .inr (1, [.ref q0, .ref q1, .ref q2, .ref q3, .null, .null, .null, .null, .null, .null, .null, .null, .null, .int 0])), (q0, .inr (8, [.ref r0])), (r0, .inl (cI, 150, .inl (fun _ => (-1)))), (q1, .inr (8, [.ref r1])), (r1, .inl (cI, 150, .inl (fun _ => 0))), (q2, .inr (8, [.ref r2])), (r2, .inl (cI, 150, .inl (fun _ => 0))), (q3, .inr (8, [.ref r3])), (r3, .inl (cI, 150, .inl (fun _ => 0)))]) ?_ rfl rfl rfl rfl rfl rfl
  refine gc_aload_n hC 0 rfl rfl dX1_init_64 ?_
  refine gc_new (ci := 8) hC tyX8 (fs := [.null]) rfl inX8 tyX8_ok wl_X1_9 wj_X8 wn_X8 (fun j hj => by rw [show j = 0 by omega]; rfl) (by decide) (by decide) dX1_init_65 (fun q4 => ?_)
  refine gc_dup hC rfl dX1_init_68 ?_
  refine gc_sipush (v := 150) hC (by decide) dX1_init_69 ?_
  refine gc_iconst (v := 0) hC (by decide) dX1_init_72 ?_
  refine gc_callI (X := [(h0, .inr (1, [.ref q0, .ref q1, .ref q2, .ref q3, .null, .null, .null, .null, .null, .null, .null, .null, .null, .int 0])), (q0, .inr (8, [.ref r0])), (r0, .inl (cI, 150, .inl (fun _ => (-1)))), (q1, .inr (8, [.ref r1])), (r1, .inl (cI, 150, .inl (fun _ => 0))), (q2, .inr (8, [.ref r2])), (r2, .inl (cI, 150, .inl (fun _ => 0))), (q3, .inr (8, [.ref r3])), (r3, .inl (cI, 150, .inl (fun _ => 0)))]) hC (k_row q4 150 (by decide) 0) mI_X8_init wm_X1_11 rfl rfl rfl (Nat.le_of_ble_eq_true rfl) ⟨by decide, by decide⟩ ⟨by decide, by decide⟩ dX1_init_73 (fun r4 => ?_)
  refine gc_cast (ws2 := [(h0, .inr (1, [.ref q0, .ref q1, .ref q2, .ref q3, .null, .null, .null, .null, .null, .null, .null, .null, .null, .int 0])), (q0, .inr (8, [.ref r0])), (r0, .inl (cI, 150, .inl (fun _ => (-1)))), (q1, .inr (8, [.ref r1])), (r1, .inl (cI, 150, .inl (fun _ => 0))), (q2, .inr (8, [.ref r2])), (r2, .inl (cI, 150, .inl (fun _ => 0))), (q3, .inr (8, [.ref r3])), (r3, .inl (cI, 150, .inl (fun _ => 0))), (q4, .inr (8, [.ref r4])), (r4, .inl (cI, 150, .inl (fun _ => 0)))]) (kc2 := 10) (ks2 := 755) ?_ rfl rfl rfl rfl rfl rfl
  refine gc_putR hC hnm0 tyX1 rfl inX1 tyX1_ok nmX1 (k := 4) (by decide) wf_X1_29 rfl rfl (by decide +kernel : _ = some (FieldType.object "Fishclock$Row")) rfl rfl (Nat.le_of_ble_eq_true rfl) dX1_init_76 ?_
  refine gc_cast (ws2 := [(h0, .inr (1, [.ref q0, .ref q1, .ref q2, .ref q3, .ref q4, .null, .null, .null, .null, .null, .null, .null, .null, .int 0])), (q0, .inr (8, [.ref r0])), (r0, .inl (cI, 150, .inl (fun _ => (-1)))), (q1, .inr (8, [.ref r1])), (r1, .inl (cI, 150, .inl (fun _ => 0))), (q2, .inr (8, [.ref r2])), (r2, .inl (cI, 150, .inl (fun _ => 0))), (q3, .inr (8, [.ref r3])), (r3, .inl (cI, 150, .inl (fun _ => 0))), (q4, .inr (8, [.ref r4])), (r4, .inl (cI, 150, .inl (fun _ => 0)))]) ?_ rfl rfl rfl rfl rfl rfl
  refine gc_aload_n hC 0 rfl rfl dX1_init_79 ?_
  refine gc_new (ci := 8) hC tyX8 (fs := [.null]) rfl inX8 tyX8_ok wl_X1_9 wj_X8 wn_X8 (fun j hj => by rw [show j = 0 by omega]; rfl) (by decide) (by decide) dX1_init_80 (fun q5 => ?_)
  refine gc_dup hC rfl dX1_init_83 ?_
  refine gc_sipush (v := 150) hC (by decide) dX1_init_84 ?_
  refine gc_iconst (v := (-1)) hC (by decide) dX1_init_87 ?_
  refine gc_callI (X := [(h0, .inr (1, [.ref q0, .ref q1, .ref q2, .ref q3, .ref q4, .null, .null, .null, .null, .null, .null, .null, .null, .int 0])), (q0, .inr (8, [.ref r0])), (r0, .inl (cI, 150, .inl (fun _ => (-1)))), (q1, .inr (8, [.ref r1])), (r1, .inl (cI, 150, .inl (fun _ => 0))), (q2, .inr (8, [.ref r2])), (r2, .inl (cI, 150, .inl (fun _ => 0))), (q3, .inr (8, [.ref r3])), (r3, .inl (cI, 150, .inl (fun _ => 0))), (q4, .inr (8, [.ref r4])), (r4, .inl (cI, 150, .inl (fun _ => 0)))]) hC (k_row q5 150 (by decide) (-1)) mI_X8_init wm_X1_11 rfl rfl rfl (Nat.le_of_ble_eq_true rfl) ⟨by decide, by decide⟩ ⟨by decide, by decide⟩ dX1_init_88 (fun r5 => ?_)
  refine gc_cast (ws2 := [(h0, .inr (1, [.ref q0, .ref q1, .ref q2, .ref q3, .ref q4, .null, .null, .null, .null, .null, .null, .null, .null, .int 0])), (q0, .inr (8, [.ref r0])), (r0, .inl (cI, 150, .inl (fun _ => (-1)))), (q1, .inr (8, [.ref r1])), (r1, .inl (cI, 150, .inl (fun _ => 0))), (q2, .inr (8, [.ref r2])), (r2, .inl (cI, 150, .inl (fun _ => 0))), (q3, .inr (8, [.ref r3])), (r3, .inl (cI, 150, .inl (fun _ => 0))), (q4, .inr (8, [.ref r4])), (r4, .inl (cI, 150, .inl (fun _ => 0))), (q5, .inr (8, [.ref r5])), (r5, .inl (cI, 150, .inl (fun _ => (-1))))]) (kc2 := 12) (ks2 := 906) ?_ rfl rfl rfl rfl rfl rfl
  refine gc_putR hC hnm0 tyX1 rfl inX1 tyX1_ok nmX1 (k := 5) (by decide) wf_X1_32 rfl rfl (by decide +kernel : _ = some (FieldType.object "Fishclock$Row")) rfl rfl (Nat.le_of_ble_eq_true rfl) dX1_init_91 ?_
  refine gc_cast (ws2 := [(h0, .inr (1, [.ref q0, .ref q1, .ref q2, .ref q3, .ref q4, .ref q5, .null, .null, .null, .null, .null, .null, .null, .int 0])), (q0, .inr (8, [.ref r0])), (r0, .inl (cI, 150, .inl (fun _ => (-1)))), (q1, .inr (8, [.ref r1])), (r1, .inl (cI, 150, .inl (fun _ => 0))), (q2, .inr (8, [.ref r2])), (r2, .inl (cI, 150, .inl (fun _ => 0))), (q3, .inr (8, [.ref r3])), (r3, .inl (cI, 150, .inl (fun _ => 0))), (q4, .inr (8, [.ref r4])), (r4, .inl (cI, 150, .inl (fun _ => 0))), (q5, .inr (8, [.ref r5])), (r5, .inl (cI, 150, .inl (fun _ => (-1))))]) ?_ rfl rfl rfl rfl rfl rfl
  refine gc_aload_n hC 0 rfl rfl dX1_init_94 ?_
  refine gc_new (ci := 8) hC tyX8 (fs := [.null]) rfl inX8 tyX8_ok wl_X1_9 wj_X8 wn_X8 (fun j hj => by rw [show j = 0 by omega]; rfl) (by decide) (by decide) dX1_init_95 (fun q6 => ?_)
  refine gc_dup hC rfl dX1_init_98 ?_
  refine gc_sipush (v := 150) hC (by decide) dX1_init_99 ?_
  refine gc_iconst (v := (-1)) hC (by decide) dX1_init_102 ?_
  refine gc_callI (X := [(h0, .inr (1, [.ref q0, .ref q1, .ref q2, .ref q3, .ref q4, .ref q5, .null, .null, .null, .null, .null, .null, .null, .int 0])), (q0, .inr (8, [.ref r0])), (r0, .inl (cI, 150, .inl (fun _ => (-1)))), (q1, .inr (8, [.ref r1])), (r1, .inl (cI, 150, .inl (fun _ => 0))), (q2, .inr (8, [.ref r2])), (r2, .inl (cI, 150, .inl (fun _ => 0))), (q3, .inr (8, [.ref r3])), (r3, .inl (cI, 150, .inl (fun _ => 0))), (q4, .inr (8, [.ref r4])), (r4, .inl (cI, 150, .inl (fun _ => 0))), (q5, .inr (8, [.ref r5])), (r5, .inl (cI, 150, .inl (fun _ => (-1))))]) hC (k_row q6 150 (by decide) (-1)) mI_X8_init wm_X1_11 rfl rfl rfl (Nat.le_of_ble_eq_true rfl) ⟨by decide, by decide⟩ ⟨by decide, by decide⟩ dX1_init_103 (fun r6 => ?_)
  refine gc_cast (ws2 := [(h0, .inr (1, [.ref q0, .ref q1, .ref q2, .ref q3, .ref q4, .ref q5, .null, .null, .null, .null, .null, .null, .null, .int 0])), (q0, .inr (8, [.ref r0])), (r0, .inl (cI, 150, .inl (fun _ => (-1)))), (q1, .inr (8, [.ref r1])), (r1, .inl (cI, 150, .inl (fun _ => 0))), (q2, .inr (8, [.ref r2])), (r2, .inl (cI, 150, .inl (fun _ => 0))), (q3, .inr (8, [.ref r3])), (r3, .inl (cI, 150, .inl (fun _ => 0))), (q4, .inr (8, [.ref r4])), (r4, .inl (cI, 150, .inl (fun _ => 0))), (q5, .inr (8, [.ref r5])), (r5, .inl (cI, 150, .inl (fun _ => (-1)))), (q6, .inr (8, [.ref r6])), (r6, .inl (cI, 150, .inl (fun _ => (-1))))]) (kc2 := 14) (ks2 := 1057) ?_ rfl rfl rfl rfl rfl rfl
  refine gc_putR hC hnm0 tyX1 rfl inX1 tyX1_ok nmX1 (k := 6) (by decide) wf_X1_35 rfl rfl (by decide +kernel : _ = some (FieldType.object "Fishclock$Row")) rfl rfl (Nat.le_of_ble_eq_true rfl) dX1_init_106 ?_
  refine gc_cast (ws2 := [(h0, .inr (1, [.ref q0, .ref q1, .ref q2, .ref q3, .ref q4, .ref q5, .ref q6, .null, .null, .null, .null, .null, .null, .int 0])), (q0, .inr (8, [.ref r0])), (r0, .inl (cI, 150, .inl (fun _ => (-1)))), (q1, .inr (8, [.ref r1])), (r1, .inl (cI, 150, .inl (fun _ => 0))), (q2, .inr (8, [.ref r2])), (r2, .inl (cI, 150, .inl (fun _ => 0))), (q3, .inr (8, [.ref r3])), (r3, .inl (cI, 150, .inl (fun _ => 0))), (q4, .inr (8, [.ref r4])), (r4, .inl (cI, 150, .inl (fun _ => 0))), (q5, .inr (8, [.ref r5])), (r5, .inl (cI, 150, .inl (fun _ => (-1)))), (q6, .inr (8, [.ref r6])), (r6, .inl (cI, 150, .inl (fun _ => (-1))))]) ?_ rfl rfl rfl rfl rfl rfl
  refine gc_aload_n hC 0 rfl rfl dX1_init_109 ?_
  refine gc_new (ci := 8) hC tyX8 (fs := [.null]) rfl inX8 tyX8_ok wl_X1_9 wj_X8 wn_X8 (fun j hj => by rw [show j = 0 by omega]; rfl) (by decide) (by decide) dX1_init_110 (fun q7 => ?_)
  refine gc_dup hC rfl dX1_init_113 ?_
  refine gc_sipush (v := 150) hC (by decide) dX1_init_114 ?_
  refine gc_iconst (v := (-1)) hC (by decide) dX1_init_117 ?_
  refine gc_callI (X := [(h0, .inr (1, [.ref q0, .ref q1, .ref q2, .ref q3, .ref q4, .ref q5, .ref q6, .null, .null, .null, .null, .null, .null, .int 0])), (q0, .inr (8, [.ref r0])), (r0, .inl (cI, 150, .inl (fun _ => (-1)))), (q1, .inr (8, [.ref r1])), (r1, .inl (cI, 150, .inl (fun _ => 0))), (q2, .inr (8, [.ref r2])), (r2, .inl (cI, 150, .inl (fun _ => 0))), (q3, .inr (8, [.ref r3])), (r3, .inl (cI, 150, .inl (fun _ => 0))), (q4, .inr (8, [.ref r4])), (r4, .inl (cI, 150, .inl (fun _ => 0))), (q5, .inr (8, [.ref r5])), (r5, .inl (cI, 150, .inl (fun _ => (-1)))), (q6, .inr (8, [.ref r6])), (r6, .inl (cI, 150, .inl (fun _ => (-1))))]) hC (k_row q7 150 (by decide) (-1)) mI_X8_init wm_X1_11 rfl rfl rfl (Nat.le_of_ble_eq_true rfl) ⟨by decide, by decide⟩ ⟨by decide, by decide⟩ dX1_init_118 (fun r7 => ?_)
  refine gc_cast (ws2 := [(h0, .inr (1, [.ref q0, .ref q1, .ref q2, .ref q3, .ref q4, .ref q5, .ref q6, .null, .null, .null, .null, .null, .null, .int 0])), (q0, .inr (8, [.ref r0])), (r0, .inl (cI, 150, .inl (fun _ => (-1)))), (q1, .inr (8, [.ref r1])), (r1, .inl (cI, 150, .inl (fun _ => 0))), (q2, .inr (8, [.ref r2])), (r2, .inl (cI, 150, .inl (fun _ => 0))), (q3, .inr (8, [.ref r3])), (r3, .inl (cI, 150, .inl (fun _ => 0))), (q4, .inr (8, [.ref r4])), (r4, .inl (cI, 150, .inl (fun _ => 0))), (q5, .inr (8, [.ref r5])), (r5, .inl (cI, 150, .inl (fun _ => (-1)))), (q6, .inr (8, [.ref r6])), (r6, .inl (cI, 150, .inl (fun _ => (-1)))), (q7, .inr (8, [.ref r7])), (r7, .inl (cI, 150, .inl (fun _ => (-1))))]) (kc2 := 16) (ks2 := 1208) ?_ rfl rfl rfl rfl rfl rfl
  refine gc_putR hC hnm0 tyX1 rfl inX1 tyX1_ok nmX1 (k := 7) (by decide) wf_X1_38 rfl rfl (by decide +kernel : _ = some (FieldType.object "Fishclock$Row")) rfl rfl (Nat.le_of_ble_eq_true rfl) dX1_init_121 ?_
  refine gc_cast (ws2 := [(h0, .inr (1, [.ref q0, .ref q1, .ref q2, .ref q3, .ref q4, .ref q5, .ref q6, .ref q7, .null, .null, .null, .null, .null, .int 0])), (q0, .inr (8, [.ref r0])), (r0, .inl (cI, 150, .inl (fun _ => (-1)))), (q1, .inr (8, [.ref r1])), (r1, .inl (cI, 150, .inl (fun _ => 0))), (q2, .inr (8, [.ref r2])), (r2, .inl (cI, 150, .inl (fun _ => 0))), (q3, .inr (8, [.ref r3])), (r3, .inl (cI, 150, .inl (fun _ => 0))), (q4, .inr (8, [.ref r4])), (r4, .inl (cI, 150, .inl (fun _ => 0))), (q5, .inr (8, [.ref r5])), (r5, .inl (cI, 150, .inl (fun _ => (-1)))), (q6, .inr (8, [.ref r6])), (r6, .inl (cI, 150, .inl (fun _ => (-1)))), (q7, .inr (8, [.ref r7])), (r7, .inl (cI, 150, .inl (fun _ => (-1))))]) ?_ rfl rfl rfl rfl rfl rfl
  refine gc_aload_n hC 0 rfl rfl dX1_init_124 ?_
  refine gc_new (ci := 8) hC tyX8 (fs := [.null]) rfl inX8 tyX8_ok wl_X1_9 wj_X8 wn_X8 (fun j hj => by rw [show j = 0 by omega]; rfl) (by decide) (by decide) dX1_init_125 (fun q8 => ?_)
  refine gc_dup hC rfl dX1_init_128 ?_
  refine gc_sipush (v := 150) hC (by decide) dX1_init_129 ?_
  refine gc_iconst (v := (-1)) hC (by decide) dX1_init_132 ?_
  refine gc_callI (X := [(h0, .inr (1, [.ref q0, .ref q1, .ref q2, .ref q3, .ref q4, .ref q5, .ref q6, .ref q7, .null, .null, .null, .null, .null, .int 0])), (q0, .inr (8, [.ref r0])), (r0, .inl (cI, 150, .inl (fun _ => (-1)))), (q1, .inr (8, [.ref r1])), (r1, .inl (cI, 150, .inl (fun _ => 0))), (q2, .inr (8, [.ref r2])), (r2, .inl (cI, 150, .inl (fun _ => 0))), (q3, .inr (8, [.ref r3])), (r3, .inl (cI, 150, .inl (fun _ => 0))), (q4, .inr (8, [.ref r4])), (r4, .inl (cI, 150, .inl (fun _ => 0))), (q5, .inr (8, [.ref r5])), (r5, .inl (cI, 150, .inl (fun _ => (-1)))), (q6, .inr (8, [.ref r6])), (r6, .inl (cI, 150, .inl (fun _ => (-1)))), (q7, .inr (8, [.ref r7])), (r7, .inl (cI, 150, .inl (fun _ => (-1))))]) hC (k_row q8 150 (by decide) (-1)) mI_X8_init wm_X1_11 rfl rfl rfl (Nat.le_of_ble_eq_true rfl) ⟨by decide, by decide⟩ ⟨by decide, by decide⟩ dX1_init_133 (fun r8 => ?_)
  refine gc_cast (ws2 := [(h0, .inr (1, [.ref q0, .ref q1, .ref q2, .ref q3, .ref q4, .ref q5, .ref q6, .ref q7, .null, .null, .null, .null, .null, .int 0])), (q0, .inr (8, [.ref r0])), (r0, .inl (cI, 150, .inl (fun _ => (-1)))), (q1, .inr (8, [.ref r1])), (r1, .inl (cI, 150, .inl (fun _ => 0))), (q2, .inr (8, [.ref r2])), (r2, .inl (cI, 150, .inl (fun _ => 0))), (q3, .inr (8, [.ref r3])), (r3, .inl (cI, 150, .inl (fun _ => 0))), (q4, .inr (8, [.ref r4])), (r4, .inl (cI, 150, .inl (fun _ => 0))), (q5, .inr (8, [.ref r5])), (r5, .inl (cI, 150, .inl (fun _ => (-1)))), (q6, .inr (8, [.ref r6])), (r6, .inl (cI, 150, .inl (fun _ => (-1)))), (q7, .inr (8, [.ref r7])), (r7, .inl (cI, 150, .inl (fun _ => (-1)))), (q8, .inr (8, [.ref r8])), (r8, .inl (cI, 150, .inl (fun _ => (-1))))]) (kc2 := 18) (ks2 := 1359) ?_ rfl rfl rfl rfl rfl rfl
  refine gc_putR hC hnm0 tyX1 rfl inX1 tyX1_ok nmX1 (k := 8) (by decide) wf_X1_41 rfl rfl (by decide +kernel : _ = some (FieldType.object "Fishclock$Row")) rfl rfl (Nat.le_of_ble_eq_true rfl) dX1_init_136 ?_
  refine gc_cast (ws2 := [(h0, .inr (1, [.ref q0, .ref q1, .ref q2, .ref q3, .ref q4, .ref q5, .ref q6, .ref q7, .ref q8, .null, .null, .null, .null, .int 0])), (q0, .inr (8, [.ref r0])), (r0, .inl (cI, 150, .inl (fun _ => (-1)))), (q1, .inr (8, [.ref r1])), (r1, .inl (cI, 150, .inl (fun _ => 0))), (q2, .inr (8, [.ref r2])), (r2, .inl (cI, 150, .inl (fun _ => 0))), (q3, .inr (8, [.ref r3])), (r3, .inl (cI, 150, .inl (fun _ => 0))), (q4, .inr (8, [.ref r4])), (r4, .inl (cI, 150, .inl (fun _ => 0))), (q5, .inr (8, [.ref r5])), (r5, .inl (cI, 150, .inl (fun _ => (-1)))), (q6, .inr (8, [.ref r6])), (r6, .inl (cI, 150, .inl (fun _ => (-1)))), (q7, .inr (8, [.ref r7])), (r7, .inl (cI, 150, .inl (fun _ => (-1)))), (q8, .inr (8, [.ref r8])), (r8, .inl (cI, 150, .inl (fun _ => (-1))))]) ?_ rfl rfl rfl rfl rfl rfl
  refine gc_aload_n hC 0 rfl rfl dX1_init_139 ?_
  refine gc_new (ci := 8) hC tyX8 (fs := [.null]) rfl inX8 tyX8_ok wl_X1_9 wj_X8 wn_X8 (fun j hj => by rw [show j = 0 by omega]; rfl) (by decide) (by decide) dX1_init_140 (fun q9 => ?_)
  refine gc_dup hC rfl dX1_init_143 ?_
  refine gc_sipush (v := 150) hC (by decide) dX1_init_144 ?_
  refine gc_iconst (v := (-1)) hC (by decide) dX1_init_147 ?_
  refine gc_callI (X := [(h0, .inr (1, [.ref q0, .ref q1, .ref q2, .ref q3, .ref q4, .ref q5, .ref q6, .ref q7, .ref q8, .null, .null, .null, .null, .int 0])), (q0, .inr (8, [.ref r0])), (r0, .inl (cI, 150, .inl (fun _ => (-1)))), (q1, .inr (8, [.ref r1])), (r1, .inl (cI, 150, .inl (fun _ => 0))), (q2, .inr (8, [.ref r2])), (r2, .inl (cI, 150, .inl (fun _ => 0))), (q3, .inr (8, [.ref r3])), (r3, .inl (cI, 150, .inl (fun _ => 0))), (q4, .inr (8, [.ref r4])), (r4, .inl (cI, 150, .inl (fun _ => 0))), (q5, .inr (8, [.ref r5])), (r5, .inl (cI, 150, .inl (fun _ => (-1)))), (q6, .inr (8, [.ref r6])), (r6, .inl (cI, 150, .inl (fun _ => (-1)))), (q7, .inr (8, [.ref r7])), (r7, .inl (cI, 150, .inl (fun _ => (-1)))), (q8, .inr (8, [.ref r8])), (r8, .inl (cI, 150, .inl (fun _ => (-1))))]) hC (k_row q9 150 (by decide) (-1)) mI_X8_init wm_X1_11 rfl rfl rfl (Nat.le_of_ble_eq_true rfl) ⟨by decide, by decide⟩ ⟨by decide, by decide⟩ dX1_init_148 (fun r9 => ?_)
  refine gc_cast (ws2 := [(h0, .inr (1, [.ref q0, .ref q1, .ref q2, .ref q3, .ref q4, .ref q5, .ref q6, .ref q7, .ref q8, .null, .null, .null, .null, .int 0])), (q0, .inr (8, [.ref r0])), (r0, .inl (cI, 150, .inl (fun _ => (-1)))), (q1, .inr (8, [.ref r1])), (r1, .inl (cI, 150, .inl (fun _ => 0))), (q2, .inr (8, [.ref r2])), (r2, .inl (cI, 150, .inl (fun _ => 0))), (q3, .inr (8, [.ref r3])), (r3, .inl (cI, 150, .inl (fun _ => 0))), (q4, .inr (8, [.ref r4])), (r4, .inl (cI, 150, .inl (fun _ => 0))), (q5, .inr (8, [.ref r5])), (r5, .inl (cI, 150, .inl (fun _ => (-1)))), (q6, .inr (8, [.ref r6])), (r6, .inl (cI, 150, .inl (fun _ => (-1)))), (q7, .inr (8, [.ref r7])), (r7, .inl (cI, 150, .inl (fun _ => (-1)))), (q8, .inr (8, [.ref r8])), (r8, .inl (cI, 150, .inl (fun _ => (-1)))), (q9, .inr (8, [.ref r9])), (r9, .inl (cI, 150, .inl (fun _ => (-1))))]) (kc2 := 20) (ks2 := 1510) ?_ rfl rfl rfl rfl rfl rfl
  refine gc_putR hC hnm0 tyX1 rfl inX1 tyX1_ok nmX1 (k := 9) (by decide) wf_X1_44 rfl rfl (by decide +kernel : _ = some (FieldType.object "Fishclock$Row")) rfl rfl (Nat.le_of_ble_eq_true rfl) dX1_init_151 ?_
  refine gc_cast (ws2 := [(h0, .inr (1, [.ref q0, .ref q1, .ref q2, .ref q3, .ref q4, .ref q5, .ref q6, .ref q7, .ref q8, .ref q9, .null, .null, .null, .int 0])), (q0, .inr (8, [.ref r0])), (r0, .inl (cI, 150, .inl (fun _ => (-1)))), (q1, .inr (8, [.ref r1])), (r1, .inl (cI, 150, .inl (fun _ => 0))), (q2, .inr (8, [.ref r2])), (r2, .inl (cI, 150, .inl (fun _ => 0))), (q3, .inr (8, [.ref r3])), (r3, .inl (cI, 150, .inl (fun _ => 0))), (q4, .inr (8, [.ref r4])), (r4, .inl (cI, 150, .inl (fun _ => 0))), (q5, .inr (8, [.ref r5])), (r5, .inl (cI, 150, .inl (fun _ => (-1)))), (q6, .inr (8, [.ref r6])), (r6, .inl (cI, 150, .inl (fun _ => (-1)))), (q7, .inr (8, [.ref r7])), (r7, .inl (cI, 150, .inl (fun _ => (-1)))), (q8, .inr (8, [.ref r8])), (r8, .inl (cI, 150, .inl (fun _ => (-1)))), (q9, .inr (8, [.ref r9])), (r9, .inl (cI, 150, .inl (fun _ => (-1))))]) ?_ rfl rfl rfl rfl rfl rfl
  refine gc_aload_n hC 0 rfl rfl dX1_init_154 ?_
  refine gc_new (ci := 8) hC tyX8 (fs := [.null]) rfl inX8 tyX8_ok wl_X1_9 wj_X8 wn_X8 (fun j hj => by rw [show j = 0 by omega]; rfl) (by decide) (by decide) dX1_init_155 (fun q10 => ?_)
  refine gc_dup hC rfl dX1_init_158 ?_
  refine gc_sipush (v := 150) hC (by decide) dX1_init_159 ?_
  refine gc_iconst (v := 0) hC (by decide) dX1_init_162 ?_
  refine gc_callI (X := [(h0, .inr (1, [.ref q0, .ref q1, .ref q2, .ref q3, .ref q4, .ref q5, .ref q6, .ref q7, .ref q8, .ref q9, .null, .null, .null, .int 0])), (q0, .inr (8, [.ref r0])), (r0, .inl (cI, 150, .inl (fun _ => (-1)))), (q1, .inr (8, [.ref r1])), (r1, .inl (cI, 150, .inl (fun _ => 0))), (q2, .inr (8, [.ref r2])), (r2, .inl (cI, 150, .inl (fun _ => 0))), (q3, .inr (8, [.ref r3])), (r3, .inl (cI, 150, .inl (fun _ => 0))), (q4, .inr (8, [.ref r4])), (r4, .inl (cI, 150, .inl (fun _ => 0))), (q5, .inr (8, [.ref r5])), (r5, .inl (cI, 150, .inl (fun _ => (-1)))), (q6, .inr (8, [.ref r6])), (r6, .inl (cI, 150, .inl (fun _ => (-1)))), (q7, .inr (8, [.ref r7])), (r7, .inl (cI, 150, .inl (fun _ => (-1)))), (q8, .inr (8, [.ref r8])), (r8, .inl (cI, 150, .inl (fun _ => (-1)))), (q9, .inr (8, [.ref r9])), (r9, .inl (cI, 150, .inl (fun _ => (-1))))]) hC (k_row q10 150 (by decide) 0) mI_X8_init wm_X1_11 rfl rfl rfl (Nat.le_of_ble_eq_true rfl) ⟨by decide, by decide⟩ ⟨by decide, by decide⟩ dX1_init_163 (fun r10 => ?_)
  refine gc_cast (ws2 := [(h0, .inr (1, [.ref q0, .ref q1, .ref q2, .ref q3, .ref q4, .ref q5, .ref q6, .ref q7, .ref q8, .ref q9, .null, .null, .null, .int 0])), (q0, .inr (8, [.ref r0])), (r0, .inl (cI, 150, .inl (fun _ => (-1)))), (q1, .inr (8, [.ref r1])), (r1, .inl (cI, 150, .inl (fun _ => 0))), (q2, .inr (8, [.ref r2])), (r2, .inl (cI, 150, .inl (fun _ => 0))), (q3, .inr (8, [.ref r3])), (r3, .inl (cI, 150, .inl (fun _ => 0))), (q4, .inr (8, [.ref r4])), (r4, .inl (cI, 150, .inl (fun _ => 0))), (q5, .inr (8, [.ref r5])), (r5, .inl (cI, 150, .inl (fun _ => (-1)))), (q6, .inr (8, [.ref r6])), (r6, .inl (cI, 150, .inl (fun _ => (-1)))), (q7, .inr (8, [.ref r7])), (r7, .inl (cI, 150, .inl (fun _ => (-1)))), (q8, .inr (8, [.ref r8])), (r8, .inl (cI, 150, .inl (fun _ => (-1)))), (q9, .inr (8, [.ref r9])), (r9, .inl (cI, 150, .inl (fun _ => (-1)))), (q10, .inr (8, [.ref r10])), (r10, .inl (cI, 150, .inl (fun _ => 0)))]) (kc2 := 22) (ks2 := 1661) ?_ rfl rfl rfl rfl rfl rfl
  refine gc_putR hC hnm0 tyX1 rfl inX1 tyX1_ok nmX1 (k := 10) (by decide) wf_X1_47 rfl rfl (by decide +kernel : _ = some (FieldType.object "Fishclock$Row")) rfl rfl (Nat.le_of_ble_eq_true rfl) dX1_init_166 ?_
  refine gc_cast (ws2 := [(h0, .inr (1, [.ref q0, .ref q1, .ref q2, .ref q3, .ref q4, .ref q5, .ref q6, .ref q7, .ref q8, .ref q9, .ref q10, .null, .null, .int 0])), (q0, .inr (8, [.ref r0])), (r0, .inl (cI, 150, .inl (fun _ => (-1)))), (q1, .inr (8, [.ref r1])), (r1, .inl (cI, 150, .inl (fun _ => 0))), (q2, .inr (8, [.ref r2])), (r2, .inl (cI, 150, .inl (fun _ => 0))), (q3, .inr (8, [.ref r3])), (r3, .inl (cI, 150, .inl (fun _ => 0))), (q4, .inr (8, [.ref r4])), (r4, .inl (cI, 150, .inl (fun _ => 0))), (q5, .inr (8, [.ref r5])), (r5, .inl (cI, 150, .inl (fun _ => (-1)))), (q6, .inr (8, [.ref r6])), (r6, .inl (cI, 150, .inl (fun _ => (-1)))), (q7, .inr (8, [.ref r7])), (r7, .inl (cI, 150, .inl (fun _ => (-1)))), (q8, .inr (8, [.ref r8])), (r8, .inl (cI, 150, .inl (fun _ => (-1)))), (q9, .inr (8, [.ref r9])), (r9, .inl (cI, 150, .inl (fun _ => (-1)))), (q10, .inr (8, [.ref r10])), (r10, .inl (cI, 150, .inl (fun _ => 0)))]) ?_ rfl rfl rfl rfl rfl rfl
  refine gc_aload_n hC 0 rfl rfl dX1_init_169 ?_
  refine gc_new (ci := 8) hC tyX8 (fs := [.null]) rfl inX8 tyX8_ok wl_X1_9 wj_X8 wn_X8 (fun j hj => by rw [show j = 0 by omega]; rfl) (by decide) (by decide) dX1_init_170 (fun q11 => ?_)
  refine gc_dup hC rfl dX1_init_173 ?_
  refine gc_sipush (v := 150) hC (by decide) dX1_init_174 ?_
  refine gc_iconst (v := 0) hC (by decide) dX1_init_177 ?_
  refine gc_callI (X := [(h0, .inr (1, [.ref q0, .ref q1, .ref q2, .ref q3, .ref q4, .ref q5, .ref q6, .ref q7, .ref q8, .ref q9, .ref q10, .null, .null, .int 0])), (q0, .inr (8, [.ref r0])), (r0, .inl (cI, 150, .inl (fun _ => (-1)))), (q1, .inr (8, [.ref r1])), (r1, .inl (cI, 150, .inl (fun _ => 0))), (q2, .inr (8, [.ref r2])), (r2, .inl (cI, 150, .inl (fun _ => 0))), (q3, .inr (8, [.ref r3])), (r3, .inl (cI, 150, .inl (fun _ => 0))), (q4, .inr (8, [.ref r4])), (r4, .inl (cI, 150, .inl (fun _ => 0))), (q5, .inr (8, [.ref r5])), (r5, .inl (cI, 150, .inl (fun _ => (-1)))), (q6, .inr (8, [.ref r6])), (r6, .inl (cI, 150, .inl (fun _ => (-1)))), (q7, .inr (8, [.ref r7])), (r7, .inl (cI, 150, .inl (fun _ => (-1)))), (q8, .inr (8, [.ref r8])), (r8, .inl (cI, 150, .inl (fun _ => (-1)))), (q9, .inr (8, [.ref r9])), (r9, .inl (cI, 150, .inl (fun _ => (-1)))), (q10, .inr (8, [.ref r10])), (r10, .inl (cI, 150, .inl (fun _ => 0)))]) hC (k_row q11 150 (by decide) 0) mI_X8_init wm_X1_11 rfl rfl rfl (Nat.le_of_ble_eq_true rfl) ⟨by decide, by decide⟩ ⟨by decide, by decide⟩ dX1_init_178 (fun r11 => ?_)
  refine gc_cast (ws2 := [(h0, .inr (1, [.ref q0, .ref q1, .ref q2, .ref q3, .ref q4, .ref q5, .ref q6, .ref q7, .ref q8, .ref q9, .ref q10, .null, .null, .int 0])), (q0, .inr (8, [.ref r0])), (r0, .inl (cI, 150, .inl (fun _ => (-1)))), (q1, .inr (8, [.ref r1])), (r1, .inl (cI, 150, .inl (fun _ => 0))), (q2, .inr (8, [.ref r2])), (r2, .inl (cI, 150, .inl (fun _ => 0))), (q3, .inr (8, [.ref r3])), (r3, .inl (cI, 150, .inl (fun _ => 0))), (q4, .inr (8, [.ref r4])), (r4, .inl (cI, 150, .inl (fun _ => 0))), (q5, .inr (8, [.ref r5])), (r5, .inl (cI, 150, .inl (fun _ => (-1)))), (q6, .inr (8, [.ref r6])), (r6, .inl (cI, 150, .inl (fun _ => (-1)))), (q7, .inr (8, [.ref r7])), (r7, .inl (cI, 150, .inl (fun _ => (-1)))), (q8, .inr (8, [.ref r8])), (r8, .inl (cI, 150, .inl (fun _ => (-1)))), (q9, .inr (8, [.ref r9])), (r9, .inl (cI, 150, .inl (fun _ => (-1)))), (q10, .inr (8, [.ref r10])), (r10, .inl (cI, 150, .inl (fun _ => 0))), (q11, .inr (8, [.ref r11])), (r11, .inl (cI, 150, .inl (fun _ => 0)))]) (kc2 := 24) (ks2 := 1812) ?_ rfl rfl rfl rfl rfl rfl
  refine gc_putR hC hnm0 tyX1 rfl inX1 tyX1_ok nmX1 (k := 11) (by decide) wf_X1_50 rfl rfl (by decide +kernel : _ = some (FieldType.object "Fishclock$Row")) rfl rfl (Nat.le_of_ble_eq_true rfl) dX1_init_181 ?_
  refine gc_cast (ws2 := [(h0, .inr (1, [.ref q0, .ref q1, .ref q2, .ref q3, .ref q4, .ref q5, .ref q6, .ref q7, .ref q8, .ref q9, .ref q10, .ref q11, .null, .int 0])), (q0, .inr (8, [.ref r0])), (r0, .inl (cI, 150, .inl (fun _ => (-1)))), (q1, .inr (8, [.ref r1])), (r1, .inl (cI, 150, .inl (fun _ => 0))), (q2, .inr (8, [.ref r2])), (r2, .inl (cI, 150, .inl (fun _ => 0))), (q3, .inr (8, [.ref r3])), (r3, .inl (cI, 150, .inl (fun _ => 0))), (q4, .inr (8, [.ref r4])), (r4, .inl (cI, 150, .inl (fun _ => 0))), (q5, .inr (8, [.ref r5])), (r5, .inl (cI, 150, .inl (fun _ => (-1)))), (q6, .inr (8, [.ref r6])), (r6, .inl (cI, 150, .inl (fun _ => (-1)))), (q7, .inr (8, [.ref r7])), (r7, .inl (cI, 150, .inl (fun _ => (-1)))), (q8, .inr (8, [.ref r8])), (r8, .inl (cI, 150, .inl (fun _ => (-1)))), (q9, .inr (8, [.ref r9])), (r9, .inl (cI, 150, .inl (fun _ => (-1)))), (q10, .inr (8, [.ref r10])), (r10, .inl (cI, 150, .inl (fun _ => 0))), (q11, .inr (8, [.ref r11])), (r11, .inl (cI, 150, .inl (fun _ => 0)))]) ?_ rfl rfl rfl rfl rfl rfl
  refine gc_aload_n hC 0 rfl rfl dX1_init_184 ?_
  refine gc_new (ci := 8) hC tyX8 (fs := [.null]) rfl inX8 tyX8_ok wl_X1_9 wj_X8 wn_X8 (fun j hj => by rw [show j = 0 by omega]; rfl) (by decide) (by decide) dX1_init_185 (fun q12 => ?_)
  refine gc_dup hC rfl dX1_init_188 ?_
  refine gc_bipush (v := 6) hC (by decide) dX1_init_189 ?_
  refine gc_iconst (v := 0) hC (by decide) dX1_init_191 ?_
  refine gc_callI (X := [(h0, .inr (1, [.ref q0, .ref q1, .ref q2, .ref q3, .ref q4, .ref q5, .ref q6, .ref q7, .ref q8, .ref q9, .ref q10, .ref q11, .null, .int 0])), (q0, .inr (8, [.ref r0])), (r0, .inl (cI, 150, .inl (fun _ => (-1)))), (q1, .inr (8, [.ref r1])), (r1, .inl (cI, 150, .inl (fun _ => 0))), (q2, .inr (8, [.ref r2])), (r2, .inl (cI, 150, .inl (fun _ => 0))), (q3, .inr (8, [.ref r3])), (r3, .inl (cI, 150, .inl (fun _ => 0))), (q4, .inr (8, [.ref r4])), (r4, .inl (cI, 150, .inl (fun _ => 0))), (q5, .inr (8, [.ref r5])), (r5, .inl (cI, 150, .inl (fun _ => (-1)))), (q6, .inr (8, [.ref r6])), (r6, .inl (cI, 150, .inl (fun _ => (-1)))), (q7, .inr (8, [.ref r7])), (r7, .inl (cI, 150, .inl (fun _ => (-1)))), (q8, .inr (8, [.ref r8])), (r8, .inl (cI, 150, .inl (fun _ => (-1)))), (q9, .inr (8, [.ref r9])), (r9, .inl (cI, 150, .inl (fun _ => (-1)))), (q10, .inr (8, [.ref r10])), (r10, .inl (cI, 150, .inl (fun _ => 0))), (q11, .inr (8, [.ref r11])), (r11, .inl (cI, 150, .inl (fun _ => 0)))]) hC (k_row q12 6 (by decide) 0) mI_X8_init wm_X1_11 rfl rfl rfl (Nat.le_of_ble_eq_true rfl) ⟨by decide, by decide⟩ ⟨by decide, by decide⟩ dX1_init_192 (fun r12 => ?_)
  refine gc_cast (ws2 := [(h0, .inr (1, [.ref q0, .ref q1, .ref q2, .ref q3, .ref q4, .ref q5, .ref q6, .ref q7, .ref q8, .ref q9, .ref q10, .ref q11, .null, .int 0])), (q0, .inr (8, [.ref r0])), (r0, .inl (cI, 150, .inl (fun _ => (-1)))), (q1, .inr (8, [.ref r1])), (r1, .inl (cI, 150, .inl (fun _ => 0))), (q2, .inr (8, [.ref r2])), (r2, .inl (cI, 150, .inl (fun _ => 0))), (q3, .inr (8, [.ref r3])), (r3, .inl (cI, 150, .inl (fun _ => 0))), (q4, .inr (8, [.ref r4])), (r4, .inl (cI, 150, .inl (fun _ => 0))), (q5, .inr (8, [.ref r5])), (r5, .inl (cI, 150, .inl (fun _ => (-1)))), (q6, .inr (8, [.ref r6])), (r6, .inl (cI, 150, .inl (fun _ => (-1)))), (q7, .inr (8, [.ref r7])), (r7, .inl (cI, 150, .inl (fun _ => (-1)))), (q8, .inr (8, [.ref r8])), (r8, .inl (cI, 150, .inl (fun _ => (-1)))), (q9, .inr (8, [.ref r9])), (r9, .inl (cI, 150, .inl (fun _ => (-1)))), (q10, .inr (8, [.ref r10])), (r10, .inl (cI, 150, .inl (fun _ => 0))), (q11, .inr (8, [.ref r11])), (r11, .inl (cI, 150, .inl (fun _ => 0))), (q12, .inr (8, [.ref r12])), (r12, .inl (cI, 6, .inl (fun _ => 0)))]) (kc2 := 26) (ks2 := 1819) ?_ rfl rfl rfl rfl rfl rfl
  refine gc_putR hC hnm0 tyX1 rfl inX1 tyX1_ok nmX1 (k := 12) (by decide) wf_X1_53 rfl rfl (by decide +kernel : _ = some (FieldType.object "Fishclock$Row")) rfl rfl (Nat.le_of_ble_eq_true rfl) dX1_init_195 ?_
  refine gc_cast (ws2 := [(h0, .inr (1, [.ref q0, .ref q1, .ref q2, .ref q3, .ref q4, .ref q5, .ref q6, .ref q7, .ref q8, .ref q9, .ref q10, .ref q11, .ref q12, .int 0])), (q0, .inr (8, [.ref r0])), (r0, .inl (cI, 150, .inl (fun _ => (-1)))), (q1, .inr (8, [.ref r1])), (r1, .inl (cI, 150, .inl (fun _ => 0))), (q2, .inr (8, [.ref r2])), (r2, .inl (cI, 150, .inl (fun _ => 0))), (q3, .inr (8, [.ref r3])), (r3, .inl (cI, 150, .inl (fun _ => 0))), (q4, .inr (8, [.ref r4])), (r4, .inl (cI, 150, .inl (fun _ => 0))), (q5, .inr (8, [.ref r5])), (r5, .inl (cI, 150, .inl (fun _ => (-1)))), (q6, .inr (8, [.ref r6])), (r6, .inl (cI, 150, .inl (fun _ => (-1)))), (q7, .inr (8, [.ref r7])), (r7, .inl (cI, 150, .inl (fun _ => (-1)))), (q8, .inr (8, [.ref r8])), (r8, .inl (cI, 150, .inl (fun _ => (-1)))), (q9, .inr (8, [.ref r9])), (r9, .inl (cI, 150, .inl (fun _ => (-1)))), (q10, .inr (8, [.ref r10])), (r10, .inl (cI, 150, .inl (fun _ => 0))), (q11, .inr (8, [.ref r11])), (r11, .inl (cI, 150, .inl (fun _ => 0))), (q12, .inr (8, [.ref r12])), (r12, .inl (cI, 6, .inl (fun _ => 0)))]) ?_ rfl rfl rfl rfl rfl rfl
  refine gc_aload_n hC 0 rfl rfl dX1_init_198 ?_
  refine gc_iconst (v := 0) hC (by decide) dX1_init_199 ?_
  refine gc_putI hC tyX1 rfl inX1 tyX1_ok nmX1 (k := 13) (by decide) wf_X1_56 rfl (by decide +kernel : _ = some FieldType.int) rfl rfl (Nat.le_of_ble_eq_true rfl) dX1_init_200 ?_
  refine gc_cast (ws2 := [(h0, .inr (1, [.ref q0, .ref q1, .ref q2, .ref q3, .ref q4, .ref q5, .ref q6, .ref q7, .ref q8, .ref q9, .ref q10, .ref q11, .ref q12, .int 0])), (q0, .inr (8, [.ref r0])), (r0, .inl (cI, 150, .inl (fun _ => (-1)))), (q1, .inr (8, [.ref r1])), (r1, .inl (cI, 150, .inl (fun _ => 0))), (q2, .inr (8, [.ref r2])), (r2, .inl (cI, 150, .inl (fun _ => 0))), (q3, .inr (8, [.ref r3])), (r3, .inl (cI, 150, .inl (fun _ => 0))), (q4, .inr (8, [.ref r4])), (r4, .inl (cI, 150, .inl (fun _ => 0))), (q5, .inr (8, [.ref r5])), (r5, .inl (cI, 150, .inl (fun _ => (-1)))), (q6, .inr (8, [.ref r6])), (r6, .inl (cI, 150, .inl (fun _ => (-1)))), (q7, .inr (8, [.ref r7])), (r7, .inl (cI, 150, .inl (fun _ => (-1)))), (q8, .inr (8, [.ref r8])), (r8, .inl (cI, 150, .inl (fun _ => (-1)))), (q9, .inr (8, [.ref r9])), (r9, .inl (cI, 150, .inl (fun _ => (-1)))), (q10, .inr (8, [.ref r10])), (r10, .inl (cI, 150, .inl (fun _ => 0))), (q11, .inr (8, [.ref r11])), (r11, .inl (cI, 150, .inl (fun _ => 0))), (q12, .inr (8, [.ref r12])), (r12, .inl (cI, 6, .inl (fun _ => 0)))]) ?_ rfl rfl rfl rfl rfl rfl
  exact gc_vret hC hr (fun k => [h0, q0, r0, q1, r1, q2, r2, q3, r3, q4, r4, q5, r5, q6, r6, q7, r7, q8, r8, q9, r9, q10, r10, q11, r11, q12, r12].getD k 0) rfl dX1_init_203
def mtS_X6 : List gq_T := [.inl (6, [some 1, some 3, some 5, some 7, some 9, some 11, some 13, none, none]), .inl (8, [some 2]), .inr (false, 150), .inl (8, [some 4]), .inr (false, 150), .inl (8, [some 6]), .inr (false, 150), .inl (8, [some 8]), .inr (false, 150), .inl (8, [some 10]), .inr (false, 150), .inl (8, [some 12]), .inr (false, 150), .inl (8, [some 14]), .inr (false, 108)]
def MS_X6 : gq_M := fun k => [(fun _ => 0), (fun _ => 0), (fun _ => (-1)), (fun _ => 0), (fun _ => 0), (fun _ => 0), (fun _ => (-1)), (fun _ => 0), (fun _ => 0), (fun _ => 0), (fun _ => 0), (fun _ => 0), (fun _ => (-1)), (fun _ => 0), (fun _ => 0)].getD k (fun _ => 0)
set_option maxHeartbeats 1000000 in
set_option maxRecDepth 20000 in
theorem k_X6 {l : Launch} {D : va_G} {cI cZ : ClassId} (h0 : Nat) : gc_Ct l D cI cZ yX6_init cX6_init 1 2 14 1015 [.ref h0] [(h0, .inr (6, [.null, .null, .null, .null, .null, .null, .null, .int 0, .int 0]))] (fun u => gq_ws cI cZ (gc_ad h0 u) MS_X6 0 mtS_X6) := by
  refine gc_intro (own := RX6) (by decide) rfl (Nat.le_of_ble_eq_true rfl) ?_
  intro p e s m below meth c hC hr hnm0
  refine gc_cast (L2 := [(0, .ref h0)]) ?_ rfl rfl rfl rfl rfl rfl
  refine gc_aload_n hC 0 rfl rfl dX6_init_0 ?_
  refine gc_objInit hC wo_X6 wo_i wo_c ⟨by decide, Nat.le_of_ble_eq_true rfl⟩ dX6_init_1 ?_
  refine gc_aload_n hC 0 rfl rfl dX6_init_4 ?_
  refine gc_new (ci := 8) hC tyX8 (fs := [.null]) rfl inX8 tyX8_ok wl_X6_9 wj_X8 wn_X8 (fun j hj => by rw [show j = 0 by omega]; rfl) (by decide) (by decide) dX6_init_5 (fun q0 => ?_)
  refine gc_dup hC rfl dX6_init_8 ?_
  refine gc_sipush (v := 150) hC (by decide) dX6_init_9 ?_
  refine gc_iconst (v := (-1)) hC (by decide) dX6_init_12 ?_
  refine gc_callI (X := [(h0, .inr (6, [.null, .null, .null, .null, .null, .null, .null, .int 0, .int 0]))]) hC (k_row q0 150 (by decide) (-1)) mI_X8_init wm_X6_11 rfl rfl rfl (Nat.le_of_ble_eq_true rfl) ⟨by decide, by decide⟩ ⟨by decide, by decide⟩ dX6_init_13 (fun r0 => ?_)
  refine gc_cast (ws2 := [(h0, .inr (6, [.null, .null, .null, .null, .null, .null, .null, .int 0, .int 0])), (q0, .inr (8, [.ref r0])), (r0, .inl (cI, 150, .inl (fun _ => (-1))))]) (kc2 := 2) (ks2 := 151) ?_ rfl rfl rfl rfl rfl rfl
  refine gc_putR hC hnm0 tyX6 rfl inX6 tyX6_ok nmX6 (k := 0) (by decide) wf_X6_14 rfl rfl (by decide +kernel : _ = some (FieldType.object "Fishclock$Row")) rfl rfl (Nat.le_of_ble_eq_true rfl) dX6_init_16 ?_
  refine gc_cast (ws2 := [(h0, .inr (6, [.ref q0, .null, .null, .null, .null, .null, .null, .int 0, .int 0])), (q0, .inr (8, [.ref r0])), (r0, .inl (cI, 150, .inl (fun _ => (-1))))]) ?_ rfl rfl rfl rfl rfl rfl
  refine gc_aload_n hC 0 rfl rfl dX6_init_19 ?_
  refine gc_new (ci := 8) hC tyX8 (fs := [.null]) rfl inX8 tyX8_ok wl_X6_9 wj_X8 wn_X8 (fun j hj => by rw [show j = 0 by omega]; rfl) (by decide) (by decide) dX6_init_20 (fun q1 => ?_)
  refine gc_dup hC rfl dX6_init_23 ?_
  refine gc_sipush (v := 150) hC (by decide) dX6_init_24 ?_
  refine gc_iconst (v := 0) hC (by decide) dX6_init_27 ?_
  refine gc_callI (X := [(h0, .inr (6, [.ref q0, .null, .null, .null, .null, .null, .null, .int 0, .int 0])), (q0, .inr (8, [.ref r0])), (r0, .inl (cI, 150, .inl (fun _ => (-1))))]) hC (k_row q1 150 (by decide) 0) mI_X8_init wm_X6_11 rfl rfl rfl (Nat.le_of_ble_eq_true rfl) ⟨by decide, by decide⟩ ⟨by decide, by decide⟩ dX6_init_28 (fun r1 => ?_)
  refine gc_cast (ws2 := [(h0, .inr (6, [.ref q0, .null, .null, .null, .null, .null, .null, .int 0, .int 0])), (q0, .inr (8, [.ref r0])), (r0, .inl (cI, 150, .inl (fun _ => (-1)))), (q1, .inr (8, [.ref r1])), (r1, .inl (cI, 150, .inl (fun _ => 0)))]) (kc2 := 4) (ks2 := 302) ?_ rfl rfl rfl rfl rfl rfl
  refine gc_putR hC hnm0 tyX6 rfl inX6 tyX6_ok nmX6 (k := 1) (by decide) wf_X6_20 rfl rfl (by decide +kernel : _ = some (FieldType.object "Fishclock$Row")) rfl rfl (Nat.le_of_ble_eq_true rfl) dX6_init_31 ?_
  refine gc_cast (ws2 := [(h0, .inr (6, [.ref q0, .ref q1, .null, .null, .null, .null, .null, .int 0, .int 0])), (q0, .inr (8, [.ref r0])), (r0, .inl (cI, 150, .inl (fun _ => (-1)))), (q1, .inr (8, [.ref r1])), (r1, .inl (cI, 150, .inl (fun _ => 0)))]) ?_ rfl rfl rfl rfl rfl rfl
  refine gc_aload_n hC 0 rfl rfl dX6_init_34 ?_
  refine gc_new (ci := 8) hC tyX8 (fs := [.null]) rfl inX8 tyX8_ok wl_X6_9 wj_X8 wn_X8 (fun j hj => by rw [show j = 0 by omega]; rfl) (by decide) (by decide) dX6_init_35 (fun q2 => ?_)
  refine gc_dup hC rfl dX6_init_38 ?_
  refine gc_sipush (v := 150) hC (by decide) dX6_init_39 ?_
  refine gc_iconst (v := (-1)) hC (by decide) dX6_init_42 ?_
  refine gc_callI (X := [(h0, .inr (6, [.ref q0, .ref q1, .null, .null, .null, .null, .null, .int 0, .int 0])), (q0, .inr (8, [.ref r0])), (r0, .inl (cI, 150, .inl (fun _ => (-1)))), (q1, .inr (8, [.ref r1])), (r1, .inl (cI, 150, .inl (fun _ => 0)))]) hC (k_row q2 150 (by decide) (-1)) mI_X8_init wm_X6_11 rfl rfl rfl (Nat.le_of_ble_eq_true rfl) ⟨by decide, by decide⟩ ⟨by decide, by decide⟩ dX6_init_43 (fun r2 => ?_)
  refine gc_cast (ws2 := [(h0, .inr (6, [.ref q0, .ref q1, .null, .null, .null, .null, .null, .int 0, .int 0])), (q0, .inr (8, [.ref r0])), (r0, .inl (cI, 150, .inl (fun _ => (-1)))), (q1, .inr (8, [.ref r1])), (r1, .inl (cI, 150, .inl (fun _ => 0))), (q2, .inr (8, [.ref r2])), (r2, .inl (cI, 150, .inl (fun _ => (-1))))]) (kc2 := 6) (ks2 := 453) ?_ rfl rfl rfl rfl rfl rfl
  refine gc_putR hC hnm0 tyX6 rfl inX6 tyX6_ok nmX6 (k := 2) (by decide) wf_X6_23 rfl rfl (by decide +kernel : _ = some (FieldType.object "Fishclock$Row")) rfl rfl (Nat.le_of_ble_eq_true rfl) dX6_init_46 ?_
  refine gc_cast (ws2 := [(h0, .inr (6, [.ref q0, .ref q1, .ref q2, .null, .null, .null, .null, .int 0, .int 0])), (q0, .inr (8, [.ref r0])), (r0, .inl (cI, 150, .inl (fun _ => (-1)))), (q1, .inr (8, [.ref r1])), (r1, .inl (cI, 150, .inl (fun _ => 0))), (q2, .inr (8, [.ref r2])), (r2, .inl (cI, 150, .inl (fun _ => (-1))))]) ?_ rfl rfl rfl rfl rfl rfl
  refine gc_aload_n hC 0 rfl rfl dX6_init_49 ?_
  refine gc_new (ci := 8) hC tyX8 (fs := [.null]) rfl inX8 tyX8_ok wl_X6_9 wj_X8 wn_X8 (fun j hj => by rw [show j = 0 by omega]; rfl) (by decide) (by decide) dX6_init_50 (fun q3 => ?_)
  refine gc_dup hC rfl dX6_init_53 ?_
  refine gc_sipush (v := 150) hC (by decide) dX6_init_54 ?_
  refine gc_iconst (v := 0) hC (by decide) dX6_init_57 ?_
  refine gc_callI (X := [(h0, .inr (6, [.ref q0, .ref q1, .ref q2, .null, .null, .null, .null, .int 0, .int 0])), (q0, .inr (8, [.ref r0])), (r0, .inl (cI, 150, .inl (fun _ => (-1)))), (q1, .inr (8, [.ref r1])), (r1, .inl (cI, 150, .inl (fun _ => 0))), (q2, .inr (8, [.ref r2])), (r2, .inl (cI, 150, .inl (fun _ => (-1))))]) hC (k_row q3 150 (by decide) 0) mI_X8_init wm_X6_11 rfl rfl rfl (Nat.le_of_ble_eq_true rfl) ⟨by decide, by decide⟩ ⟨by decide, by decide⟩ dX6_init_58 (fun r3 => ?_)
  refine gc_cast (ws2 := [(h0, .inr (6, [.ref q0, .ref q1, .ref q2, .null, .null, .null, .null, .int 0, .int 0])), (q0, .inr (8, [.ref r0])), (r0, .inl (cI, 150, .inl (fun _ => (-1)))), (q1, .inr (8, [.ref r1])), (r1, .inl (cI, 150, .inl (fun _ => 0))), (q2, .inr (8, [.ref r2])), (r2, .inl (cI, 150, .inl (fun _ => (-1)))), (q3, .inr (8, [.ref r3])), (r3, .inl (cI, 150, .inl (fun _ => 0)))]) (kc2 := 8) (ks2 := 604) ?_ rfl rfl rfl rfl rfl rfl
  refine gc_putR hC hnm0 tyX6 rfl inX6 tyX6_ok nmX6 (k := 3) (by decide) wf_X6_26 rfl rfl (by decide +kernel : _ = some (FieldType.object "Fishclock$Row")) rfl rfl (Nat.le_of_ble_eq_true rfl) dX6_init_61 ?_
  refine gc_cast (ws2 := [(h0, .inr (6, [.ref q0, .ref q1, .ref q2, .ref q3, .null, .null, .null, .int 0, .int 0])), (q0, .inr (8, [.ref r0])), (r0, .inl (cI, 150, .inl (fun _ => (-1)))), (q1, .inr (8, [.ref r1])), (r1, .inl (cI, 150, .inl (fun _ => 0))), (q2, .inr (8, [.ref r2])), (r2, .inl (cI, 150, .inl (fun _ => (-1)))), (q3, .inr (8, [.ref r3])), (r3, .inl (cI, 150, .inl (fun _ => 0)))]) ?_ rfl rfl rfl rfl rfl rfl
  refine gc_aload_n hC 0 rfl rfl dX6_init_64 ?_
  refine gc_new (ci := 8) hC tyX8 (fs := [.null]) rfl inX8 tyX8_ok wl_X6_9 wj_X8 wn_X8 (fun j hj => by rw [show j = 0 by omega]; rfl) (by decide) (by decide) dX6_init_65 (fun q4 => ?_)
  refine gc_dup hC rfl dX6_init_68 ?_
  refine gc_sipush (v := 150) hC (by decide) dX6_init_69 ?_
  refine gc_iconst (v := 0) hC (by decide) dX6_init_72 ?_
  refine gc_callI (X := [(h0, .inr (6, [.ref q0, .ref q1, .ref q2, .ref q3, .null, .null, .null, .int 0, .int 0])), (q0, .inr (8, [.ref r0])), (r0, .inl (cI, 150, .inl (fun _ => (-1)))), (q1, .inr (8, [.ref r1])), (r1, .inl (cI, 150, .inl (fun _ => 0))), (q2, .inr (8, [.ref r2])), (r2, .inl (cI, 150, .inl (fun _ => (-1)))), (q3, .inr (8, [.ref r3])), (r3, .inl (cI, 150, .inl (fun _ => 0)))]) hC (k_row q4 150 (by decide) 0) mI_X8_init wm_X6_11 rfl rfl rfl (Nat.le_of_ble_eq_true rfl) ⟨by decide, by decide⟩ ⟨by decide, by decide⟩ dX6_init_73 (fun r4 => ?_)
  refine gc_cast (ws2 := [(h0, .inr (6, [.ref q0, .ref q1, .ref q2, .ref q3, .null, .null, .null, .int 0, .int 0])), (q0, .inr (8, [.ref r0])), (r0, .inl (cI, 150, .inl (fun _ => (-1)))), (q1, .inr (8, [.ref r1])), (r1, .inl (cI, 150, .inl (fun _ => 0))), (q2, .inr (8, [.ref r2])), (r2, .inl (cI, 150, .inl (fun _ => (-1)))), (q3, .inr (8, [.ref r3])), (r3, .inl (cI, 150, .inl (fun _ => 0))), (q4, .inr (8, [.ref r4])), (r4, .inl (cI, 150, .inl (fun _ => 0)))]) (kc2 := 10) (ks2 := 755) ?_ rfl rfl rfl rfl rfl rfl
  refine gc_putR hC hnm0 tyX6 rfl inX6 tyX6_ok nmX6 (k := 4) (by decide) wf_X6_29 rfl rfl (by decide +kernel : _ = some (FieldType.object "Fishclock$Row")) rfl rfl (Nat.le_of_ble_eq_true rfl) dX6_init_76 ?_
  refine gc_cast (ws2 := [(h0, .inr (6, [.ref q0, .ref q1, .ref q2, .ref q3, .ref q4, .null, .null, .int 0, .int 0])), (q0, .inr (8, [.ref r0])), (r0, .inl (cI, 150, .inl (fun _ => (-1)))), (q1, .inr (8, [.ref r1])), (r1, .inl (cI, 150, .inl (fun _ => 0))), (q2, .inr (8, [.ref r2])), (r2, .inl (cI, 150, .inl (fun _ => (-1)))), (q3, .inr (8, [.ref r3])), (r3, .inl (cI, 150, .inl (fun _ => 0))), (q4, .inr (8, [.ref r4])), (r4, .inl (cI, 150, .inl (fun _ => 0)))]) ?_ rfl rfl rfl rfl rfl rfl
  refine gc_aload_n hC 0 rfl rfl dX6_init_79 ?_
  refine gc_new (ci := 8) hC tyX8 (fs := [.null]) rfl inX8 tyX8_ok wl_X6_9 wj_X8 wn_X8 (fun j hj => by rw [show j = 0 by omega]; rfl) (by decide) (by decide) dX6_init_80 (fun q5 => ?_)
  refine gc_dup hC rfl dX6_init_83 ?_
  refine gc_sipush (v := 150) hC (by decide) dX6_init_84 ?_
  refine gc_iconst (v := (-1)) hC (by decide) dX6_init_87 ?_
  refine gc_callI (X := [(h0, .inr (6, [.ref q0, .ref q1, .ref q2, .ref q3, .ref q4, .null, .null, .int 0, .int 0])), (q0, .inr (8, [.ref r0])), (r0, .inl (cI, 150, .inl (fun _ => (-1)))), (q1, .inr (8, [.ref r1])), (r1, .inl (cI, 150, .inl (fun _ => 0))), (q2, .inr (8, [.ref r2])), (r2, .inl (cI, 150, .inl (fun _ => (-1)))), (q3, .inr (8, [.ref r3])), (r3, .inl (cI, 150, .inl (fun _ => 0))), (q4, .inr (8, [.ref r4])), (r4, .inl (cI, 150, .inl (fun _ => 0)))]) hC (k_row q5 150 (by decide) (-1)) mI_X8_init wm_X6_11 rfl rfl rfl (Nat.le_of_ble_eq_true rfl) ⟨by decide, by decide⟩ ⟨by decide, by decide⟩ dX6_init_88 (fun r5 => ?_)
  refine gc_cast (ws2 := [(h0, .inr (6, [.ref q0, .ref q1, .ref q2, .ref q3, .ref q4, .null, .null, .int 0, .int 0])), (q0, .inr (8, [.ref r0])), (r0, .inl (cI, 150, .inl (fun _ => (-1)))), (q1, .inr (8, [.ref r1])), (r1, .inl (cI, 150, .inl (fun _ => 0))), (q2, .inr (8, [.ref r2])), (r2, .inl (cI, 150, .inl (fun _ => (-1)))), (q3, .inr (8, [.ref r3])), (r3, .inl (cI, 150, .inl (fun _ => 0))), (q4, .inr (8, [.ref r4])), (r4, .inl (cI, 150, .inl (fun _ => 0))), (q5, .inr (8, [.ref r5])), (r5, .inl (cI, 150, .inl (fun _ => (-1))))]) (kc2 := 12) (ks2 := 906) ?_ rfl rfl rfl rfl rfl rfl
  refine gc_putR hC hnm0 tyX6 rfl inX6 tyX6_ok nmX6 (k := 5) (by decide) wf_X6_32 rfl rfl (by decide +kernel : _ = some (FieldType.object "Fishclock$Row")) rfl rfl (Nat.le_of_ble_eq_true rfl) dX6_init_91 ?_
  refine gc_cast (ws2 := [(h0, .inr (6, [.ref q0, .ref q1, .ref q2, .ref q3, .ref q4, .ref q5, .null, .int 0, .int 0])), (q0, .inr (8, [.ref r0])), (r0, .inl (cI, 150, .inl (fun _ => (-1)))), (q1, .inr (8, [.ref r1])), (r1, .inl (cI, 150, .inl (fun _ => 0))), (q2, .inr (8, [.ref r2])), (r2, .inl (cI, 150, .inl (fun _ => (-1)))), (q3, .inr (8, [.ref r3])), (r3, .inl (cI, 150, .inl (fun _ => 0))), (q4, .inr (8, [.ref r4])), (r4, .inl (cI, 150, .inl (fun _ => 0))), (q5, .inr (8, [.ref r5])), (r5, .inl (cI, 150, .inl (fun _ => (-1))))]) ?_ rfl rfl rfl rfl rfl rfl
  refine gc_aload_n hC 0 rfl rfl dX6_init_94 ?_
  refine gc_new (ci := 8) hC tyX8 (fs := [.null]) rfl inX8 tyX8_ok wl_X6_9 wj_X8 wn_X8 (fun j hj => by rw [show j = 0 by omega]; rfl) (by decide) (by decide) dX6_init_95 (fun q6 => ?_)
  refine gc_dup hC rfl dX6_init_98 ?_
  refine gc_bipush (v := 108) hC (by decide) dX6_init_99 ?_
  refine gc_iconst (v := 0) hC (by decide) dX6_init_101 ?_
  refine gc_callI (X := [(h0, .inr (6, [.ref q0, .ref q1, .ref q2, .ref q3, .ref q4, .ref q5, .null, .int 0, .int 0])), (q0, .inr (8, [.ref r0])), (r0, .inl (cI, 150, .inl (fun _ => (-1)))), (q1, .inr (8, [.ref r1])), (r1, .inl (cI, 150, .inl (fun _ => 0))), (q2, .inr (8, [.ref r2])), (r2, .inl (cI, 150, .inl (fun _ => (-1)))), (q3, .inr (8, [.ref r3])), (r3, .inl (cI, 150, .inl (fun _ => 0))), (q4, .inr (8, [.ref r4])), (r4, .inl (cI, 150, .inl (fun _ => 0))), (q5, .inr (8, [.ref r5])), (r5, .inl (cI, 150, .inl (fun _ => (-1))))]) hC (k_row q6 108 (by decide) 0) mI_X8_init wm_X6_11 rfl rfl rfl (Nat.le_of_ble_eq_true rfl) ⟨by decide, by decide⟩ ⟨by decide, by decide⟩ dX6_init_102 (fun r6 => ?_)
  refine gc_cast (ws2 := [(h0, .inr (6, [.ref q0, .ref q1, .ref q2, .ref q3, .ref q4, .ref q5, .null, .int 0, .int 0])), (q0, .inr (8, [.ref r0])), (r0, .inl (cI, 150, .inl (fun _ => (-1)))), (q1, .inr (8, [.ref r1])), (r1, .inl (cI, 150, .inl (fun _ => 0))), (q2, .inr (8, [.ref r2])), (r2, .inl (cI, 150, .inl (fun _ => (-1)))), (q3, .inr (8, [.ref r3])), (r3, .inl (cI, 150, .inl (fun _ => 0))), (q4, .inr (8, [.ref r4])), (r4, .inl (cI, 150, .inl (fun _ => 0))), (q5, .inr (8, [.ref r5])), (r5, .inl (cI, 150, .inl (fun _ => (-1)))), (q6, .inr (8, [.ref r6])), (r6, .inl (cI, 108, .inl (fun _ => 0)))]) (kc2 := 14) (ks2 := 1015) ?_ rfl rfl rfl rfl rfl rfl
  refine gc_putR hC hnm0 tyX6 rfl inX6 tyX6_ok nmX6 (k := 6) (by decide) wf_X6_37 rfl rfl (by decide +kernel : _ = some (FieldType.object "Fishclock$Row")) rfl rfl (Nat.le_of_ble_eq_true rfl) dX6_init_105 ?_
  refine gc_cast (ws2 := [(h0, .inr (6, [.ref q0, .ref q1, .ref q2, .ref q3, .ref q4, .ref q5, .ref q6, .int 0, .int 0])), (q0, .inr (8, [.ref r0])), (r0, .inl (cI, 150, .inl (fun _ => (-1)))), (q1, .inr (8, [.ref r1])), (r1, .inl (cI, 150, .inl (fun _ => 0))), (q2, .inr (8, [.ref r2])), (r2, .inl (cI, 150, .inl (fun _ => (-1)))), (q3, .inr (8, [.ref r3])), (r3, .inl (cI, 150, .inl (fun _ => 0))), (q4, .inr (8, [.ref r4])), (r4, .inl (cI, 150, .inl (fun _ => 0))), (q5, .inr (8, [.ref r5])), (r5, .inl (cI, 150, .inl (fun _ => (-1)))), (q6, .inr (8, [.ref r6])), (r6, .inl (cI, 108, .inl (fun _ => 0)))]) ?_ rfl rfl rfl rfl rfl rfl
  refine gc_aload_n hC 0 rfl rfl dX6_init_108 ?_
  refine gc_iconst (v := 0) hC (by decide) dX6_init_109 ?_
  refine gc_putI hC tyX6 rfl inX6 tyX6_ok nmX6 (k := 7) (by decide) wf_X6_40 rfl (by decide +kernel : _ = some FieldType.int) rfl rfl (Nat.le_of_ble_eq_true rfl) dX6_init_110 ?_
  refine gc_cast (ws2 := [(h0, .inr (6, [.ref q0, .ref q1, .ref q2, .ref q3, .ref q4, .ref q5, .ref q6, .int 0, .int 0])), (q0, .inr (8, [.ref r0])), (r0, .inl (cI, 150, .inl (fun _ => (-1)))), (q1, .inr (8, [.ref r1])), (r1, .inl (cI, 150, .inl (fun _ => 0))), (q2, .inr (8, [.ref r2])), (r2, .inl (cI, 150, .inl (fun _ => (-1)))), (q3, .inr (8, [.ref r3])), (r3, .inl (cI, 150, .inl (fun _ => 0))), (q4, .inr (8, [.ref r4])), (r4, .inl (cI, 150, .inl (fun _ => 0))), (q5, .inr (8, [.ref r5])), (r5, .inl (cI, 150, .inl (fun _ => (-1)))), (q6, .inr (8, [.ref r6])), (r6, .inl (cI, 108, .inl (fun _ => 0)))]) ?_ rfl rfl rfl rfl rfl rfl
  refine gc_aload_n hC 0 rfl rfl dX6_init_113 ?_
  refine gc_iconst (v := 0) hC (by decide) dX6_init_114 ?_
  refine gc_putI hC tyX6 rfl inX6 tyX6_ok nmX6 (k := 8) (by decide) wf_X6_44 rfl (by decide +kernel : _ = some FieldType.int) rfl rfl (Nat.le_of_ble_eq_true rfl) dX6_init_115 ?_
  refine gc_cast (ws2 := [(h0, .inr (6, [.ref q0, .ref q1, .ref q2, .ref q3, .ref q4, .ref q5, .ref q6, .int 0, .int 0])), (q0, .inr (8, [.ref r0])), (r0, .inl (cI, 150, .inl (fun _ => (-1)))), (q1, .inr (8, [.ref r1])), (r1, .inl (cI, 150, .inl (fun _ => 0))), (q2, .inr (8, [.ref r2])), (r2, .inl (cI, 150, .inl (fun _ => (-1)))), (q3, .inr (8, [.ref r3])), (r3, .inl (cI, 150, .inl (fun _ => 0))), (q4, .inr (8, [.ref r4])), (r4, .inl (cI, 150, .inl (fun _ => 0))), (q5, .inr (8, [.ref r5])), (r5, .inl (cI, 150, .inl (fun _ => (-1)))), (q6, .inr (8, [.ref r6])), (r6, .inl (cI, 108, .inl (fun _ => 0)))]) ?_ rfl rfl rfl rfl rfl rfl
  exact gc_vret hC hr (fun k => [h0, q0, r0, q1, r1, q2, r2, q3, r3, q4, r4, q5, r5, q6, r6].getD k 0) rfl dX6_init_118
def mtS_X3 : List gq_T := [.inl (3, [some 1, some 3, some 5, some 7, some 9, some 11, some 13, some 15]), .inl (8, [some 2]), .inr (false, 3), .inl (8, [some 4]), .inr (false, 3), .inl (8, [some 6]), .inr (false, 3), .inl (8, [some 8]), .inr (false, 3), .inl (8, [some 10]), .inr (false, 3), .inl (8, [some 12]), .inr (false, 3), .inl (8, [some 14]), .inr (false, 3), .inl (8, [some 16]), .inr (false, 3)]
def MS_X3 : gq_M := fun k => [(fun _ => 0), (fun _ => 0), (fun _ => 0), (fun _ => 0), (fun _ => (-1)), (fun _ => 0), (fun _ => 0), (fun _ => 0), (fun _ => (-1)), (fun _ => 0), (fun _ => 0), (fun _ => 0), (fun _ => 0), (fun _ => 0), (fun _ => 10), (fun _ => 0), (fun _ => 1)].getD k (fun _ => 0)
set_option maxHeartbeats 1000000 in
set_option maxRecDepth 20000 in
theorem k_X3 {l : Launch} {D : va_G} {cI cZ : ClassId} (h0 : Nat) : gc_Ct l D cI cZ yX3_init cX3_init 1 2 16 32 [.ref h0] [(h0, .inr (3, [.null, .null, .null, .null, .null, .null, .null, .null]))] (fun u => gq_ws cI cZ (gc_ad h0 u) MS_X3 0 mtS_X3) := by
  refine gc_intro (own := RX3) (by decide) rfl (Nat.le_of_ble_eq_true rfl) ?_
  intro p e s m below meth c hC hr hnm0
  refine gc_cast (L2 := [(0, .ref h0)]) ?_ rfl rfl rfl rfl rfl rfl
  refine gc_aload_n hC 0 rfl rfl dX3_init_0 ?_
  refine gc_objInit hC wo_X3 wo_i wo_c ⟨by decide, Nat.le_of_ble_eq_true rfl⟩ dX3_init_1 ?_
  refine gc_aload_n hC 0 rfl rfl dX3_init_4 ?_
  refine gc_new (ci := 8) hC tyX8 (fs := [.null]) rfl inX8 tyX8_ok wl_X3_9 wj_X8 wn_X8 (fun j hj => by rw [show j = 0 by omega]; rfl) (by decide) (by decide) dX3_init_5 (fun q0 => ?_)
  refine gc_dup hC rfl dX3_init_8 ?_
  refine gc_iconst (v := 3) hC (by decide) dX3_init_9 ?_
  refine gc_iconst (v := 0) hC (by decide) dX3_init_10 ?_
  refine gc_callI (X := [(h0, .inr (3, [.null, .null, .null, .null, .null, .null, .null, .null]))]) hC (k_row q0 3 (by decide) 0) mI_X8_init wm_X3_11 rfl rfl rfl (Nat.le_of_ble_eq_true rfl) ⟨by decide, by decide⟩ ⟨by decide, by decide⟩ dX3_init_11 (fun r0 => ?_)
  refine gc_cast (ws2 := [(h0, .inr (3, [.null, .null, .null, .null, .null, .null, .null, .null])), (q0, .inr (8, [.ref r0])), (r0, .inl (cI, 3, .inl (fun _ => 0)))]) (kc2 := 2) (ks2 := 4) ?_ rfl rfl rfl rfl rfl rfl
  refine gc_putR hC hnm0 tyX3 rfl inX3 tyX3_ok nmX3 (k := 0) (by decide) wf_X3_14 rfl rfl (by decide +kernel : _ = some (FieldType.object "Fishclock$Row")) rfl rfl (Nat.le_of_ble_eq_true rfl) dX3_init_14 ?_
  refine gc_cast (ws2 := [(h0, .inr (3, [.ref q0, .null, .null, .null, .null, .null, .null, .null])), (q0, .inr (8, [.ref r0])), (r0, .inl (cI, 3, .inl (fun _ => 0)))]) ?_ rfl rfl rfl rfl rfl rfl
  refine gc_aload_n hC 0 rfl rfl dX3_init_17 ?_
  refine gc_new (ci := 8) hC tyX8 (fs := [.null]) rfl inX8 tyX8_ok wl_X3_9 wj_X8 wn_X8 (fun j hj => by rw [show j = 0 by omega]; rfl) (by decide) (by decide) dX3_init_18 (fun q1 => ?_)
  refine gc_dup hC rfl dX3_init_21 ?_
  refine gc_iconst (v := 3) hC (by decide) dX3_init_22 ?_
  refine gc_iconst (v := (-1)) hC (by decide) dX3_init_23 ?_
  refine gc_callI (X := [(h0, .inr (3, [.ref q0, .null, .null, .null, .null, .null, .null, .null])), (q0, .inr (8, [.ref r0])), (r0, .inl (cI, 3, .inl (fun _ => 0)))]) hC (k_row q1 3 (by decide) (-1)) mI_X8_init wm_X3_11 rfl rfl rfl (Nat.le_of_ble_eq_true rfl) ⟨by decide, by decide⟩ ⟨by decide, by decide⟩ dX3_init_24 (fun r1 => ?_)
  refine gc_cast (ws2 := [(h0, .inr (3, [.ref q0, .null, .null, .null, .null, .null, .null, .null])), (q0, .inr (8, [.ref r0])), (r0, .inl (cI, 3, .inl (fun _ => 0))), (q1, .inr (8, [.ref r1])), (r1, .inl (cI, 3, .inl (fun _ => (-1))))]) (kc2 := 4) (ks2 := 8) ?_ rfl rfl rfl rfl rfl rfl
  refine gc_putR hC hnm0 tyX3 rfl inX3 tyX3_ok nmX3 (k := 1) (by decide) wf_X3_20 rfl rfl (by decide +kernel : _ = some (FieldType.object "Fishclock$Row")) rfl rfl (Nat.le_of_ble_eq_true rfl) dX3_init_27 ?_
  refine gc_cast (ws2 := [(h0, .inr (3, [.ref q0, .ref q1, .null, .null, .null, .null, .null, .null])), (q0, .inr (8, [.ref r0])), (r0, .inl (cI, 3, .inl (fun _ => 0))), (q1, .inr (8, [.ref r1])), (r1, .inl (cI, 3, .inl (fun _ => (-1))))]) ?_ rfl rfl rfl rfl rfl rfl
  refine gc_aload_n hC 0 rfl rfl dX3_init_30 ?_
  refine gc_new (ci := 8) hC tyX8 (fs := [.null]) rfl inX8 tyX8_ok wl_X3_9 wj_X8 wn_X8 (fun j hj => by rw [show j = 0 by omega]; rfl) (by decide) (by decide) dX3_init_31 (fun q2 => ?_)
  refine gc_dup hC rfl dX3_init_34 ?_
  refine gc_iconst (v := 3) hC (by decide) dX3_init_35 ?_
  refine gc_iconst (v := 0) hC (by decide) dX3_init_36 ?_
  refine gc_callI (X := [(h0, .inr (3, [.ref q0, .ref q1, .null, .null, .null, .null, .null, .null])), (q0, .inr (8, [.ref r0])), (r0, .inl (cI, 3, .inl (fun _ => 0))), (q1, .inr (8, [.ref r1])), (r1, .inl (cI, 3, .inl (fun _ => (-1))))]) hC (k_row q2 3 (by decide) 0) mI_X8_init wm_X3_11 rfl rfl rfl (Nat.le_of_ble_eq_true rfl) ⟨by decide, by decide⟩ ⟨by decide, by decide⟩ dX3_init_37 (fun r2 => ?_)
  refine gc_cast (ws2 := [(h0, .inr (3, [.ref q0, .ref q1, .null, .null, .null, .null, .null, .null])), (q0, .inr (8, [.ref r0])), (r0, .inl (cI, 3, .inl (fun _ => 0))), (q1, .inr (8, [.ref r1])), (r1, .inl (cI, 3, .inl (fun _ => (-1)))), (q2, .inr (8, [.ref r2])), (r2, .inl (cI, 3, .inl (fun _ => 0)))]) (kc2 := 6) (ks2 := 12) ?_ rfl rfl rfl rfl rfl rfl
  refine gc_putR hC hnm0 tyX3 rfl inX3 tyX3_ok nmX3 (k := 2) (by decide) wf_X3_23 rfl rfl (by decide +kernel : _ = some (FieldType.object "Fishclock$Row")) rfl rfl (Nat.le_of_ble_eq_true rfl) dX3_init_40 ?_
  refine gc_cast (ws2 := [(h0, .inr (3, [.ref q0, .ref q1, .ref q2, .null, .null, .null, .null, .null])), (q0, .inr (8, [.ref r0])), (r0, .inl (cI, 3, .inl (fun _ => 0))), (q1, .inr (8, [.ref r1])), (r1, .inl (cI, 3, .inl (fun _ => (-1)))), (q2, .inr (8, [.ref r2])), (r2, .inl (cI, 3, .inl (fun _ => 0)))]) ?_ rfl rfl rfl rfl rfl rfl
  refine gc_aload_n hC 0 rfl rfl dX3_init_43 ?_
  refine gc_new (ci := 8) hC tyX8 (fs := [.null]) rfl inX8 tyX8_ok wl_X3_9 wj_X8 wn_X8 (fun j hj => by rw [show j = 0 by omega]; rfl) (by decide) (by decide) dX3_init_44 (fun q3 => ?_)
  refine gc_dup hC rfl dX3_init_47 ?_
  refine gc_iconst (v := 3) hC (by decide) dX3_init_48 ?_
  refine gc_iconst (v := (-1)) hC (by decide) dX3_init_49 ?_
  refine gc_callI (X := [(h0, .inr (3, [.ref q0, .ref q1, .ref q2, .null, .null, .null, .null, .null])), (q0, .inr (8, [.ref r0])), (r0, .inl (cI, 3, .inl (fun _ => 0))), (q1, .inr (8, [.ref r1])), (r1, .inl (cI, 3, .inl (fun _ => (-1)))), (q2, .inr (8, [.ref r2])), (r2, .inl (cI, 3, .inl (fun _ => 0)))]) hC (k_row q3 3 (by decide) (-1)) mI_X8_init wm_X3_11 rfl rfl rfl (Nat.le_of_ble_eq_true rfl) ⟨by decide, by decide⟩ ⟨by decide, by decide⟩ dX3_init_50 (fun r3 => ?_)
  refine gc_cast (ws2 := [(h0, .inr (3, [.ref q0, .ref q1, .ref q2, .null, .null, .null, .null, .null])), (q0, .inr (8, [.ref r0])), (r0, .inl (cI, 3, .inl (fun _ => 0))), (q1, .inr (8, [.ref r1])), (r1, .inl (cI, 3, .inl (fun _ => (-1)))), (q2, .inr (8, [.ref r2])), (r2, .inl (cI, 3, .inl (fun _ => 0))), (q3, .inr (8, [.ref r3])), (r3, .inl (cI, 3, .inl (fun _ => (-1))))]) (kc2 := 8) (ks2 := 16) ?_ rfl rfl rfl rfl rfl rfl
  refine gc_putR hC hnm0 tyX3 rfl inX3 tyX3_ok nmX3 (k := 3) (by decide) wf_X3_26 rfl rfl (by decide +kernel : _ = some (FieldType.object "Fishclock$Row")) rfl rfl (Nat.le_of_ble_eq_true rfl) dX3_init_53 ?_
  refine gc_cast (ws2 := [(h0, .inr (3, [.ref q0, .ref q1, .ref q2, .ref q3, .null, .null, .null, .null])), (q0, .inr (8, [.ref r0])), (r0, .inl (cI, 3, .inl (fun _ => 0))), (q1, .inr (8, [.ref r1])), (r1, .inl (cI, 3, .inl (fun _ => (-1)))), (q2, .inr (8, [.ref r2])), (r2, .inl (cI, 3, .inl (fun _ => 0))), (q3, .inr (8, [.ref r3])), (r3, .inl (cI, 3, .inl (fun _ => (-1))))]) ?_ rfl rfl rfl rfl rfl rfl
  refine gc_aload_n hC 0 rfl rfl dX3_init_56 ?_
  refine gc_new (ci := 8) hC tyX8 (fs := [.null]) rfl inX8 tyX8_ok wl_X3_9 wj_X8 wn_X8 (fun j hj => by rw [show j = 0 by omega]; rfl) (by decide) (by decide) dX3_init_57 (fun q4 => ?_)
  refine gc_dup hC rfl dX3_init_60 ?_
  refine gc_iconst (v := 3) hC (by decide) dX3_init_61 ?_
  refine gc_iconst (v := 0) hC (by decide) dX3_init_62 ?_
  refine gc_callI (X := [(h0, .inr (3, [.ref q0, .ref q1, .ref q2, .ref q3, .null, .null, .null, .null])), (q0, .inr (8, [.ref r0])), (r0, .inl (cI, 3, .inl (fun _ => 0))), (q1, .inr (8, [.ref r1])), (r1, .inl (cI, 3, .inl (fun _ => (-1)))), (q2, .inr (8, [.ref r2])), (r2, .inl (cI, 3, .inl (fun _ => 0))), (q3, .inr (8, [.ref r3])), (r3, .inl (cI, 3, .inl (fun _ => (-1))))]) hC (k_row q4 3 (by decide) 0) mI_X8_init wm_X3_11 rfl rfl rfl (Nat.le_of_ble_eq_true rfl) ⟨by decide, by decide⟩ ⟨by decide, by decide⟩ dX3_init_63 (fun r4 => ?_)
  refine gc_cast (ws2 := [(h0, .inr (3, [.ref q0, .ref q1, .ref q2, .ref q3, .null, .null, .null, .null])), (q0, .inr (8, [.ref r0])), (r0, .inl (cI, 3, .inl (fun _ => 0))), (q1, .inr (8, [.ref r1])), (r1, .inl (cI, 3, .inl (fun _ => (-1)))), (q2, .inr (8, [.ref r2])), (r2, .inl (cI, 3, .inl (fun _ => 0))), (q3, .inr (8, [.ref r3])), (r3, .inl (cI, 3, .inl (fun _ => (-1)))), (q4, .inr (8, [.ref r4])), (r4, .inl (cI, 3, .inl (fun _ => 0)))]) (kc2 := 10) (ks2 := 20) ?_ rfl rfl rfl rfl rfl rfl
  refine gc_putR hC hnm0 tyX3 rfl inX3 tyX3_ok nmX3 (k := 4) (by decide) wf_X3_29 rfl rfl (by decide +kernel : _ = some (FieldType.object "Fishclock$Row")) rfl rfl (Nat.le_of_ble_eq_true rfl) dX3_init_66 ?_
  refine gc_cast (ws2 := [(h0, .inr (3, [.ref q0, .ref q1, .ref q2, .ref q3, .ref q4, .null, .null, .null])), (q0, .inr (8, [.ref r0])), (r0, .inl (cI, 3, .inl (fun _ => 0))), (q1, .inr (8, [.ref r1])), (r1, .inl (cI, 3, .inl (fun _ => (-1)))), (q2, .inr (8, [.ref r2])), (r2, .inl (cI, 3, .inl (fun _ => 0))), (q3, .inr (8, [.ref r3])), (r3, .inl (cI, 3, .inl (fun _ => (-1)))), (q4, .inr (8, [.ref r4])), (r4, .inl (cI, 3, .inl (fun _ => 0)))]) ?_ rfl rfl rfl rfl rfl rfl
  refine gc_aload_n hC 0 rfl rfl dX3_init_69 ?_
  refine gc_new (ci := 8) hC tyX8 (fs := [.null]) rfl inX8 tyX8_ok wl_X3_9 wj_X8 wn_X8 (fun j hj => by rw [show j = 0 by omega]; rfl) (by decide) (by decide) dX3_init_70 (fun q5 => ?_)
  refine gc_dup hC rfl dX3_init_73 ?_
  refine gc_iconst (v := 3) hC (by decide) dX3_init_74 ?_
  refine gc_iconst (v := 0) hC (by decide) dX3_init_75 ?_
  refine gc_callI (X := [(h0, .inr (3, [.ref q0, .ref q1, .ref q2, .ref q3, .ref q4, .null, .null, .null])), (q0, .inr (8, [.ref r0])), (r0, .inl (cI, 3, .inl (fun _ => 0))), (q1, .inr (8, [.ref r1])), (r1, .inl (cI, 3, .inl (fun _ => (-1)))), (q2, .inr (8, [.ref r2])), (r2, .inl (cI, 3, .inl (fun _ => 0))), (q3, .inr (8, [.ref r3])), (r3, .inl (cI, 3, .inl (fun _ => (-1)))), (q4, .inr (8, [.ref r4])), (r4, .inl (cI, 3, .inl (fun _ => 0)))]) hC (k_row q5 3 (by decide) 0) mI_X8_init wm_X3_11 rfl rfl rfl (Nat.le_of_ble_eq_true rfl) ⟨by decide, by decide⟩ ⟨by decide, by decide⟩ dX3_init_76 (fun r5 => ?_)
  refine gc_cast (ws2 := [(h0, .inr (3, [.ref q0, .ref q1, .ref q2, .ref q3, .ref q4, .null, .null, .null])), (q0, .inr (8, [.ref r0])), (r0, .inl (cI, 3, .inl (fun _ => 0))), (q1, .inr (8, [.ref r1])), (r1, .inl (cI, 3, .inl (fun _ => (-1)))), (q2, .inr (8, [.ref r2])), (r2, .inl (cI, 3, .inl (fun _ => 0))), (q3, .inr (8, [.ref r3])), (r3, .inl (cI, 3, .inl (fun _ => (-1)))), (q4, .inr (8, [.ref r4])), (r4, .inl (cI, 3, .inl (fun _ => 0))), (q5, .inr (8, [.ref r5])), (r5, .inl (cI, 3, .inl (fun _ => 0)))]) (kc2 := 12) (ks2 := 24) ?_ rfl rfl rfl rfl rfl rfl
  refine gc_putR hC hnm0 tyX3 rfl inX3 tyX3_ok nmX3 (k := 5) (by decide) wf_X3_32 rfl rfl (by decide +kernel : _ = some (FieldType.object "Fishclock$Row")) rfl rfl (Nat.le_of_ble_eq_true rfl) dX3_init_79 ?_
  refine gc_cast (ws2 := [(h0, .inr (3, [.ref q0, .ref q1, .ref q2, .ref q3, .ref q4, .ref q5, .null, .null])), (q0, .inr (8, [.ref r0])), (r0, .inl (cI, 3, .inl (fun _ => 0))), (q1, .inr (8, [.ref r1])), (r1, .inl (cI, 3, .inl (fun _ => (-1)))), (q2, .inr (8, [.ref r2])), (r2, .inl (cI, 3, .inl (fun _ => 0))), (q3, .inr (8, [.ref r3])), (r3, .inl (cI, 3, .inl (fun _ => (-1)))), (q4, .inr (8, [.ref r4])), (r4, .inl (cI, 3, .inl (fun _ => 0))), (q5, .inr (8, [.ref r5])), (r5, .inl (cI, 3, .inl (fun _ => 0)))]) ?_ rfl rfl rfl rfl rfl rfl
  refine gc_aload_n hC 0 rfl rfl dX3_init_82 ?_
  refine gc_new (ci := 8) hC tyX8 (fs := [.null]) rfl inX8 tyX8_ok wl_X3_9 wj_X8 wn_X8 (fun j hj => by rw [show j = 0 by omega]; rfl) (by decide) (by decide) dX3_init_83 (fun q6 => ?_)
  refine gc_dup hC rfl dX3_init_86 ?_
  refine gc_iconst (v := 3) hC (by decide) dX3_init_87 ?_
  refine gc_bipush (v := 10) hC (by decide) dX3_init_88 ?_
  refine gc_callI (X := [(h0, .inr (3, [.ref q0, .ref q1, .ref q2, .ref q3, .ref q4, .ref q5, .null, .null])), (q0, .inr (8, [.ref r0])), (r0, .inl (cI, 3, .inl (fun _ => 0))), (q1, .inr (8, [.ref r1])), (r1, .inl (cI, 3, .inl (fun _ => (-1)))), (q2, .inr (8, [.ref r2])), (r2, .inl (cI, 3, .inl (fun _ => 0))), (q3, .inr (8, [.ref r3])), (r3, .inl (cI, 3, .inl (fun _ => (-1)))), (q4, .inr (8, [.ref r4])), (r4, .inl (cI, 3, .inl (fun _ => 0))), (q5, .inr (8, [.ref r5])), (r5, .inl (cI, 3, .inl (fun _ => 0)))]) hC (k_row q6 3 (by decide) 10) mI_X8_init wm_X3_11 rfl rfl rfl (Nat.le_of_ble_eq_true rfl) ⟨by decide, by decide⟩ ⟨by decide, by decide⟩ dX3_init_90 (fun r6 => ?_)
  refine gc_cast (ws2 := [(h0, .inr (3, [.ref q0, .ref q1, .ref q2, .ref q3, .ref q4, .ref q5, .null, .null])), (q0, .inr (8, [.ref r0])), (r0, .inl (cI, 3, .inl (fun _ => 0))), (q1, .inr (8, [.ref r1])), (r1, .inl (cI, 3, .inl (fun _ => (-1)))), (q2, .inr (8, [.ref r2])), (r2, .inl (cI, 3, .inl (fun _ => 0))), (q3, .inr (8, [.ref r3])), (r3, .inl (cI, 3, .inl (fun _ => (-1)))), (q4, .inr (8, [.ref r4])), (r4, .inl (cI, 3, .inl (fun _ => 0))), (q5, .inr (8, [.ref r5])), (r5, .inl (cI, 3, .inl (fun _ => 0))), (q6, .inr (8, [.ref r6])), (r6, .inl (cI, 3, .inl (fun _ => 10)))]) (kc2 := 14) (ks2 := 28) ?_ rfl rfl rfl rfl rfl rfl
  refine gc_putR hC hnm0 tyX3 rfl inX3 tyX3_ok nmX3 (k := 6) (by decide) wf_X3_35 rfl rfl (by decide +kernel : _ = some (FieldType.object "Fishclock$Row")) rfl rfl (Nat.le_of_ble_eq_true rfl) dX3_init_93 ?_
  refine gc_cast (ws2 := [(h0, .inr (3, [.ref q0, .ref q1, .ref q2, .ref q3, .ref q4, .ref q5, .ref q6, .null])), (q0, .inr (8, [.ref r0])), (r0, .inl (cI, 3, .inl (fun _ => 0))), (q1, .inr (8, [.ref r1])), (r1, .inl (cI, 3, .inl (fun _ => (-1)))), (q2, .inr (8, [.ref r2])), (r2, .inl (cI, 3, .inl (fun _ => 0))), (q3, .inr (8, [.ref r3])), (r3, .inl (cI, 3, .inl (fun _ => (-1)))), (q4, .inr (8, [.ref r4])), (r4, .inl (cI, 3, .inl (fun _ => 0))), (q5, .inr (8, [.ref r5])), (r5, .inl (cI, 3, .inl (fun _ => 0))), (q6, .inr (8, [.ref r6])), (r6, .inl (cI, 3, .inl (fun _ => 10)))]) ?_ rfl rfl rfl rfl rfl rfl
  refine gc_aload_n hC 0 rfl rfl dX3_init_96 ?_
  refine gc_new (ci := 8) hC tyX8 (fs := [.null]) rfl inX8 tyX8_ok wl_X3_9 wj_X8 wn_X8 (fun j hj => by rw [show j = 0 by omega]; rfl) (by decide) (by decide) dX3_init_97 (fun q7 => ?_)
  refine gc_dup hC rfl dX3_init_100 ?_
  refine gc_iconst (v := 3) hC (by decide) dX3_init_101 ?_
  refine gc_iconst (v := 1) hC (by decide) dX3_init_102 ?_
  refine gc_callI (X := [(h0, .inr (3, [.ref q0, .ref q1, .ref q2, .ref q3, .ref q4, .ref q5, .ref q6, .null])), (q0, .inr (8, [.ref r0])), (r0, .inl (cI, 3, .inl (fun _ => 0))), (q1, .inr (8, [.ref r1])), (r1, .inl (cI, 3, .inl (fun _ => (-1)))), (q2, .inr (8, [.ref r2])), (r2, .inl (cI, 3, .inl (fun _ => 0))), (q3, .inr (8, [.ref r3])), (r3, .inl (cI, 3, .inl (fun _ => (-1)))), (q4, .inr (8, [.ref r4])), (r4, .inl (cI, 3, .inl (fun _ => 0))), (q5, .inr (8, [.ref r5])), (r5, .inl (cI, 3, .inl (fun _ => 0))), (q6, .inr (8, [.ref r6])), (r6, .inl (cI, 3, .inl (fun _ => 10)))]) hC (k_row q7 3 (by decide) 1) mI_X8_init wm_X3_11 rfl rfl rfl (Nat.le_of_ble_eq_true rfl) ⟨by decide, by decide⟩ ⟨by decide, by decide⟩ dX3_init_103 (fun r7 => ?_)
  refine gc_cast (ws2 := [(h0, .inr (3, [.ref q0, .ref q1, .ref q2, .ref q3, .ref q4, .ref q5, .ref q6, .null])), (q0, .inr (8, [.ref r0])), (r0, .inl (cI, 3, .inl (fun _ => 0))), (q1, .inr (8, [.ref r1])), (r1, .inl (cI, 3, .inl (fun _ => (-1)))), (q2, .inr (8, [.ref r2])), (r2, .inl (cI, 3, .inl (fun _ => 0))), (q3, .inr (8, [.ref r3])), (r3, .inl (cI, 3, .inl (fun _ => (-1)))), (q4, .inr (8, [.ref r4])), (r4, .inl (cI, 3, .inl (fun _ => 0))), (q5, .inr (8, [.ref r5])), (r5, .inl (cI, 3, .inl (fun _ => 0))), (q6, .inr (8, [.ref r6])), (r6, .inl (cI, 3, .inl (fun _ => 10))), (q7, .inr (8, [.ref r7])), (r7, .inl (cI, 3, .inl (fun _ => 1)))]) (kc2 := 16) (ks2 := 32) ?_ rfl rfl rfl rfl rfl rfl
  refine gc_putR hC hnm0 tyX3 rfl inX3 tyX3_ok nmX3 (k := 7) (by decide) wf_X3_38 rfl rfl (by decide +kernel : _ = some (FieldType.object "Fishclock$Row")) rfl rfl (Nat.le_of_ble_eq_true rfl) dX3_init_106 ?_
  refine gc_cast (ws2 := [(h0, .inr (3, [.ref q0, .ref q1, .ref q2, .ref q3, .ref q4, .ref q5, .ref q6, .ref q7])), (q0, .inr (8, [.ref r0])), (r0, .inl (cI, 3, .inl (fun _ => 0))), (q1, .inr (8, [.ref r1])), (r1, .inl (cI, 3, .inl (fun _ => (-1)))), (q2, .inr (8, [.ref r2])), (r2, .inl (cI, 3, .inl (fun _ => 0))), (q3, .inr (8, [.ref r3])), (r3, .inl (cI, 3, .inl (fun _ => (-1)))), (q4, .inr (8, [.ref r4])), (r4, .inl (cI, 3, .inl (fun _ => 0))), (q5, .inr (8, [.ref r5])), (r5, .inl (cI, 3, .inl (fun _ => 0))), (q6, .inr (8, [.ref r6])), (r6, .inl (cI, 3, .inl (fun _ => 10))), (q7, .inr (8, [.ref r7])), (r7, .inl (cI, 3, .inl (fun _ => 1)))]) ?_ rfl rfl rfl rfl rfl rfl
  exact gc_vret hC hr (fun k => [h0, q0, r0, q1, r1, q2, r2, q3, r3, q4, r4, q5, r5, q6, r6, q7, r7].getD k 0) rfl dX3_init_109
def mtS_X7 : List gq_T := [.inl (7, [some 1, some 3, some 5]), .inl (8, [some 2]), .inr (false, 24), .inl (8, [some 4]), .inr (false, 24), .inl (8, [some 6]), .inr (false, 24)]
def MS_X7 : gq_M := fun k => [(fun _ => 0), (fun _ => 0), (fun _ => 0), (fun _ => 0), (fun _ => 0), (fun _ => 0), (fun _ => (-1))].getD k (fun _ => 0)
set_option maxHeartbeats 1000000 in
set_option maxRecDepth 20000 in
theorem k_X7 {l : Launch} {D : va_G} {cI cZ : ClassId} (h0 : Nat) : gc_Ct l D cI cZ yX7_init cX7_init 1 2 6 75 [.ref h0] [(h0, .inr (7, [.null, .null, .null]))] (fun u => gq_ws cI cZ (gc_ad h0 u) MS_X7 0 mtS_X7) := by
  refine gc_intro (own := RX7) (by decide) rfl (Nat.le_of_ble_eq_true rfl) ?_
  intro p e s m below meth c hC hr hnm0
  refine gc_cast (L2 := [(0, .ref h0)]) ?_ rfl rfl rfl rfl rfl rfl
  refine gc_aload_n hC 0 rfl rfl dX7_init_0 ?_
  refine gc_objInit hC wo_X7 wo_i wo_c ⟨by decide, Nat.le_of_ble_eq_true rfl⟩ dX7_init_1 ?_
  refine gc_aload_n hC 0 rfl rfl dX7_init_4 ?_
  refine gc_new (ci := 8) hC tyX8 (fs := [.null]) rfl inX8 tyX8_ok wl_X7_9 wj_X8 wn_X8 (fun j hj => by rw [show j = 0 by omega]; rfl) (by decide) (by decide) dX7_init_5 (fun q0 => ?_)
  refine gc_dup hC rfl dX7_init_8 ?_
  refine gc_bipush (v := 24) hC (by decide) dX7_init_9 ?_
  refine gc_iconst (v := 0) hC (by decide) dX7_init_11 ?_
  refine gc_callI (X := [(h0, .inr (7, [.null, .null, .null]))]) hC (k_row q0 24 (by decide) 0) mI_X8_init wm_X7_11 rfl rfl rfl (Nat.le_of_ble_eq_true rfl) ⟨by decide, by decide⟩ ⟨by decide, by decide⟩ dX7_init_12 (fun r0 => ?_)
  refine gc_cast (ws2 := [(h0, .inr (7, [.null, .null, .null])), (q0, .inr (8, [.ref r0])), (r0, .inl (cI, 24, .inl (fun _ => 0)))]) (kc2 := 2) (ks2 := 25) ?_ rfl rfl rfl rfl rfl rfl
  refine gc_putR hC hnm0 tyX7 rfl inX7 tyX7_ok nmX7 (k := 0) (by decide) wf_X7_14 rfl rfl (by decide +kernel : _ = some (FieldType.object "Fishclock$Row")) rfl rfl (Nat.le_of_ble_eq_true rfl) dX7_init_15 ?_
  refine gc_cast (ws2 := [(h0, .inr (7, [.ref q0, .null, .null])), (q0, .inr (8, [.ref r0])), (r0, .inl (cI, 24, .inl (fun _ => 0)))]) ?_ rfl rfl rfl rfl rfl rfl
  refine gc_aload_n hC 0 rfl rfl dX7_init_18 ?_
  refine gc_new (ci := 8) hC tyX8 (fs := [.null]) rfl inX8 tyX8_ok wl_X7_9 wj_X8 wn_X8 (fun j hj => by rw [show j = 0 by omega]; rfl) (by decide) (by decide) dX7_init_19 (fun q1 => ?_)
  refine gc_dup hC rfl dX7_init_22 ?_
  refine gc_bipush (v := 24) hC (by decide) dX7_init_23 ?_
  refine gc_iconst (v := 0) hC (by decide) dX7_init_25 ?_
  refine gc_callI (X := [(h0, .inr (7, [.ref q0, .null, .null])), (q0, .inr (8, [.ref r0])), (r0, .inl (cI, 24, .inl (fun _ => 0)))]) hC (k_row q1 24 (by decide) 0) mI_X8_init wm_X7_11 rfl rfl rfl (Nat.le_of_ble_eq_true rfl) ⟨by decide, by decide⟩ ⟨by decide, by decide⟩ dX7_init_26 (fun r1 => ?_)
  refine gc_cast (ws2 := [(h0, .inr (7, [.ref q0, .null, .null])), (q0, .inr (8, [.ref r0])), (r0, .inl (cI, 24, .inl (fun _ => 0))), (q1, .inr (8, [.ref r1])), (r1, .inl (cI, 24, .inl (fun _ => 0)))]) (kc2 := 4) (ks2 := 50) ?_ rfl rfl rfl rfl rfl rfl
  refine gc_putR hC hnm0 tyX7 rfl inX7 tyX7_ok nmX7 (k := 1) (by decide) wf_X7_20 rfl rfl (by decide +kernel : _ = some (FieldType.object "Fishclock$Row")) rfl rfl (Nat.le_of_ble_eq_true rfl) dX7_init_29 ?_
  refine gc_cast (ws2 := [(h0, .inr (7, [.ref q0, .ref q1, .null])), (q0, .inr (8, [.ref r0])), (r0, .inl (cI, 24, .inl (fun _ => 0))), (q1, .inr (8, [.ref r1])), (r1, .inl (cI, 24, .inl (fun _ => 0)))]) ?_ rfl rfl rfl rfl rfl rfl
  refine gc_aload_n hC 0 rfl rfl dX7_init_32 ?_
  refine gc_new (ci := 8) hC tyX8 (fs := [.null]) rfl inX8 tyX8_ok wl_X7_9 wj_X8 wn_X8 (fun j hj => by rw [show j = 0 by omega]; rfl) (by decide) (by decide) dX7_init_33 (fun q2 => ?_)
  refine gc_dup hC rfl dX7_init_36 ?_
  refine gc_bipush (v := 24) hC (by decide) dX7_init_37 ?_
  refine gc_iconst (v := (-1)) hC (by decide) dX7_init_39 ?_
  refine gc_callI (X := [(h0, .inr (7, [.ref q0, .ref q1, .null])), (q0, .inr (8, [.ref r0])), (r0, .inl (cI, 24, .inl (fun _ => 0))), (q1, .inr (8, [.ref r1])), (r1, .inl (cI, 24, .inl (fun _ => 0)))]) hC (k_row q2 24 (by decide) (-1)) mI_X8_init wm_X7_11 rfl rfl rfl (Nat.le_of_ble_eq_true rfl) ⟨by decide, by decide⟩ ⟨by decide, by decide⟩ dX7_init_40 (fun r2 => ?_)
  refine gc_cast (ws2 := [(h0, .inr (7, [.ref q0, .ref q1, .null])), (q0, .inr (8, [.ref r0])), (r0, .inl (cI, 24, .inl (fun _ => 0))), (q1, .inr (8, [.ref r1])), (r1, .inl (cI, 24, .inl (fun _ => 0))), (q2, .inr (8, [.ref r2])), (r2, .inl (cI, 24, .inl (fun _ => (-1))))]) (kc2 := 6) (ks2 := 75) ?_ rfl rfl rfl rfl rfl rfl
  refine gc_putR hC hnm0 tyX7 rfl inX7 tyX7_ok nmX7 (k := 2) (by decide) wf_X7_23 rfl rfl (by decide +kernel : _ = some (FieldType.object "Fishclock$Row")) rfl rfl (Nat.le_of_ble_eq_true rfl) dX7_init_43 ?_
  refine gc_cast (ws2 := [(h0, .inr (7, [.ref q0, .ref q1, .ref q2])), (q0, .inr (8, [.ref r0])), (r0, .inl (cI, 24, .inl (fun _ => 0))), (q1, .inr (8, [.ref r1])), (r1, .inl (cI, 24, .inl (fun _ => 0))), (q2, .inr (8, [.ref r2])), (r2, .inl (cI, 24, .inl (fun _ => (-1))))]) ?_ rfl rfl rfl rfl rfl rfl
  exact gc_vret hC hr (fun k => [h0, q0, r0, q1, r1, q2, r2].getD k 0) rfl dX7_init_46
def mtS_X5 : List gq_T := [.inl (5, [some 1, some 3, some 5, some 7, none]), .inl (8, [some 2]), .inr (false, 20), .inl (8, [some 4]), .inr (false, 20), .inl (8, [some 6]), .inr (false, 20), .inl (8, [some 8]), .inr (false, 20)]
def MS_X5 : gq_M := fun k => [(fun _ => 0), (fun _ => 0), (fun _ => (-1)), (fun _ => 0), (fun _ => (-1)), (fun _ => 0), (fun _ => 0), (fun _ => 0), (fun _ => (-1))].getD k (fun _ => 0)
set_option maxHeartbeats 1000000 in
set_option maxRecDepth 20000 in
theorem k_X5 {l : Launch} {D : va_G} {cI cZ : ClassId} (h0 : Nat) : gc_Ct l D cI cZ yX5_init cX5_init 1 2 8 84 [.ref h0] [(h0, .inr (5, [.null, .null, .null, .null, .int 0]))] (fun u => gq_ws cI cZ (gc_ad h0 u) MS_X5 0 mtS_X5) := by
  refine gc_intro (own := RX5) (by decide) rfl (Nat.le_of_ble_eq_true rfl) ?_
  intro p e s m below meth c hC hr hnm0
  refine gc_cast (L2 := [(0, .ref h0)]) ?_ rfl rfl rfl rfl rfl rfl
  refine gc_aload_n hC 0 rfl rfl dX5_init_0 ?_
  refine gc_objInit hC wo_X5 wo_i wo_c ⟨by decide, Nat.le_of_ble_eq_true rfl⟩ dX5_init_1 ?_
  refine gc_aload_n hC 0 rfl rfl dX5_init_4 ?_
  refine gc_new (ci := 8) hC tyX8 (fs := [.null]) rfl inX8 tyX8_ok wl_X5_9 wj_X8 wn_X8 (fun j hj => by rw [show j = 0 by omega]; rfl) (by decide) (by decide) dX5_init_5 (fun q0 => ?_)
  refine gc_dup hC rfl dX5_init_8 ?_
  refine gc_bipush (v := 20) hC (by decide) dX5_init_9 ?_
  refine gc_iconst (v := (-1)) hC (by decide) dX5_init_11 ?_
  refine gc_callI (X := [(h0, .inr (5, [.null, .null, .null, .null, .int 0]))]) hC (k_row q0 20 (by decide) (-1)) mI_X8_init wm_X5_11 rfl rfl rfl (Nat.le_of_ble_eq_true rfl) ⟨by decide, by decide⟩ ⟨by decide, by decide⟩ dX5_init_12 (fun r0 => ?_)
  refine gc_cast (ws2 := [(h0, .inr (5, [.null, .null, .null, .null, .int 0])), (q0, .inr (8, [.ref r0])), (r0, .inl (cI, 20, .inl (fun _ => (-1))))]) (kc2 := 2) (ks2 := 21) ?_ rfl rfl rfl rfl rfl rfl
  refine gc_putR hC hnm0 tyX5 rfl inX5 tyX5_ok nmX5 (k := 0) (by decide) wf_X5_14 rfl rfl (by decide +kernel : _ = some (FieldType.object "Fishclock$Row")) rfl rfl (Nat.le_of_ble_eq_true rfl) dX5_init_15 ?_
  refine gc_cast (ws2 := [(h0, .inr (5, [.ref q0, .null, .null, .null, .int 0])), (q0, .inr (8, [.ref r0])), (r0, .inl (cI, 20, .inl (fun _ => (-1))))]) ?_ rfl rfl rfl rfl rfl rfl
  refine gc_aload_n hC 0 rfl rfl dX5_init_18 ?_
  refine gc_new (ci := 8) hC tyX8 (fs := [.null]) rfl inX8 tyX8_ok wl_X5_9 wj_X8 wn_X8 (fun j hj => by rw [show j = 0 by omega]; rfl) (by decide) (by decide) dX5_init_19 (fun q1 => ?_)
  refine gc_dup hC rfl dX5_init_22 ?_
  refine gc_bipush (v := 20) hC (by decide) dX5_init_23 ?_
  refine gc_iconst (v := (-1)) hC (by decide) dX5_init_25 ?_
  refine gc_callI (X := [(h0, .inr (5, [.ref q0, .null, .null, .null, .int 0])), (q0, .inr (8, [.ref r0])), (r0, .inl (cI, 20, .inl (fun _ => (-1))))]) hC (k_row q1 20 (by decide) (-1)) mI_X8_init wm_X5_11 rfl rfl rfl (Nat.le_of_ble_eq_true rfl) ⟨by decide, by decide⟩ ⟨by decide, by decide⟩ dX5_init_26 (fun r1 => ?_)
  refine gc_cast (ws2 := [(h0, .inr (5, [.ref q0, .null, .null, .null, .int 0])), (q0, .inr (8, [.ref r0])), (r0, .inl (cI, 20, .inl (fun _ => (-1)))), (q1, .inr (8, [.ref r1])), (r1, .inl (cI, 20, .inl (fun _ => (-1))))]) (kc2 := 4) (ks2 := 42) ?_ rfl rfl rfl rfl rfl rfl
  refine gc_putR hC hnm0 tyX5 rfl inX5 tyX5_ok nmX5 (k := 1) (by decide) wf_X5_20 rfl rfl (by decide +kernel : _ = some (FieldType.object "Fishclock$Row")) rfl rfl (Nat.le_of_ble_eq_true rfl) dX5_init_29 ?_
  refine gc_cast (ws2 := [(h0, .inr (5, [.ref q0, .ref q1, .null, .null, .int 0])), (q0, .inr (8, [.ref r0])), (r0, .inl (cI, 20, .inl (fun _ => (-1)))), (q1, .inr (8, [.ref r1])), (r1, .inl (cI, 20, .inl (fun _ => (-1))))]) ?_ rfl rfl rfl rfl rfl rfl
  refine gc_aload_n hC 0 rfl rfl dX5_init_32 ?_
  refine gc_new (ci := 8) hC tyX8 (fs := [.null]) rfl inX8 tyX8_ok wl_X5_9 wj_X8 wn_X8 (fun j hj => by rw [show j = 0 by omega]; rfl) (by decide) (by decide) dX5_init_33 (fun q2 => ?_)
  refine gc_dup hC rfl dX5_init_36 ?_
  refine gc_bipush (v := 20) hC (by decide) dX5_init_37 ?_
  refine gc_iconst (v := 0) hC (by decide) dX5_init_39 ?_
  refine gc_callI (X := [(h0, .inr (5, [.ref q0, .ref q1, .null, .null, .int 0])), (q0, .inr (8, [.ref r0])), (r0, .inl (cI, 20, .inl (fun _ => (-1)))), (q1, .inr (8, [.ref r1])), (r1, .inl (cI, 20, .inl (fun _ => (-1))))]) hC (k_row q2 20 (by decide) 0) mI_X8_init wm_X5_11 rfl rfl rfl (Nat.le_of_ble_eq_true rfl) ⟨by decide, by decide⟩ ⟨by decide, by decide⟩ dX5_init_40 (fun r2 => ?_)
  refine gc_cast (ws2 := [(h0, .inr (5, [.ref q0, .ref q1, .null, .null, .int 0])), (q0, .inr (8, [.ref r0])), (r0, .inl (cI, 20, .inl (fun _ => (-1)))), (q1, .inr (8, [.ref r1])), (r1, .inl (cI, 20, .inl (fun _ => (-1)))), (q2, .inr (8, [.ref r2])), (r2, .inl (cI, 20, .inl (fun _ => 0)))]) (kc2 := 6) (ks2 := 63) ?_ rfl rfl rfl rfl rfl rfl
  refine gc_putR hC hnm0 tyX5 rfl inX5 tyX5_ok nmX5 (k := 2) (by decide) wf_X5_23 rfl rfl (by decide +kernel : _ = some (FieldType.object "Fishclock$Row")) rfl rfl (Nat.le_of_ble_eq_true rfl) dX5_init_43 ?_
  refine gc_cast (ws2 := [(h0, .inr (5, [.ref q0, .ref q1, .ref q2, .null, .int 0])), (q0, .inr (8, [.ref r0])), (r0, .inl (cI, 20, .inl (fun _ => (-1)))), (q1, .inr (8, [.ref r1])), (r1, .inl (cI, 20, .inl (fun _ => (-1)))), (q2, .inr (8, [.ref r2])), (r2, .inl (cI, 20, .inl (fun _ => 0)))]) ?_ rfl rfl rfl rfl rfl rfl
  refine gc_aload_n hC 0 rfl rfl dX5_init_46 ?_
  refine gc_new (ci := 8) hC tyX8 (fs := [.null]) rfl inX8 tyX8_ok wl_X5_9 wj_X8 wn_X8 (fun j hj => by rw [show j = 0 by omega]; rfl) (by decide) (by decide) dX5_init_47 (fun q3 => ?_)
  refine gc_dup hC rfl dX5_init_50 ?_
  refine gc_bipush (v := 20) hC (by decide) dX5_init_51 ?_
  refine gc_iconst (v := (-1)) hC (by decide) dX5_init_53 ?_
  refine gc_callI (X := [(h0, .inr (5, [.ref q0, .ref q1, .ref q2, .null, .int 0])), (q0, .inr (8, [.ref r0])), (r0, .inl (cI, 20, .inl (fun _ => (-1)))), (q1, .inr (8, [.ref r1])), (r1, .inl (cI, 20, .inl (fun _ => (-1)))), (q2, .inr (8, [.ref r2])), (r2, .inl (cI, 20, .inl (fun _ => 0)))]) hC (k_row q3 20 (by decide) (-1)) mI_X8_init wm_X5_11 rfl rfl rfl (Nat.le_of_ble_eq_true rfl) ⟨by decide, by decide⟩ ⟨by decide, by decide⟩ dX5_init_54 (fun r3 => ?_)
  refine gc_cast (ws2 := [(h0, .inr (5, [.ref q0, .ref q1, .ref q2, .null, .int 0])), (q0, .inr (8, [.ref r0])), (r0, .inl (cI, 20, .inl (fun _ => (-1)))), (q1, .inr (8, [.ref r1])), (r1, .inl (cI, 20, .inl (fun _ => (-1)))), (q2, .inr (8, [.ref r2])), (r2, .inl (cI, 20, .inl (fun _ => 0))), (q3, .inr (8, [.ref r3])), (r3, .inl (cI, 20, .inl (fun _ => (-1))))]) (kc2 := 8) (ks2 := 84) ?_ rfl rfl rfl rfl rfl rfl
  refine gc_putR hC hnm0 tyX5 rfl inX5 tyX5_ok nmX5 (k := 3) (by decide) wf_X5_26 rfl rfl (by decide +kernel : _ = some (FieldType.object "Fishclock$Row")) rfl rfl (Nat.le_of_ble_eq_true rfl) dX5_init_57 ?_
  refine gc_cast (ws2 := [(h0, .inr (5, [.ref q0, .ref q1, .ref q2, .ref q3, .int 0])), (q0, .inr (8, [.ref r0])), (r0, .inl (cI, 20, .inl (fun _ => (-1)))), (q1, .inr (8, [.ref r1])), (r1, .inl (cI, 20, .inl (fun _ => (-1)))), (q2, .inr (8, [.ref r2])), (r2, .inl (cI, 20, .inl (fun _ => 0))), (q3, .inr (8, [.ref r3])), (r3, .inl (cI, 20, .inl (fun _ => (-1))))]) ?_ rfl rfl rfl rfl rfl rfl
  refine gc_aload_n hC 0 rfl rfl dX5_init_60 ?_
  refine gc_iconst (v := 0) hC (by decide) dX5_init_61 ?_
  refine gc_putI hC tyX5 rfl inX5 tyX5_ok nmX5 (k := 4) (by decide) wf_X5_29 rfl (by decide +kernel : _ = some FieldType.int) rfl rfl (Nat.le_of_ble_eq_true rfl) dX5_init_62 ?_
  refine gc_cast (ws2 := [(h0, .inr (5, [.ref q0, .ref q1, .ref q2, .ref q3, .int 0])), (q0, .inr (8, [.ref r0])), (r0, .inl (cI, 20, .inl (fun _ => (-1)))), (q1, .inr (8, [.ref r1])), (r1, .inl (cI, 20, .inl (fun _ => (-1)))), (q2, .inr (8, [.ref r2])), (r2, .inl (cI, 20, .inl (fun _ => 0))), (q3, .inr (8, [.ref r3])), (r3, .inl (cI, 20, .inl (fun _ => (-1))))]) ?_ rfl rfl rfl rfl rfl rfl
  exact gc_vret hC hr (fun k => [h0, q0, r0, q1, r1, q2, r2, q3, r3].getD k 0) rfl dX5_init_65
/-- a new quay: what its cells hold -/
def MC0 : gq_M := fun k => ((fun j => match j with | 8 => 0 | 9 => 0 | 10 => 0 | 11 => 1 | _ => 0) :: ((List.range 15).map MS_X0 ++ (List.range 7).map MS_X4 ++ (List.range 11).map MS_X2 ++ (List.range 27).map MS_X1 ++ (List.range 15).map MS_X6 ++ (List.range 17).map MS_X3 ++ (List.range 7).map MS_X7 ++ (List.range 9).map MS_X5)).getD k (fun _ => 0)
def gc_nest : List Cond := [Cond.methodLinkNest RX9 9 yX0_init RX9, Cond.methodLinkNest RX9 25 yX2_init RX9, Cond.methodLinkNest RX9 32 yX1_init RX9, Cond.methodLinkNest RX9 39 yX6_init RX9, Cond.methodLinkNest RX9 46 yX3_init RX9, Cond.methodLinkNest RX9 53 yX7_init RX9, Cond.methodLinkNest RX9 60 yX5_init RX9]
theorem gc_nest_in : ∀ w ∈ gc_nest, w ∈ lw_tbl := List.forall_mem_cons.mpr ⟨wm_X9_9, List.forall_mem_cons.mpr ⟨wm_X9_25, List.forall_mem_cons.mpr ⟨wm_X9_32, List.forall_mem_cons.mpr ⟨wm_X9_39, List.forall_mem_cons.mpr ⟨wm_X9_46, List.forall_mem_cons.mpr ⟨wm_X9_53, List.forall_mem_cons.mpr ⟨wm_X9_60, fun _ h => absurd h List.not_mem_nil⟩⟩⟩⟩⟩⟩⟩
def gc_CtN {S : Type} (l : Launch) (D : va_G) (cI cZ : ClassId) (y : MethodName) (cc : ByteArray) (nL d mc ms : Nat) (as : List Value) (ws : va_W) (wf : S → va_W) : Prop :=
  ∀ sz, Met l y (.code y cc nL none :: gT) (gc_rm d mc ms) (fun a U => gc_Pc D cI cZ as ws sz a U ∧ ∀ w ∈ gc_nest, va_Nw w U) (gc_Qv D cI cZ (va_A ws sz) wf) mc ms (va_A ws sz)
theorem gc_nest_ok : ∀ w ∈ gc_nest, w.onTables = true ∧ ∀ (s U : State), s.WarmedH U.vm → va_Nw w s → va_Nw w U := List.forall_mem_cons.mpr ⟨⟨rfl, fun s U h hz => va_Nw.warmM h hz⟩, List.forall_mem_cons.mpr ⟨⟨rfl, fun s U h hz => va_Nw.warmM h hz⟩, List.forall_mem_cons.mpr ⟨⟨rfl, fun s U h hz => va_Nw.warmM h hz⟩, List.forall_mem_cons.mpr ⟨⟨rfl, fun s U h hz => va_Nw.warmM h hz⟩, List.forall_mem_cons.mpr ⟨⟨rfl, fun s U h hz => va_Nw.warmM h hz⟩, List.forall_mem_cons.mpr ⟨⟨rfl, fun s U h hz => va_Nw.warmM h hz⟩, List.forall_mem_cons.mpr ⟨⟨rfl, fun s U h hz => va_Nw.warmM h hz⟩, fun _ h => absurd h List.not_mem_nil⟩⟩⟩⟩⟩⟩⟩
theorem gc_introN {l : Launch} {D : va_G} {cI cZ : ClassId} {own : String} {cc : ByteArray} {nL : Nat} {ws : va_W} {S : Type} {y : MethodName} {d mc ms : Nat} {as : List Value} {wf : S → va_W} (hy : plainName y.cls = true) (hown : y.cls = own) (hle : (lg_sl as).length ≤ nL)
    (body : ∀ (p : Program) (e : Env) (s : State) (m : MethodId) (below : List Frame) (meth : Method) (c : Code), gc_C p s m as.toArray meth c D (va_A ws s.heap.size) cI cZ own cc nL → meth.sig.returnType = none → meth.name = y.name → (∀ w ∈ gc_nest, va_Nw w s) →
      gc_W p l e (gc_rm d mc ms) s m as.toArray below meth c D (va_A ws s.heap.size) nL (MQ below (gc_Qv D cI cZ (va_A ws s.heap.size) wf) as.toArray s mc ms (va_A ws s.heap.size)) ws 0 (lv_args 0 as) [] 0 0) : gc_CtN l D cI cZ y cc nL d mc ms as ws wf := by
  subst hown
  intro sz
  refine Met.ofW (cc := cc) (maxL := nL) (ret := none) hy rfl ?_
  intro p e s m args below meth c s₁ B hml hv
  obtain ⟨⟨rfl, hsz, hP, hK, hD0⟩, hN⟩ := hv
  subst hsz
  have hts := atoms_spec (ws := .code y cc nL none :: gT) B.pre
  have h0 := body p e s m below meth c ⟨B.exec, B.bytes, hml, findClass_of_methodNamed B.named, fun w h => hts w (List.mem_cons_of_mem _ h), hK, B.notSynchronized, fun q h => Or.inr h⟩ B.returns (name_of_methodNamed B.named B.method).1 hN s.heap [] _ hP hD0.self va_S.rf (lv_entry as hle)
  rw [lg_entry_eq]
  exact h0
set_option maxHeartbeats 4000000 in
set_option maxRecDepth 20000 in
theorem k_X9 {l : Launch} {D : va_G} {cI cZ : ClassId} (h0 : Nat) : gc_CtN l D cI cZ yX9_init cX9_init 1 3 108 3250 [.ref h0] [(h0, .inr (9, [.null, .null, .null, .null, .null, .null, .null, .null, .int 0, .int 0, .int 0, .int 0]))] (fun u => gq_ws cI cZ (gc_ad h0 u) MC0 0 mtC) := by
  refine gc_introN (own := RX9) (by decide) rfl (Nat.le_of_ble_eq_true rfl) ?_
  intro p e s m below meth c hC hr hnm0 hN
  refine gc_cast (L2 := [(0, .ref h0)]) ?_ rfl rfl rfl rfl rfl rfl
  refine gc_aload_n hC 0 rfl rfl dX9_init_0 ?_
  refine gc_objInit hC wo_X9 wo_i wo_c ⟨by decide, Nat.le_of_ble_eq_true rfl⟩ dX9_init_1 ?_
  refine gc_aload_n hC 0 rfl rfl dX9_init_4 ?_
  refine gc_new (ci := 0) hC tyX0 (fs := [.null, .null, .null, .null, .null, .null, .null]) rfl inX0 tyX0_ok wl_X9_7 wj_X0 wn_X0 (fun j hj => by match j, hj with | 0, _ => rfl | 1, _ => rfl | 2, _ => rfl | 3, _ => rfl | 4, _ => rfl | 5, _ => rfl | 6, _ => rfl | j + 7, h => exact absurd h (by omega)) (by decide) (by decide) dX9_init_5 (fun q0 => ?_)
  refine gc_dup hC rfl dX9_init_8 ?_
  refine gc_callN (X := ((h0, .inr (9, [.null, .null, .null, .null, .null, .null, .null, .null, .int 0, .int 0, .int 0, .int 0])) :: [])) hC (k_X0 q0) mI_X0_init (hN (Cond.methodLinkNest RX9 9 yX0_init RX9) (List.mem_of_getElem? (i := 0) rfl)) rfl rfl rfl (Nat.le_of_ble_eq_true rfl) ⟨by decide, by decide⟩ ⟨by decide, by decide⟩ dX9_init_9 (fun u0 => ?_)
  refine gc_cast (ws2 := ((h0, .inr (9, [.null, .null, .null, .null, .null, .null, .null, .null, .int 0, .int 0, .int 0, .int 0])) :: gq_ws cI cZ (gc_ad q0 u0) MS_X0 0 mtS_X0)) (kc2 := 15) (ks2 := 118) ?_ rfl rfl rfl rfl rfl rfl
  refine gc_putR hC hnm0 tyX9 rfl inX9 tyX9_ok nmX9 (k := 0) (by decide) wf_X9_10 rfl rfl (by decide +kernel : _ = some (FieldType.object "Fishclock$Boats")) rfl rfl (Nat.le_of_ble_eq_true rfl) dX9_init_12 ?_
  refine gc_cast (ws2 := ((h0, .inr (9, [.ref q0, .null, .null, .null, .null, .null, .null, .null, .int 0, .int 0, .int 0, .int 0])) :: gq_ws cI cZ (gc_ad q0 u0) MS_X0 0 mtS_X0)) ?_ rfl rfl rfl rfl rfl rfl
  refine gc_aload_n hC 0 rfl rfl dX9_init_15 ?_
  refine gc_new (ci := 4) hC tyX4 (fs := [.null, .null, .null]) rfl inX4 tyX4_ok wl_X9_16 wj_X4 wn_X4 (fun j hj => by match j, hj with | 0, _ => rfl | 1, _ => rfl | 2, _ => rfl | j + 3, h => exact absurd h (by omega)) (by decide) (by decide) dX9_init_16 (fun q1 => ?_)
  refine gc_dup hC rfl dX9_init_19 ?_
  refine gc_callI (X := ((h0, .inr (9, [.ref q0, .null, .null, .null, .null, .null, .null, .null, .int 0, .int 0, .int 0, .int 0])) :: gq_ws cI cZ (gc_ad q0 u0) MS_X0 0 mtS_X0)) hC (k_X4 q1) mI_X4_init wm_X9_18 rfl rfl rfl (Nat.le_of_ble_eq_true rfl) ⟨by decide, by decide⟩ ⟨by decide, by decide⟩ dX9_init_20 (fun u1 => ?_)
  refine gc_cast (ws2 := ((h0, .inr (9, [.ref q0, .null, .null, .null, .null, .null, .null, .null, .int 0, .int 0, .int 0, .int 0])) :: (gq_ws cI cZ (gc_ad q0 u0) MS_X0 0 mtS_X0 ++ gq_ws cI cZ (gc_ad q1 u1) MS_X4 0 mtS_X4))) (kc2 := 22) (ks2 := 136) ?_ rfl rfl rfl rfl rfl rfl
  refine gc_putR hC hnm0 tyX9 rfl inX9 tyX9_ok nmX9 (k := 1) (by decide) wf_X9_19 rfl rfl (by decide +kernel : _ = some (FieldType.object "Fishclock$Kinds")) rfl rfl (Nat.le_of_ble_eq_true rfl) dX9_init_23 ?_
  refine gc_cast (ws2 := ((h0, .inr (9, [.ref q0, .ref q1, .null, .null, .null, .null, .null, .null, .int 0, .int 0, .int 0, .int 0])) :: (gq_ws cI cZ (gc_ad q0 u0) MS_X0 0 mtS_X0 ++ gq_ws cI cZ (gc_ad q1 u1) MS_X4 0 mtS_X4))) ?_ rfl rfl rfl rfl rfl rfl
  refine gc_aload_n hC 0 rfl rfl dX9_init_26 ?_
  refine gc_new (ci := 2) hC tyX2 (fs := [.null, .null, .null, .null, .null]) rfl inX2 tyX2_ok wl_X9_23 wj_X2 wn_X2 (fun j hj => by match j, hj with | 0, _ => rfl | 1, _ => rfl | 2, _ => rfl | 3, _ => rfl | 4, _ => rfl | j + 5, h => exact absurd h (by omega)) (by decide) (by decide) dX9_init_27 (fun q2 => ?_)
  refine gc_dup hC rfl dX9_init_30 ?_
  refine gc_callN (X := ((h0, .inr (9, [.ref q0, .ref q1, .null, .null, .null, .null, .null, .null, .int 0, .int 0, .int 0, .int 0])) :: (gq_ws cI cZ (gc_ad q0 u0) MS_X0 0 mtS_X0 ++ gq_ws cI cZ (gc_ad q1 u1) MS_X4 0 mtS_X4))) hC (k_X2 q2) mI_X2_init (hN (Cond.methodLinkNest RX9 25 yX2_init RX9) (List.mem_of_getElem? (i := 1) rfl)) rfl rfl rfl (Nat.le_of_ble_eq_true rfl) ⟨by decide, by decide⟩ ⟨by decide, by decide⟩ dX9_init_31 (fun u2 => ?_)
  refine gc_cast (ws2 := ((h0, .inr (9, [.ref q0, .ref q1, .null, .null, .null, .null, .null, .null, .int 0, .int 0, .int 0, .int 0])) :: ((gq_ws cI cZ (gc_ad q0 u0) MS_X0 0 mtS_X0 ++ gq_ws cI cZ (gc_ad q1 u1) MS_X4 0 mtS_X4) ++ gq_ws cI cZ (gc_ad q2 u2) MS_X2 0 mtS_X2))) (kc2 := 33) (ks2 := 186) ?_ rfl rfl rfl rfl rfl rfl
  refine gc_putR hC hnm0 tyX9 rfl inX9 tyX9_ok nmX9 (k := 2) (by decide) wf_X9_26 rfl rfl (by decide +kernel : _ = some (FieldType.object "Fishclock$Buyers")) rfl rfl (Nat.le_of_ble_eq_true rfl) dX9_init_34 ?_
  refine gc_cast (ws2 := ((h0, .inr (9, [.ref q0, .ref q1, .ref q2, .null, .null, .null, .null, .null, .int 0, .int 0, .int 0, .int 0])) :: ((gq_ws cI cZ (gc_ad q0 u0) MS_X0 0 mtS_X0 ++ gq_ws cI cZ (gc_ad q1 u1) MS_X4 0 mtS_X4) ++ gq_ws cI cZ (gc_ad q2 u2) MS_X2 0 mtS_X2))) ?_ rfl rfl rfl rfl rfl rfl
  refine gc_aload_n hC 0 rfl rfl dX9_init_37 ?_
  refine gc_new (ci := 1) hC tyX1 (fs := [.null, .null, .null, .null, .null, .null, .null, .null, .null, .null, .null, .null, .null, .int 0]) rfl inX1 tyX1_ok wl_X9_30 wj_X1 wn_X1 (fun j hj => by match j, hj with | 0, _ => rfl | 1, _ => rfl | 2, _ => rfl | 3, _ => rfl | 4, _ => rfl | 5, _ => rfl | 6, _ => rfl | 7, _ => rfl | 8, _ => rfl | 9, _ => rfl | 10, _ => rfl | 11, _ => rfl | 12, _ => rfl | 13, _ => rfl | j + 14, h => exact absurd h (by omega)) (by decide) (by decide) dX9_init_38 (fun q3 => ?_)
  refine gc_dup hC rfl dX9_init_41 ?_
  refine gc_callN (X := ((h0, .inr (9, [.ref q0, .ref q1, .ref q2, .null, .null, .null, .null, .null, .int 0, .int 0, .int 0, .int 0])) :: ((gq_ws cI cZ (gc_ad q0 u0) MS_X0 0 mtS_X0 ++ gq_ws cI cZ (gc_ad q1 u1) MS_X4 0 mtS_X4) ++ gq_ws cI cZ (gc_ad q2 u2) MS_X2 0 mtS_X2))) hC (k_X1 q3) mI_X1_init (hN (Cond.methodLinkNest RX9 32 yX1_init RX9) (List.mem_of_getElem? (i := 2) rfl)) rfl rfl rfl (Nat.le_of_ble_eq_true rfl) ⟨by decide, by decide⟩ ⟨by decide, by decide⟩ dX9_init_42 (fun u3 => ?_)
  refine gc_cast (ws2 := ((h0, .inr (9, [.ref q0, .ref q1, .ref q2, .null, .null, .null, .null, .null, .int 0, .int 0, .int 0, .int 0])) :: (((gq_ws cI cZ (gc_ad q0 u0) MS_X0 0 mtS_X0 ++ gq_ws cI cZ (gc_ad q1 u1) MS_X4 0 mtS_X4) ++ gq_ws cI cZ (gc_ad q2 u2) MS_X2 0 mtS_X2) ++ gq_ws cI cZ (gc_ad q3 u3) MS_X1 0 mtS_X1))) (kc2 := 60) (ks2 := 2019) ?_ rfl rfl rfl rfl rfl rfl
  refine gc_putR hC hnm0 tyX9 rfl inX9 tyX9_ok nmX9 (k := 3) (by decide) wf_X9_33 rfl rfl (by decide +kernel : _ = some (FieldType.object "Fishclock$Boxes")) rfl rfl (Nat.le_of_ble_eq_true rfl) dX9_init_45 ?_
  refine gc_cast (ws2 := ((h0, .inr (9, [.ref q0, .ref q1, .ref q2, .ref q3, .null, .null, .null, .null, .int 0, .int 0, .int 0, .int 0])) :: (((gq_ws cI cZ (gc_ad q0 u0) MS_X0 0 mtS_X0 ++ gq_ws cI cZ (gc_ad q1 u1) MS_X4 0 mtS_X4) ++ gq_ws cI cZ (gc_ad q2 u2) MS_X2 0 mtS_X2) ++ gq_ws cI cZ (gc_ad q3 u3) MS_X1 0 mtS_X1))) ?_ rfl rfl rfl rfl rfl rfl
  refine gc_aload_n hC 0 rfl rfl dX9_init_48 ?_
  refine gc_new (ci := 6) hC tyX6 (fs := [.null, .null, .null, .null, .null, .null, .null, .int 0, .int 0]) rfl inX6 tyX6_ok wl_X9_37 wj_X6 wn_X6 (fun j hj => by match j, hj with | 0, _ => rfl | 1, _ => rfl | 2, _ => rfl | 3, _ => rfl | 4, _ => rfl | 5, _ => rfl | 6, _ => rfl | 7, _ => rfl | 8, _ => rfl | j + 9, h => exact absurd h (by omega)) (by decide) (by decide) dX9_init_49 (fun q4 => ?_)
  refine gc_dup hC rfl dX9_init_52 ?_
  refine gc_callN (X := ((h0, .inr (9, [.ref q0, .ref q1, .ref q2, .ref q3, .null, .null, .null, .null, .int 0, .int 0, .int 0, .int 0])) :: (((gq_ws cI cZ (gc_ad q0 u0) MS_X0 0 mtS_X0 ++ gq_ws cI cZ (gc_ad q1 u1) MS_X4 0 mtS_X4) ++ gq_ws cI cZ (gc_ad q2 u2) MS_X2 0 mtS_X2) ++ gq_ws cI cZ (gc_ad q3 u3) MS_X1 0 mtS_X1))) hC (k_X6 q4) mI_X6_init (hN (Cond.methodLinkNest RX9 39 yX6_init RX9) (List.mem_of_getElem? (i := 3) rfl)) rfl rfl rfl (Nat.le_of_ble_eq_true rfl) ⟨by decide, by decide⟩ ⟨by decide, by decide⟩ dX9_init_53 (fun u4 => ?_)
  refine gc_cast (ws2 := ((h0, .inr (9, [.ref q0, .ref q1, .ref q2, .ref q3, .null, .null, .null, .null, .int 0, .int 0, .int 0, .int 0])) :: ((((gq_ws cI cZ (gc_ad q0 u0) MS_X0 0 mtS_X0 ++ gq_ws cI cZ (gc_ad q1 u1) MS_X4 0 mtS_X4) ++ gq_ws cI cZ (gc_ad q2 u2) MS_X2 0 mtS_X2) ++ gq_ws cI cZ (gc_ad q3 u3) MS_X1 0 mtS_X1) ++ gq_ws cI cZ (gc_ad q4 u4) MS_X6 0 mtS_X6))) (kc2 := 75) (ks2 := 3043) ?_ rfl rfl rfl rfl rfl rfl
  refine gc_putR hC hnm0 tyX9 rfl inX9 tyX9_ok nmX9 (k := 4) (by decide) wf_X9_40 rfl rfl (by decide +kernel : _ = some (FieldType.object "Fishclock$Lots")) rfl rfl (Nat.le_of_ble_eq_true rfl) dX9_init_56 ?_
  refine gc_cast (ws2 := ((h0, .inr (9, [.ref q0, .ref q1, .ref q2, .ref q3, .ref q4, .null, .null, .null, .int 0, .int 0, .int 0, .int 0])) :: ((((gq_ws cI cZ (gc_ad q0 u0) MS_X0 0 mtS_X0 ++ gq_ws cI cZ (gc_ad q1 u1) MS_X4 0 mtS_X4) ++ gq_ws cI cZ (gc_ad q2 u2) MS_X2 0 mtS_X2) ++ gq_ws cI cZ (gc_ad q3 u3) MS_X1 0 mtS_X1) ++ gq_ws cI cZ (gc_ad q4 u4) MS_X6 0 mtS_X6))) ?_ rfl rfl rfl rfl rfl rfl
  refine gc_aload_n hC 0 rfl rfl dX9_init_59 ?_
  refine gc_new (ci := 3) hC tyX3 (fs := [.null, .null, .null, .null, .null, .null, .null, .null]) rfl inX3 tyX3_ok wl_X9_44 wj_X3 wn_X3 (fun j hj => by match j, hj with | 0, _ => rfl | 1, _ => rfl | 2, _ => rfl | 3, _ => rfl | 4, _ => rfl | 5, _ => rfl | 6, _ => rfl | 7, _ => rfl | j + 8, h => exact absurd h (by omega)) (by decide) (by decide) dX9_init_60 (fun q5 => ?_)
  refine gc_dup hC rfl dX9_init_63 ?_
  refine gc_callN (X := ((h0, .inr (9, [.ref q0, .ref q1, .ref q2, .ref q3, .ref q4, .null, .null, .null, .int 0, .int 0, .int 0, .int 0])) :: ((((gq_ws cI cZ (gc_ad q0 u0) MS_X0 0 mtS_X0 ++ gq_ws cI cZ (gc_ad q1 u1) MS_X4 0 mtS_X4) ++ gq_ws cI cZ (gc_ad q2 u2) MS_X2 0 mtS_X2) ++ gq_ws cI cZ (gc_ad q3 u3) MS_X1 0 mtS_X1) ++ gq_ws cI cZ (gc_ad q4 u4) MS_X6 0 mtS_X6))) hC (k_X3 q5) mI_X3_init (hN (Cond.methodLinkNest RX9 46 yX3_init RX9) (List.mem_of_getElem? (i := 4) rfl)) rfl rfl rfl (Nat.le_of_ble_eq_true rfl) ⟨by decide, by decide⟩ ⟨by decide, by decide⟩ dX9_init_64 (fun u5 => ?_)
  refine gc_cast (ws2 := ((h0, .inr (9, [.ref q0, .ref q1, .ref q2, .ref q3, .ref q4, .null, .null, .null, .int 0, .int 0, .int 0, .int 0])) :: (((((gq_ws cI cZ (gc_ad q0 u0) MS_X0 0 mtS_X0 ++ gq_ws cI cZ (gc_ad q1 u1) MS_X4 0 mtS_X4) ++ gq_ws cI cZ (gc_ad q2 u2) MS_X2 0 mtS_X2) ++ gq_ws cI cZ (gc_ad q3 u3) MS_X1 0 mtS_X1) ++ gq_ws cI cZ (gc_ad q4 u4) MS_X6 0 mtS_X6) ++ gq_ws cI cZ (gc_ad q5 u5) MS_X3 0 mtS_X3))) (kc2 := 92) (ks2 := 3083) ?_ rfl rfl rfl rfl rfl rfl
  refine gc_putR hC hnm0 tyX9 rfl inX9 tyX9_ok nmX9 (k := 5) (by decide) wf_X9_47 rfl rfl (by decide +kernel : _ = some (FieldType.object "Fishclock$Clocks")) rfl rfl (Nat.le_of_ble_eq_true rfl) dX9_init_67 ?_
  refine gc_cast (ws2 := ((h0, .inr (9, [.ref q0, .ref q1, .ref q2, .ref q3, .ref q4, .ref q5, .null, .null, .int 0, .int 0, .int 0, .int 0])) :: (((((gq_ws cI cZ (gc_ad q0 u0) MS_X0 0 mtS_X0 ++ gq_ws cI cZ (gc_ad q1 u1) MS_X4 0 mtS_X4) ++ gq_ws cI cZ (gc_ad q2 u2) MS_X2 0 mtS_X2) ++ gq_ws cI cZ (gc_ad q3 u3) MS_X1 0 mtS_X1) ++ gq_ws cI cZ (gc_ad q4 u4) MS_X6 0 mtS_X6) ++ gq_ws cI cZ (gc_ad q5 u5) MS_X3 0 mtS_X3))) ?_ rfl rfl rfl rfl rfl rfl
  refine gc_aload_n hC 0 rfl rfl dX9_init_70 ?_
  refine gc_new (ci := 7) hC tyX7 (fs := [.null, .null, .null]) rfl inX7 tyX7_ok wl_X9_51 wj_X7 wn_X7 (fun j hj => by match j, hj with | 0, _ => rfl | 1, _ => rfl | 2, _ => rfl | j + 3, h => exact absurd h (by omega)) (by decide) (by decide) dX9_init_71 (fun q6 => ?_)
  refine gc_dup hC rfl dX9_init_74 ?_
  refine gc_callN (X := ((h0, .inr (9, [.ref q0, .ref q1, .ref q2, .ref q3, .ref q4, .ref q5, .null, .null, .int 0, .int 0, .int 0, .int 0])) :: (((((gq_ws cI cZ (gc_ad q0 u0) MS_X0 0 mtS_X0 ++ gq_ws cI cZ (gc_ad q1 u1) MS_X4 0 mtS_X4) ++ gq_ws cI cZ (gc_ad q2 u2) MS_X2 0 mtS_X2) ++ gq_ws cI cZ (gc_ad q3 u3) MS_X1 0 mtS_X1) ++ gq_ws cI cZ (gc_ad q4 u4) MS_X6 0 mtS_X6) ++ gq_ws cI cZ (gc_ad q5 u5) MS_X3 0 mtS_X3))) hC (k_X7 q6) mI_X7_init (hN (Cond.methodLinkNest RX9 53 yX7_init RX9) (List.mem_of_getElem? (i := 5) rfl)) rfl rfl rfl (Nat.le_of_ble_eq_true rfl) ⟨by decide, by decide⟩ ⟨by decide, by decide⟩ dX9_init_75 (fun u6 => ?_)
  refine gc_cast (ws2 := ((h0, .inr (9, [.ref q0, .ref q1, .ref q2, .ref q3, .ref q4, .ref q5, .null, .null, .int 0, .int 0, .int 0, .int 0])) :: ((((((gq_ws cI cZ (gc_ad q0 u0) MS_X0 0 mtS_X0 ++ gq_ws cI cZ (gc_ad q1 u1) MS_X4 0 mtS_X4) ++ gq_ws cI cZ (gc_ad q2 u2) MS_X2 0 mtS_X2) ++ gq_ws cI cZ (gc_ad q3 u3) MS_X1 0 mtS_X1) ++ gq_ws cI cZ (gc_ad q4 u4) MS_X6 0 mtS_X6) ++ gq_ws cI cZ (gc_ad q5 u5) MS_X3 0 mtS_X3) ++ gq_ws cI cZ (gc_ad q6 u6) MS_X7 0 mtS_X7))) (kc2 := 99) (ks2 := 3161) ?_ rfl rfl rfl rfl rfl rfl
  refine gc_putR hC hnm0 tyX9 rfl inX9 tyX9_ok nmX9 (k := 6) (by decide) wf_X9_54 rfl rfl (by decide +kernel : _ = some (FieldType.object "Fishclock$Presses")) rfl rfl (Nat.le_of_ble_eq_true rfl) dX9_init_78 ?_
  refine gc_cast (ws2 := ((h0, .inr (9, [.ref q0, .ref q1, .ref q2, .ref q3, .ref q4, .ref q5, .ref q6, .null, .int 0, .int 0, .int 0, .int 0])) :: ((((((gq_ws cI cZ (gc_ad q0 u0) MS_X0 0 mtS_X0 ++ gq_ws cI cZ (gc_ad q1 u1) MS_X4 0 mtS_X4) ++ gq_ws cI cZ (gc_ad q2 u2) MS_X2 0 mtS_X2) ++ gq_ws cI cZ (gc_ad q3 u3) MS_X1 0 mtS_X1) ++ gq_ws cI cZ (gc_ad q4 u4) MS_X6 0 mtS_X6) ++ gq_ws cI cZ (gc_ad q5 u5) MS_X3 0 mtS_X3) ++ gq_ws cI cZ (gc_ad q6 u6) MS_X7 0 mtS_X7))) ?_ rfl rfl rfl rfl rfl rfl
  refine gc_aload_n hC 0 rfl rfl dX9_init_81 ?_
  refine gc_new (ci := 5) hC tyX5 (fs := [.null, .null, .null, .null, .int 0]) rfl inX5 tyX5_ok wl_X9_58 wj_X5 wn_X5 (fun j hj => by match j, hj with | 0, _ => rfl | 1, _ => rfl | 2, _ => rfl | 3, _ => rfl | 4, _ => rfl | j + 5, h => exact absurd h (by omega)) (by decide) (by decide) dX9_init_82 (fun q7 => ?_)
  refine gc_dup hC rfl dX9_init_85 ?_
  refine gc_callN (X := ((h0, .inr (9, [.ref q0, .ref q1, .ref q2, .ref q3, .ref q4, .ref q5, .ref q6, .null, .int 0, .int 0, .int 0, .int 0])) :: ((((((gq_ws cI cZ (gc_ad q0 u0) MS_X0 0 mtS_X0 ++ gq_ws cI cZ (gc_ad q1 u1) MS_X4 0 mtS_X4) ++ gq_ws cI cZ (gc_ad q2 u2) MS_X2 0 mtS_X2) ++ gq_ws cI cZ (gc_ad q3 u3) MS_X1 0 mtS_X1) ++ gq_ws cI cZ (gc_ad q4 u4) MS_X6 0 mtS_X6) ++ gq_ws cI cZ (gc_ad q5 u5) MS_X3 0 mtS_X3) ++ gq_ws cI cZ (gc_ad q6 u6) MS_X7 0 mtS_X7))) hC (k_X5 q7) mI_X5_init (hN (Cond.methodLinkNest RX9 60 yX5_init RX9) (List.mem_of_getElem? (i := 6) rfl)) rfl rfl rfl (Nat.le_of_ble_eq_true rfl) ⟨by decide, by decide⟩ ⟨by decide, by decide⟩ dX9_init_86 (fun u7 => ?_)
  refine gc_cast (ws2 := ((h0, .inr (9, [.ref q0, .ref q1, .ref q2, .ref q3, .ref q4, .ref q5, .ref q6, .null, .int 0, .int 0, .int 0, .int 0])) :: (((((((gq_ws cI cZ (gc_ad q0 u0) MS_X0 0 mtS_X0 ++ gq_ws cI cZ (gc_ad q1 u1) MS_X4 0 mtS_X4) ++ gq_ws cI cZ (gc_ad q2 u2) MS_X2 0 mtS_X2) ++ gq_ws cI cZ (gc_ad q3 u3) MS_X1 0 mtS_X1) ++ gq_ws cI cZ (gc_ad q4 u4) MS_X6 0 mtS_X6) ++ gq_ws cI cZ (gc_ad q5 u5) MS_X3 0 mtS_X3) ++ gq_ws cI cZ (gc_ad q6 u6) MS_X7 0 mtS_X7) ++ gq_ws cI cZ (gc_ad q7 u7) MS_X5 0 mtS_X5))) (kc2 := 108) (ks2 := 3250) ?_ rfl rfl rfl rfl rfl rfl
  refine gc_putR hC hnm0 tyX9 rfl inX9 tyX9_ok nmX9 (k := 7) (by decide) wf_X9_61 rfl rfl (by decide +kernel : _ = some (FieldType.object "Fishclock$Lorries")) rfl rfl (Nat.le_of_ble_eq_true rfl) dX9_init_89 ?_
  refine gc_cast (ws2 := ((h0, .inr (9, [.ref q0, .ref q1, .ref q2, .ref q3, .ref q4, .ref q5, .ref q6, .ref q7, .int 0, .int 0, .int 0, .int 0])) :: (((((((gq_ws cI cZ (gc_ad q0 u0) MS_X0 0 mtS_X0 ++ gq_ws cI cZ (gc_ad q1 u1) MS_X4 0 mtS_X4) ++ gq_ws cI cZ (gc_ad q2 u2) MS_X2 0 mtS_X2) ++ gq_ws cI cZ (gc_ad q3 u3) MS_X1 0 mtS_X1) ++ gq_ws cI cZ (gc_ad q4 u4) MS_X6 0 mtS_X6) ++ gq_ws cI cZ (gc_ad q5 u5) MS_X3 0 mtS_X3) ++ gq_ws cI cZ (gc_ad q6 u6) MS_X7 0 mtS_X7) ++ gq_ws cI cZ (gc_ad q7 u7) MS_X5 0 mtS_X5))) ?_ rfl rfl rfl rfl rfl rfl
  refine gc_aload_n hC 0 rfl rfl dX9_init_92 ?_
  refine gc_iconst (v := 0) hC (by decide) dX9_init_93 ?_
  refine gc_putI hC tyX9 rfl inX9 tyX9_ok nmX9 (k := 8) (by decide) wf_X9_65 rfl (by decide +kernel : _ = some FieldType.int) rfl rfl (Nat.le_of_ble_eq_true rfl) dX9_init_94 ?_
  refine gc_cast (ws2 := ((h0, .inr (9, [.ref q0, .ref q1, .ref q2, .ref q3, .ref q4, .ref q5, .ref q6, .ref q7, .int 0, .int 0, .int 0, .int 0])) :: (((((((gq_ws cI cZ (gc_ad q0 u0) MS_X0 0 mtS_X0 ++ gq_ws cI cZ (gc_ad q1 u1) MS_X4 0 mtS_X4) ++ gq_ws cI cZ (gc_ad q2 u2) MS_X2 0 mtS_X2) ++ gq_ws cI cZ (gc_ad q3 u3) MS_X1 0 mtS_X1) ++ gq_ws cI cZ (gc_ad q4 u4) MS_X6 0 mtS_X6) ++ gq_ws cI cZ (gc_ad q5 u5) MS_X3 0 mtS_X3) ++ gq_ws cI cZ (gc_ad q6 u6) MS_X7 0 mtS_X7) ++ gq_ws cI cZ (gc_ad q7 u7) MS_X5 0 mtS_X5))) ?_ rfl rfl rfl rfl rfl rfl
  refine gc_aload_n hC 0 rfl rfl dX9_init_97 ?_
  refine gc_iconst (v := 0) hC (by decide) dX9_init_98 ?_
  refine gc_putI hC tyX9 rfl inX9 tyX9_ok nmX9 (k := 9) (by decide) wf_X9_69 rfl (by decide +kernel : _ = some FieldType.int) rfl rfl (Nat.le_of_ble_eq_true rfl) dX9_init_99 ?_
  refine gc_cast (ws2 := ((h0, .inr (9, [.ref q0, .ref q1, .ref q2, .ref q3, .ref q4, .ref q5, .ref q6, .ref q7, .int 0, .int 0, .int 0, .int 0])) :: (((((((gq_ws cI cZ (gc_ad q0 u0) MS_X0 0 mtS_X0 ++ gq_ws cI cZ (gc_ad q1 u1) MS_X4 0 mtS_X4) ++ gq_ws cI cZ (gc_ad q2 u2) MS_X2 0 mtS_X2) ++ gq_ws cI cZ (gc_ad q3 u3) MS_X1 0 mtS_X1) ++ gq_ws cI cZ (gc_ad q4 u4) MS_X6 0 mtS_X6) ++ gq_ws cI cZ (gc_ad q5 u5) MS_X3 0 mtS_X3) ++ gq_ws cI cZ (gc_ad q6 u6) MS_X7 0 mtS_X7) ++ gq_ws cI cZ (gc_ad q7 u7) MS_X5 0 mtS_X5))) ?_ rfl rfl rfl rfl rfl rfl
  refine gc_aload_n hC 0 rfl rfl dX9_init_102 ?_
  refine gc_iconst (v := 0) hC (by decide) dX9_init_103 ?_
  refine gc_putI hC tyX9 rfl inX9 tyX9_ok nmX9 (k := 10) (by decide) wf_X9_72 rfl (by decide +kernel : _ = some FieldType.boolean) rfl rfl (Nat.le_of_ble_eq_true rfl) dX9_init_104 ?_
  refine gc_cast (ws2 := ((h0, .inr (9, [.ref q0, .ref q1, .ref q2, .ref q3, .ref q4, .ref q5, .ref q6, .ref q7, .int 0, .int 0, .int 0, .int 0])) :: (((((((gq_ws cI cZ (gc_ad q0 u0) MS_X0 0 mtS_X0 ++ gq_ws cI cZ (gc_ad q1 u1) MS_X4 0 mtS_X4) ++ gq_ws cI cZ (gc_ad q2 u2) MS_X2 0 mtS_X2) ++ gq_ws cI cZ (gc_ad q3 u3) MS_X1 0 mtS_X1) ++ gq_ws cI cZ (gc_ad q4 u4) MS_X6 0 mtS_X6) ++ gq_ws cI cZ (gc_ad q5 u5) MS_X3 0 mtS_X3) ++ gq_ws cI cZ (gc_ad q6 u6) MS_X7 0 mtS_X7) ++ gq_ws cI cZ (gc_ad q7 u7) MS_X5 0 mtS_X5))) ?_ rfl rfl rfl rfl rfl rfl
  refine gc_aload_n hC 0 rfl rfl dX9_init_107 ?_
  refine gc_iconst (v := 1) hC (by decide) dX9_init_108 ?_
  refine gc_putI hC tyX9 rfl inX9 tyX9_ok nmX9 (k := 11) (by decide) wf_X9_76 rfl (by decide +kernel : _ = some FieldType.int) rfl rfl (Nat.le_of_ble_eq_true rfl) dX9_init_109 ?_
  refine gc_cast (ws2 := ((h0, .inr (9, [.ref q0, .ref q1, .ref q2, .ref q3, .ref q4, .ref q5, .ref q6, .ref q7, .int 0, .int 0, .int 0, .int 1])) :: (((((((gq_ws cI cZ (gc_ad q0 u0) MS_X0 0 mtS_X0 ++ gq_ws cI cZ (gc_ad q1 u1) MS_X4 0 mtS_X4) ++ gq_ws cI cZ (gc_ad q2 u2) MS_X2 0 mtS_X2) ++ gq_ws cI cZ (gc_ad q3 u3) MS_X1 0 mtS_X1) ++ gq_ws cI cZ (gc_ad q4 u4) MS_X6 0 mtS_X6) ++ gq_ws cI cZ (gc_ad q5 u5) MS_X3 0 mtS_X3) ++ gq_ws cI cZ (gc_ad q6 u6) MS_X7 0 mtS_X7) ++ gq_ws cI cZ (gc_ad q7 u7) MS_X5 0 mtS_X5))) ?_ rfl rfl rfl rfl rfl rfl
  exact gc_vret hC hr (fun k => [h0, q0, u0 1, u0 2, u0 3, u0 4, u0 5, u0 6, u0 7, u0 8, u0 9, u0 10, u0 11, u0 12, u0 13, u0 14, q1, u1 1, u1 2, u1 3, u1 4, u1 5, u1 6, q2, u2 1, u2 2, u2 3, u2 4, u2 5, u2 6, u2 7, u2 8, u2 9, u2 10, q3, u3 1, u3 2, u3 3, u3 4, u3 5, u3 6, u3 7, u3 8, u3 9, u3 10, u3 11, u3 12, u3 13, u3 14, u3 15, u3 16, u3 17, u3 18, u3 19, u3 20, u3 21, u3 22, u3 23, u3 24, u3 25, u3 26, q4, u4 1, u4 2, u4 3, u4 4, u4 5, u4 6, u4 7, u4 8, u4 9, u4 10, u4 11, u4 12, u4 13, u4 14, q5, u5 1, u5 2, u5 3, u5 4, u5 5, u5 6, u5 7, u5 8, u5 9, u5 10, u5 11, u5 12, u5 13, u5 14, u5 15, u5 16, q6, u6 1, u6 2, u6 3, u6 4, u6 5, u6 6, q7, u7 1, u7 2, u7 3, u7 4, u7 5, u7 6, u7 7, u7 8].getD k 0) rfl dX9_init_112
