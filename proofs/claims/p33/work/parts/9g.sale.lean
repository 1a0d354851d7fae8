/-! all of a sale -/
section
variable {N nb nl nr tn dn : Nat} {M R : gq_M}
theorem l_732 {x15 x16 x17 : Int32} {bu ha : Nat} (hbu : bu < 2 ^ 31) (hha : ha < 2 ^ 31) : f_L_isSale_732 N x15 x16 x17 (nI bu) (nI ha) M = f_L_isSale_769 N x15 x16 x17 (nI bu) (nI ha) (bI (bu < 8 ∧ ha < 3)) (if ha < 3 then nI (8 * ha) else 0) M := by
  by_cases c1 : bu < 8
  · by_cases c2 : ha < 3
    · rw [bI_t (p := bu < 8 ∧ ha < 3) ⟨c1, c2⟩, if_pos c2]
      simp (disch := omega) only [f_L_isSale_732, f_L_isSale_751, f_L_isSale_752, iL8t, iL8f, iL3t, iL3f, i1_0, i0_0, gq_b_s, gq_l_e, iSt, ↓reduceIte, g_bb1, g_inN, nI_clamp, nI_1, nI_add, ap2, ap6, ad24, ad40, mv8]
    · rw [bI_f (p := bu < 8 ∧ ha < 3) (fun z => c2 z.2), if_neg c2]
      simp (disch := omega) only [f_L_isSale_732, f_L_isSale_751, f_L_isSale_752, iL8t, iL8f, iL3t, iL3f, i1_0, i0_0, gq_b_s, gq_l_e, iSt, ↓reduceIte, g_bb1, g_inN, nI_clamp, nI_1, nI_add, ap2, ap6, ad24, ad40, mv8]
  · by_cases c2 : ha < 3
    · rw [bI_f (p := bu < 8 ∧ ha < 3) (fun z => c1 z.1), if_pos c2]
      simp (disch := omega) only [f_L_isSale_732, f_L_isSale_751, f_L_isSale_752, iL8t, iL8f, iL3t, iL3f, i1_0, i0_0, gq_b_s, gq_l_e, iSt, ↓reduceIte, g_bb1, g_inN, nI_clamp, nI_1, nI_add, ap2, ap6, ad24, ad40, mv8]
    · rw [bI_f (p := bu < 8 ∧ ha < 3) (fun z => c1 z.1), if_neg c2]
      simp (disch := omega) only [f_L_isSale_732, f_L_isSale_751, f_L_isSale_752, iL8t, iL8f, iL3t, iL3f, i1_0, i0_0, gq_b_s, gq_l_e, iSt, ↓reduceIte, g_bb1, g_inN, nI_clamp, nI_1, nI_add, ap2, ap6, ad24, ad40, mv8]
def buy (one : Nat) : Nat := if one % 13 = 12 then 8 else one % 5
def hal (two : Nat) : Nat := if two % 13 = 12 then 3 else two % 3
theorem buy_lt (one : Nat) : buy one < 9 := by unfold buy; split <;> omega
theorem hal_lt (two : Nat) : hal two < 4 := by unfold hal; split <;> omega
theorem l_409 {x15 : Int32} {one two : Nat} (h2 : (2 : Int32) ≤ x15) (h3 : ¬ x15 = 2) (ho : one < 2 ^ 31) (ht : two < 2 ^ 31) : f_L_isSale_409 N x15 (nI one) (nI two) M = f_L_isSale_769 N x15 (nI one) (nI two) (nI (buy one)) (nI (hal two)) (bI (buy one < 8 ∧ hal two < 3)) (if hal two < 3 then nI (8 * hal two) else 0) M := by
  have b9 := buy_lt one
  have h4 := hal_lt two
  rw [← l_732 (by omega) (by omega)]
  unfold f_L_isSale_409 f_L_isSale_712
  rw [if_pos h2, if_neg h3]
  unfold buy hal
  by_cases c : one % 13 = 12
  · rw [if_pos c]
    by_cases d : two % 13 = 12
    · rw [if_pos d]
      simp (disch := omega) only [↓reduceIte, ite_self, iL8t, iL8f, iL4t, iL4f, iL3t, iL3f, iL100001t, iL100001f, iL10001t, iL10001f, iL501t, iL501f, iL100000001t, iL100000001f, iL10t, iL10f, iL10000001t, iL10000001f, iL101t, iL101f, iL100t, iL100f, iL51t, iL51f, iL9t, iL9f, iL1t, iL1f, iL2t, iL2f, iL7t, iL7f, iL29t, iL29f, iR0t, iR0f, iR100t, iR100f, iR10t, iR10f, iE0t, iE0f, iE1t, iE1f, iE2t, iE2f, iE3t, iE3f, iE4t, iE4f, iE5t, iE5f, iE6t, iE6f, iE7t, iE7f, iE8t, iE8f, iE9t, iE9f, iE10t, iE10f, iE11t, iE11f, iE12t, iE12f, iE13t, iE13f, iBt, iBf, i1_0, i0_0, i0_1, iSt, rm9, rm4, rm100002, rm2, rm5, rm10002, rm200, rm502, rm20, rm30000, rm3, rm4000, rm3000, rm11, rm13, rm40, rm6, rq4_3, rq4_120, rq2_3, rq2_90, rq7_5, rq7_10002, rq7_60, rq5_4, rq9_5, rq45_11, rq45_3, rq9_102, rq4_9, rq36_10, rq36_3, rq11_12, rq132_102, rq11_30, rq396_3, rq40_9, rq40_6, mu2, mu1700, mu1701, mu167, mv10, mv51, mv4, mv8, mv32, mv128, ad1, ad100, ad60, ad5, ad8, ad12, ad16, ad24, ad32, ad40, ad48, nI_add, nI_1, ap2, ap3, ap4, ap5, ap6]
      try rfl
    · rw [if_neg d]
      simp (disch := omega) only [↓reduceIte, ite_self, iL8t, iL8f, iL4t, iL4f, iL3t, iL3f, iL100001t, iL100001f, iL10001t, iL10001f, iL501t, iL501f, iL100000001t, iL100000001f, iL10t, iL10f, iL10000001t, iL10000001f, iL101t, iL101f, iL100t, iL100f, iL51t, iL51f, iL9t, iL9f, iL1t, iL1f, iL2t, iL2f, iL7t, iL7f, iL29t, iL29f, iR0t, iR0f, iR100t, iR100f, iR10t, iR10f, iE0t, iE0f, iE1t, iE1f, iE2t, iE2f, iE3t, iE3f, iE4t, iE4f, iE5t, iE5f, iE6t, iE6f, iE7t, iE7f, iE8t, iE8f, iE9t, iE9f, iE10t, iE10f, iE11t, iE11f, iE12t, iE12f, iE13t, iE13f, iBt, iBf, i1_0, i0_0, i0_1, iSt, rm9, rm4, rm100002, rm2, rm5, rm10002, rm200, rm502, rm20, rm30000, rm3, rm4000, rm3000, rm11, rm13, rm40, rm6, rq4_3, rq4_120, rq2_3, rq2_90, rq7_5, rq7_10002, rq7_60, rq5_4, rq9_5, rq45_11, rq45_3, rq9_102, rq4_9, rq36_10, rq36_3, rq11_12, rq132_102, rq11_30, rq396_3, rq40_9, rq40_6, mu2, mu1700, mu1701, mu167, mv10, mv51, mv4, mv8, mv32, mv128, ad1, ad100, ad60, ad5, ad8, ad12, ad16, ad24, ad32, ad40, ad48, nI_add, nI_1, ap2, ap3, ap4, ap5, ap6]
      try rfl
  · rw [if_neg c]
    by_cases d : two % 13 = 12
    · rw [if_pos d]
      simp (disch := omega) only [↓reduceIte, ite_self, iL8t, iL8f, iL4t, iL4f, iL3t, iL3f, iL100001t, iL100001f, iL10001t, iL10001f, iL501t, iL501f, iL100000001t, iL100000001f, iL10t, iL10f, iL10000001t, iL10000001f, iL101t, iL101f, iL100t, iL100f, iL51t, iL51f, iL9t, iL9f, iL1t, iL1f, iL2t, iL2f, iL7t, iL7f, iL29t, iL29f, iR0t, iR0f, iR100t, iR100f, iR10t, iR10f, iE0t, iE0f, iE1t, iE1f, iE2t, iE2f, iE3t, iE3f, iE4t, iE4f, iE5t, iE5f, iE6t, iE6f, iE7t, iE7f, iE8t, iE8f, iE9t, iE9f, iE10t, iE10f, iE11t, iE11f, iE12t, iE12f, iE13t, iE13f, iBt, iBf, i1_0, i0_0, i0_1, iSt, rm9, rm4, rm100002, rm2, rm5, rm10002, rm200, rm502, rm20, rm30000, rm3, rm4000, rm3000, rm11, rm13, rm40, rm6, rq4_3, rq4_120, rq2_3, rq2_90, rq7_5, rq7_10002, rq7_60, rq5_4, rq9_5, rq45_11, rq45_3, rq9_102, rq4_9, rq36_10, rq36_3, rq11_12, rq132_102, rq11_30, rq396_3, rq40_9, rq40_6, mu2, mu1700, mu1701, mu167, mv10, mv51, mv4, mv8, mv32, mv128, ad1, ad100, ad60, ad5, ad8, ad12, ad16, ad24, ad32, ad40, ad48, nI_add, nI_1, ap2, ap3, ap4, ap5, ap6]
      try rfl
    · rw [if_neg d]
      simp (disch := omega) only [↓reduceIte, ite_self, iL8t, iL8f, iL4t, iL4f, iL3t, iL3f, iL100001t, iL100001f, iL10001t, iL10001f, iL501t, iL501f, iL100000001t, iL100000001f, iL10t, iL10f, iL10000001t, iL10000001f, iL101t, iL101f, iL100t, iL100f, iL51t, iL51f, iL9t, iL9f, iL1t, iL1f, iL2t, iL2f, iL7t, iL7f, iL29t, iL29f, iR0t, iR0f, iR100t, iR100f, iR10t, iR10f, iE0t, iE0f, iE1t, iE1f, iE2t, iE2f, iE3t, iE3f, iE4t, iE4f, iE5t, iE5f, iE6t, iE6f, iE7t, iE7f, iE8t, iE8f, iE9t, iE9f, iE10t, iE10f, iE11t, iE11f, iE12t, iE12f, iE13t, iE13f, iBt, iBf, i1_0, i0_0, i0_1, iSt, rm9, rm4, rm100002, rm2, rm5, rm10002, rm200, rm502, rm20, rm30000, rm3, rm4000, rm3000, rm11, rm13, rm40, rm6, rq4_3, rq4_120, rq2_3, rq2_90, rq7_5, rq7_10002, rq7_60, rq5_4, rq9_5, rq45_11, rq45_3, rq9_102, rq4_9, rq36_10, rq36_3, rq11_12, rq132_102, rq11_30, rq396_3, rq40_9, rq40_6, mu2, mu1700, mu1701, mu167, mv10, mv51, mv4, mv8, mv32, mv128, ad1, ad100, ad60, ad5, ad8, ad12, ad16, ad24, ad32, ad40, ad48, nI_add, nI_1, ap2, ap3, ap4, ap5, ap6]
      try rfl
theorem l_961 {two ha : Nat} {x21 s0 : Int32} {one bu : Nat} : f_L_isSale_961 N (nI one) (nI two) (nI bu) (nI ha) x21 s0 M = f_L_isSale_982 N (nI two) (nI ha) x21 s0 (nI bu) M ∨ (¬ s0 < 0 ∧ f_L_isSale_961 N (nI one) (nI two) (nI bu) (nI ha) x21 s0 M = f_L_isSale_982 N (nI two) (nI ha) x21 s0 s0 M) := by
  unfold f_L_isSale_961 f_L_isSale_980
  by_cases c : s0 < 0
  · rw [if_pos c]; exact Or.inl rfl
  · rw [if_neg c]
    split
    · exact Or.inl rfl
    · exact Or.inr ⟨c, rfl⟩
theorem t_769t {bu ha one two : Nat} (hN : 600 ≤ N) (H : PK T0 nb nl nr tn dn M R) (I : INV M R) (hbu : bu < 9) (hha2 : ha < 4) (ht2 : two < 2 ^ 31) {x20 : Int32} : ∃ M2 R2, f_L_isSale_769 N 7 (nI one) (nI two) (nI bu) (nI ha) x20 (if ha < 3 then nI (8 * ha) else 0) M = some (1, M2) ∧ INV M2 R2 ∧ PK T0 nb nl nr tn dn M2 R2 := by
  unfold f_L_isSale_769
  rw [if_pos (show (7 : Int32) ≤ 7 by decide), if_neg (show ¬ (9 : Int32) ≤ 7 by decide)]
  by_cases c : ha < 3
  · obtain ⟨-, s2⟩ := (pq_ha H) ha c
    obtain ⟨a1, a2, a3, a4, a5, a6, -⟩ := s2 trivial
    rw [if_pos c]
    simp (disch := omega) only [iL8t, iL8f, iL3t, iL3f, i1_0, i0_0, gq_b_s, gq_l_e, iSt, ↓reduceIte, g_bb1, g_inN, nI_clamp, nI_1, nI_add, ap2, ap6, ad24, ad40, mv8, ap4, a4]
    rcases l_961 (N := N) (M := M) (one := one) (two := two) (bu := bu) (ha := ha) (x21 := nI (8 * ha)) (s0 := R 39 ha) with e | ⟨e1, e⟩
    · rw [e]
      exact t_take hN H I hbu hha2 ht2 (fun _ => ⟨rfl, rfl⟩)
    · rw [e]
      rcases a6 with a6 | ⟨w, w1, w2⟩
      · rw [a6] at e1
        exact absurd (show (-1 : Int32) < 0 by decide) e1
      · have T := t_take (x21 := nI (8 * ha)) (x22 := R 39 ha) (bu := w) hN H I (by omega) hha2 ht2 (fun _ => ⟨rfl, rfl⟩)
        rw [← w2] at T
        exact T
  · rw [if_neg c]
    simp (disch := omega) only [iL8t, iL8f, iL3t, iL3f, i1_0, i0_0, gq_b_s, gq_l_e, iSt, ↓reduceIte, g_bb1, g_inN, nI_clamp, nI_1, nI_add, ap2, ap6, ad24, ad40, mv8]
    rcases l_961 (N := N) (M := M) (one := one) (two := two) (bu := bu) (ha := ha) (x21 := 0) (s0 := -1) with e | ⟨e1, e⟩
    · rw [e]
      exact t_take hN H I hbu hha2 ht2 (fun z => absurd z c)
    · exact absurd (show (-1 : Int32) < 0 by decide) e1
theorem t_769l {one two : Nat} {bu : Nat} {x19 x20 s0 : Int32} (hN : 600 ≤ N) (H : PK T0 nb nl nr tn dn M R) (I : INV M R) (hbu : bu < 9) (ho : one < 60000) (ht2 : two < 60000) : ∃ M2 R2 nb2 nr2, f_L_isSale_769 N 9 (nI one) (nI two) (nI bu) x19 x20 s0 M = some (1, M2) ∧ INV M2 R2 ∧ PK T0 nb2 nl nr2 tn dn M2 R2 := by
  have htn : M 119 0 = nI tn ∧ tn ≤ 3000 := by
    obtain ⟨hnb, hnl, hnr, htn, hdn, hop, hdr, hkd, hby, hqu, hbt, hha, hpr, hbx, hbz, hlt, hlo⟩ := H
    exact ⟨htn.1, htn.2.2⟩
  have hnr : M 119 6 = nI nr ∧ nr ≤ 10 := by
    obtain ⟨hnb, hnl, hnr, htn, hdn, hop, hdr, hkd, hby, hqu, hbt, hha, hpr, hbx, hbz, hlt, hlo⟩ := H
    exact ⟨hnr.1, hnr.2.2⟩
  unfold f_L_isSale_769
  rw [if_pos (show (7 : Int32) ≤ 9 by decide), if_pos (show (9 : Int32) ≤ 9 by decide), gz6_56, cl6, gq_l_e, hnr.1]
  by_cases c : nr = 10
  · rw [iE10t c]
    exact ⟨M, R, nb, nr, rfl, I, H⟩
  · rw [iE10f c (by omega), gi0_56, cl0, gq_l_e, htn.1]
    by_cases d : two / 40 % 9 = 0
    · simp (disch := omega) only [↓reduceIte, ite_self, iL8t, iL8f, iL4t, iL4f, iL3t, iL3f, iL100001t, iL100001f, iL10001t, iL10001f, iL501t, iL501f, iL100000001t, iL100000001f, iL10t, iL10f, iL10000001t, iL10000001f, iL101t, iL101f, iL100t, iL100f, iL51t, iL51f, iL9t, iL9f, iL1t, iL1f, iL2t, iL2f, iL7t, iL7f, iL29t, iL29f, iR0t, iR0f, iR100t, iR100f, iR10t, iR10f, iE0t, iE0f, iE1t, iE1f, iE2t, iE2f, iE3t, iE3f, iE4t, iE4f, iE5t, iE5f, iE6t, iE6f, iE7t, iE7f, iE8t, iE8f, iE9t, iE9f, iE10t, iE10f, iE11t, iE11f, iE12t, iE12f, iE13t, iE13f, iBt, iBf, i1_0, i0_0, i0_1, iSt, rm9, rm4, rm100002, rm2, rm5, rm10002, rm200, rm502, rm20, rm30000, rm3, rm4000, rm3000, rm11, rm13, rm40, rm6, rq4_3, rq4_120, rq2_3, rq2_90, rq7_5, rq7_10002, rq7_60, rq5_4, rq9_5, rq45_11, rq45_3, rq9_102, rq4_9, rq36_10, rq36_3, rq11_12, rq132_102, rq11_30, rq396_3, rq40_9, rq40_6, mu2, mu1700, mu1701, mu167, mv10, mv51, mv4, mv8, mv32, mv128, ad1, ad100, ad60, ad5, ad8, ad12, ad16, ad24, ad32, ad40, ad48, nI_add, nI_1, ap2, ap3, ap4, ap5, ap6]
      exact t_lorry hN H I (by omega) hbu (by omega) (by omega)
    · simp (disch := omega) only [↓reduceIte, ite_self, iL8t, iL8f, iL4t, iL4f, iL3t, iL3f, iL100001t, iL100001f, iL10001t, iL10001f, iL501t, iL501f, iL100000001t, iL100000001f, iL10t, iL10f, iL10000001t, iL10000001f, iL101t, iL101f, iL100t, iL100f, iL51t, iL51f, iL9t, iL9f, iL1t, iL1f, iL2t, iL2f, iL7t, iL7f, iL29t, iL29f, iR0t, iR0f, iR100t, iR100f, iR10t, iR10f, iE0t, iE0f, iE1t, iE1f, iE2t, iE2f, iE3t, iE3f, iE4t, iE4f, iE5t, iE5f, iE6t, iE6f, iE7t, iE7f, iE8t, iE8f, iE9t, iE9f, iE10t, iE10f, iE11t, iE11f, iE12t, iE12f, iE13t, iE13f, iBt, iBf, i1_0, i0_0, i0_1, iSt, rm9, rm4, rm100002, rm2, rm5, rm10002, rm200, rm502, rm20, rm30000, rm3, rm4000, rm3000, rm11, rm13, rm40, rm6, rq4_3, rq4_120, rq2_3, rq2_90, rq7_5, rq7_10002, rq7_60, rq5_4, rq9_5, rq45_11, rq45_3, rq9_102, rq4_9, rq36_10, rq36_3, rq11_12, rq132_102, rq11_30, rq396_3, rq40_9, rq40_6, mu2, mu1700, mu1701, mu167, mv10, mv51, mv4, mv8, mv32, mv128, ad1, ad100, ad60, ad5, ad8, ad12, ad16, ad24, ad32, ad40, ad48, nI_add, nI_1, ap2, ap3, ap4, ap5, ap6]
      exact t_lorry hN H I (by omega) hbu (by omega) (by omega)
theorem s_sale2 {one two : Nat} {hw : Int32} (hN : 600 ≤ N) (H : PK T0 nb nl nr tn dn M R) (I : INV M R) (hdn2 : dn < 100) (ho : one < 60000) (ht : two < 60000) (hh : hw = 0 ∨ hw = 1 ∨ hw = 2 ∨ hw = 3 ∨ hw = 7 ∨ hw = 9) : ∃ M2 R2 nb2 nl2 nr2 dn2, f_L_isSale N hw (nI one) (nI two) M = some (1, M2) ∧ INV M2 R2 ∧ PK T0 nb2 nl2 nr2 tn dn2 M2 R2 ∧ dn2 ≤ dn + 1 := by
  have hnb := pq_nb H
  have opn : ∀ x15, ¬ (2 : Int32) ≤ x15 → ∃ M2 R2 nb2 nl2 nr2 dn2, f_L_isSale_409 N x15 (nI one) (nI two) M = some (1, M2) ∧ INV M2 R2 ∧ PK T0 nb2 nl2 nr2 tn dn2 M2 R2 ∧ dn2 ≤ dn + 1 := fun x15 hx => by
    obtain ⟨M2, R2, nl2, h1, h2, h3⟩ := t_open (x16 := nI one) (x17 := nI two) hN H I hx
    exact ⟨M2, R2, nb, nl2, nr, dn, h1, h2, h3, by omega⟩
  unfold f_L_isSale
  rcases hh with rfl | rfl | rfl | rfl | rfl | rfl
  · rw [if_pos rfl, gi4_56, cl4, gq_l_e, hnb.1]
    by_cases c : nb < 40
    · have lnd : ∀ bo ki si fr kl, bo < 9 → ki < 4 → si < 2 ^ 31 → fr < 2 ^ 31 → kl < 2 ^ 31 → ∃ M2 R2 nb2 nl2 nr2 dn2, f_L_isSale_128 N (nI one) (nI bo) (nI ki) (nI si) (nI fr) (nI kl) M = some (1, M2) ∧ INV M2 R2 ∧ PK T0 nb2 nl2 nr2 tn dn2 M2 R2 ∧ dn2 ≤ dn + 1 := fun bo ki si fr kl q1 q2 q3 q4 q5 => by
        obtain ⟨M2, R2, nb2, nr2, h1, h2, h3⟩ := t_landing (one := one) hN H I c (by omega) q1 q2 q3 q4 q5
        exact ⟨M2, R2, nb2, nl, nr2, dn, h1, h2, h3, by omega⟩
      have c40 : ¬ (40 : Int32) ≤ nI nb := fun z => by have := (nI_leI (a := 40) (by omega) (by omega)).mp z; omega
      rw [if_neg c40]
      by_cases c1 : one % 11 = 10
      · skip
        by_cases c2 : two / 4 % 9 = 0
        · skip
          by_cases c3 : two / 36 % 10 = 0
          · skip
            by_cases c4 : one / 11 % 12 = 0
            · skip
              simp (disch := omega) only [f_L_isSale_33, f_L_isSale_61, f_L_isSale_93, ↓reduceIte, ite_self, iL8t, iL8f, iL4t, iL4f, iL3t, iL3f, iL100001t, iL100001f, iL10001t, iL10001f, iL501t, iL501f, iL100000001t, iL100000001f, iL10t, iL10f, iL10000001t, iL10000001f, iL101t, iL101f, iL100t, iL100f, iL51t, iL51f, iL9t, iL9f, iL1t, iL1f, iL2t, iL2f, iL7t, iL7f, iL29t, iL29f, iR0t, iR0f, iR100t, iR100f, iR10t, iR10f, iE0t, iE0f, iE1t, iE1f, iE2t, iE2f, iE3t, iE3f, iE4t, iE4f, iE5t, iE5f, iE6t, iE6f, iE7t, iE7f, iE8t, iE8f, iE9t, iE9f, iE10t, iE10f, iE11t, iE11f, iE12t, iE12f, iE13t, iE13f, iBt, iBf, i1_0, i0_0, i0_1, iSt, rm9, rm4, rm100002, rm2, rm5, rm10002, rm200, rm502, rm20, rm30000, rm3, rm4000, rm3000, rm11, rm13, rm40, rm6, rq4_3, rq4_120, rq2_3, rq2_90, rq7_5, rq7_10002, rq7_60, rq5_4, rq9_5, rq45_11, rq45_3, rq9_102, rq4_9, rq36_10, rq36_3, rq11_12, rq132_102, rq11_30, rq396_3, rq40_9, rq40_6, mu2, mu1700, mu1701, mu167, mv10, mv51, mv4, mv8, mv32, mv128, ad1, ad100, ad60, ad5, ad8, ad12, ad16, ad24, ad32, ad40, ad48, nI_add, nI_1, ap2, ap3, ap4, ap5, ap6]
              exact lnd 8 (two % 4) 3 (10 * (one % 2)) (one / 132 % 102) (by omega) (by omega) (by omega) (by omega) (by omega)
            · skip
              simp (disch := omega) only [f_L_isSale_33, f_L_isSale_61, f_L_isSale_93, ↓reduceIte, ite_self, iL8t, iL8f, iL4t, iL4f, iL3t, iL3f, iL100001t, iL100001f, iL10001t, iL10001f, iL501t, iL501f, iL100000001t, iL100000001f, iL10t, iL10f, iL10000001t, iL10000001f, iL101t, iL101f, iL100t, iL100f, iL51t, iL51f, iL9t, iL9f, iL1t, iL1f, iL2t, iL2f, iL7t, iL7f, iL29t, iL29f, iR0t, iR0f, iR100t, iR100f, iR10t, iR10f, iE0t, iE0f, iE1t, iE1f, iE2t, iE2f, iE3t, iE3f, iE4t, iE4f, iE5t, iE5f, iE6t, iE6f, iE7t, iE7f, iE8t, iE8f, iE9t, iE9f, iE10t, iE10f, iE11t, iE11f, iE12t, iE12f, iE13t, iE13f, iBt, iBf, i1_0, i0_0, i0_1, iSt, rm9, rm4, rm100002, rm2, rm5, rm10002, rm200, rm502, rm20, rm30000, rm3, rm4000, rm3000, rm11, rm13, rm40, rm6, rq4_3, rq4_120, rq2_3, rq2_90, rq7_5, rq7_10002, rq7_60, rq5_4, rq9_5, rq45_11, rq45_3, rq9_102, rq4_9, rq36_10, rq36_3, rq11_12, rq132_102, rq11_30, rq396_3, rq40_9, rq40_6, mu2, mu1700, mu1701, mu167, mv10, mv51, mv4, mv8, mv32, mv128, ad1, ad100, ad60, ad5, ad8, ad12, ad16, ad24, ad32, ad40, ad48, nI_add, nI_1, ap2, ap3, ap4, ap5, ap6]
              exact lnd 8 (two % 4) 3 (10 * (one % 2)) (5 + one / 11 % 30) (by omega) (by omega) (by omega) (by omega) (by omega)
          · skip
            by_cases c4 : one / 11 % 12 = 0
            · skip
              simp (disch := omega) only [f_L_isSale_33, f_L_isSale_61, f_L_isSale_93, ↓reduceIte, ite_self, iL8t, iL8f, iL4t, iL4f, iL3t, iL3f, iL100001t, iL100001f, iL10001t, iL10001f, iL501t, iL501f, iL100000001t, iL100000001f, iL10t, iL10f, iL10000001t, iL10000001f, iL101t, iL101f, iL100t, iL100f, iL51t, iL51f, iL9t, iL9f, iL1t, iL1f, iL2t, iL2f, iL7t, iL7f, iL29t, iL29f, iR0t, iR0f, iR100t, iR100f, iR10t, iR10f, iE0t, iE0f, iE1t, iE1f, iE2t, iE2f, iE3t, iE3f, iE4t, iE4f, iE5t, iE5f, iE6t, iE6f, iE7t, iE7f, iE8t, iE8f, iE9t, iE9f, iE10t, iE10f, iE11t, iE11f, iE12t, iE12f, iE13t, iE13f, iBt, iBf, i1_0, i0_0, i0_1, iSt, rm9, rm4, rm100002, rm2, rm5, rm10002, rm200, rm502, rm20, rm30000, rm3, rm4000, rm3000, rm11, rm13, rm40, rm6, rq4_3, rq4_120, rq2_3, rq2_90, rq7_5, rq7_10002, rq7_60, rq5_4, rq9_5, rq45_11, rq45_3, rq9_102, rq4_9, rq36_10, rq36_3, rq11_12, rq132_102, rq11_30, rq396_3, rq40_9, rq40_6, mu2, mu1700, mu1701, mu167, mv10, mv51, mv4, mv8, mv32, mv128, ad1, ad100, ad60, ad5, ad8, ad12, ad16, ad24, ad32, ad40, ad48, nI_add, nI_1, ap2, ap3, ap4, ap5, ap6]
              exact lnd 8 (two % 4) 3 (1 + two / 36 % 3) (one / 132 % 102) (by omega) (by omega) (by omega) (by omega) (by omega)
            · skip
              simp (disch := omega) only [f_L_isSale_33, f_L_isSale_61, f_L_isSale_93, ↓reduceIte, ite_self, iL8t, iL8f, iL4t, iL4f, iL3t, iL3f, iL100001t, iL100001f, iL10001t, iL10001f, iL501t, iL501f, iL100000001t, iL100000001f, iL10t, iL10f, iL10000001t, iL10000001f, iL101t, iL101f, iL100t, iL100f, iL51t, iL51f, iL9t, iL9f, iL1t, iL1f, iL2t, iL2f, iL7t, iL7f, iL29t, iL29f, iR0t, iR0f, iR100t, iR100f, iR10t, iR10f, iE0t, iE0f, iE1t, iE1f, iE2t, iE2f, iE3t, iE3f, iE4t, iE4f, iE5t, iE5f, iE6t, iE6f, iE7t, iE7f, iE8t, iE8f, iE9t, iE9f, iE10t, iE10f, iE11t, iE11f, iE12t, iE12f, iE13t, iE13f, iBt, iBf, i1_0, i0_0, i0_1, iSt, rm9, rm4, rm100002, rm2, rm5, rm10002, rm200, rm502, rm20, rm30000, rm3, rm4000, rm3000, rm11, rm13, rm40, rm6, rq4_3, rq4_120, rq2_3, rq2_90, rq7_5, rq7_10002, rq7_60, rq5_4, rq9_5, rq45_11, rq45_3, rq9_102, rq4_9, rq36_10, rq36_3, rq11_12, rq132_102, rq11_30, rq396_3, rq40_9, rq40_6, mu2, mu1700, mu1701, mu167, mv10, mv51, mv4, mv8, mv32, mv128, ad1, ad100, ad60, ad5, ad8, ad12, ad16, ad24, ad32, ad40, ad48, nI_add, nI_1, ap2, ap3, ap4, ap5, ap6]
              exact lnd 8 (two % 4) 3 (1 + two / 36 % 3) (5 + one / 11 % 30) (by omega) (by omega) (by omega) (by omega) (by omega)
        · skip
          by_cases c3 : two / 36 % 10 = 0
          · skip
            by_cases c4 : one / 11 % 12 = 0
            · skip
              simp (disch := omega) only [f_L_isSale_33, f_L_isSale_61, f_L_isSale_93, ↓reduceIte, ite_self, iL8t, iL8f, iL4t, iL4f, iL3t, iL3f, iL100001t, iL100001f, iL10001t, iL10001f, iL501t, iL501f, iL100000001t, iL100000001f, iL10t, iL10f, iL10000001t, iL10000001f, iL101t, iL101f, iL100t, iL100f, iL51t, iL51f, iL9t, iL9f, iL1t, iL1f, iL2t, iL2f, iL7t, iL7f, iL29t, iL29f, iR0t, iR0f, iR100t, iR100f, iR10t, iR10f, iE0t, iE0f, iE1t, iE1f, iE2t, iE2f, iE3t, iE3f, iE4t, iE4f, iE5t, iE5f, iE6t, iE6f, iE7t, iE7f, iE8t, iE8f, iE9t, iE9f, iE10t, iE10f, iE11t, iE11f, iE12t, iE12f, iE13t, iE13f, iBt, iBf, i1_0, i0_0, i0_1, iSt, rm9, rm4, rm100002, rm2, rm5, rm10002, rm200, rm502, rm20, rm30000, rm3, rm4000, rm3000, rm11, rm13, rm40, rm6, rq4_3, rq4_120, rq2_3, rq2_90, rq7_5, rq7_10002, rq7_60, rq5_4, rq9_5, rq45_11, rq45_3, rq9_102, rq4_9, rq36_10, rq36_3, rq11_12, rq132_102, rq11_30, rq396_3, rq40_9, rq40_6, mu2, mu1700, mu1701, mu167, mv10, mv51, mv4, mv8, mv32, mv128, ad1, ad100, ad60, ad5, ad8, ad12, ad16, ad24, ad32, ad40, ad48, nI_add, nI_1, ap2, ap3, ap4, ap5, ap6]
              exact lnd 8 (two % 4) (two / 4 % 3) (10 * (one % 2)) (one / 132 % 102) (by omega) (by omega) (by omega) (by omega) (by omega)
            · skip
              simp (disch := omega) only [f_L_isSale_33, f_L_isSale_61, f_L_isSale_93, ↓reduceIte, ite_self, iL8t, iL8f, iL4t, iL4f, iL3t, iL3f, iL100001t, iL100001f, iL10001t, iL10001f, iL501t, iL501f, iL100000001t, iL100000001f, iL10t, iL10f, iL10000001t, iL10000001f, iL101t, iL101f, iL100t, iL100f, iL51t, iL51f, iL9t, iL9f, iL1t, iL1f, iL2t, iL2f, iL7t, iL7f, iL29t, iL29f, iR0t, iR0f, iR100t, iR100f, iR10t, iR10f, iE0t, iE0f, iE1t, iE1f, iE2t, iE2f, iE3t, iE3f, iE4t, iE4f, iE5t, iE5f, iE6t, iE6f, iE7t, iE7f, iE8t, iE8f, iE9t, iE9f, iE10t, iE10f, iE11t, iE11f, iE12t, iE12f, iE13t, iE13f, iBt, iBf, i1_0, i0_0, i0_1, iSt, rm9, rm4, rm100002, rm2, rm5, rm10002, rm200, rm502, rm20, rm30000, rm3, rm4000, rm3000, rm11, rm13, rm40, rm6, rq4_3, rq4_120, rq2_3, rq2_90, rq7_5, rq7_10002, rq7_60, rq5_4, rq9_5, rq45_11, rq45_3, rq9_102, rq4_9, rq36_10, rq36_3, rq11_12, rq132_102, rq11_30, rq396_3, rq40_9, rq40_6, mu2, mu1700, mu1701, mu167, mv10, mv51, mv4, mv8, mv32, mv128, ad1, ad100, ad60, ad5, ad8, ad12, ad16, ad24, ad32, ad40, ad48, nI_add, nI_1, ap2, ap3, ap4, ap5, ap6]
              exact lnd 8 (two % 4) (two / 4 % 3) (10 * (one % 2)) (5 + one / 11 % 30) (by omega) (by omega) (by omega) (by omega) (by omega)
          · skip
            by_cases c4 : one / 11 % 12 = 0
            · skip
              simp (disch := omega) only [f_L_isSale_33, f_L_isSale_61, f_L_isSale_93, ↓reduceIte, ite_self, iL8t, iL8f, iL4t, iL4f, iL3t, iL3f, iL100001t, iL100001f, iL10001t, iL10001f, iL501t, iL501f, iL100000001t, iL100000001f, iL10t, iL10f, iL10000001t, iL10000001f, iL101t, iL101f, iL100t, iL100f, iL51t, iL51f, iL9t, iL9f, iL1t, iL1f, iL2t, iL2f, iL7t, iL7f, iL29t, iL29f, iR0t, iR0f, iR100t, iR100f, iR10t, iR10f, iE0t, iE0f, iE1t, iE1f, iE2t, iE2f, iE3t, iE3f, iE4t, iE4f, iE5t, iE5f, iE6t, iE6f, iE7t, iE7f, iE8t, iE8f, iE9t, iE9f, iE10t, iE10f, iE11t, iE11f, iE12t, iE12f, iE13t, iE13f, iBt, iBf, i1_0, i0_0, i0_1, iSt, rm9, rm4, rm100002, rm2, rm5, rm10002, rm200, rm502, rm20, rm30000, rm3, rm4000, rm3000, rm11, rm13, rm40, rm6, rq4_3, rq4_120, rq2_3, rq2_90, rq7_5, rq7_10002, rq7_60, rq5_4, rq9_5, rq45_11, rq45_3, rq9_102, rq4_9, rq36_10, rq36_3, rq11_12, rq132_102, rq11_30, rq396_3, rq40_9, rq40_6, mu2, mu1700, mu1701, mu167, mv10, mv51, mv4, mv8, mv32, mv128, ad1, ad100, ad60, ad5, ad8, ad12, ad16, ad24, ad32, ad40, ad48, nI_add, nI_1, ap2, ap3, ap4, ap5, ap6]
              exact lnd 8 (two % 4) (two / 4 % 3) (1 + two / 36 % 3) (one / 132 % 102) (by omega) (by omega) (by omega) (by omega) (by omega)
            · skip
              simp (disch := omega) only [f_L_isSale_33, f_L_isSale_61, f_L_isSale_93, ↓reduceIte, ite_self, iL8t, iL8f, iL4t, iL4f, iL3t, iL3f, iL100001t, iL100001f, iL10001t, iL10001f, iL501t, iL501f, iL100000001t, iL100000001f, iL10t, iL10f, iL10000001t, iL10000001f, iL101t, iL101f, iL100t, iL100f, iL51t, iL51f, iL9t, iL9f, iL1t, iL1f, iL2t, iL2f, iL7t, iL7f, iL29t, iL29f, iR0t, iR0f, iR100t, iR100f, iR10t, iR10f, iE0t, iE0f, iE1t, iE1f, iE2t, iE2f, iE3t, iE3f, iE4t, iE4f, iE5t, iE5f, iE6t, iE6f, iE7t, iE7f, iE8t, iE8f, iE9t, iE9f, iE10t, iE10f, iE11t, iE11f, iE12t, iE12f, iE13t, iE13f, iBt, iBf, i1_0, i0_0, i0_1, iSt, rm9, rm4, rm100002, rm2, rm5, rm10002, rm200, rm502, rm20, rm30000, rm3, rm4000, rm3000, rm11, rm13, rm40, rm6, rq4_3, rq4_120, rq2_3, rq2_90, rq7_5, rq7_10002, rq7_60, rq5_4, rq9_5, rq45_11, rq45_3, rq9_102, rq4_9, rq36_10, rq36_3, rq11_12, rq132_102, rq11_30, rq396_3, rq40_9, rq40_6, mu2, mu1700, mu1701, mu167, mv10, mv51, mv4, mv8, mv32, mv128, ad1, ad100, ad60, ad5, ad8, ad12, ad16, ad24, ad32, ad40, ad48, nI_add, nI_1, ap2, ap3, ap4, ap5, ap6]
              exact lnd 8 (two % 4) (two / 4 % 3) (1 + two / 36 % 3) (5 + one / 11 % 30) (by omega) (by omega) (by omega) (by omega) (by omega)
      · skip
        by_cases c2 : two / 4 % 9 = 0
        · skip
          by_cases c3 : two / 36 % 10 = 0
          · skip
            by_cases c4 : one / 11 % 12 = 0
            · skip
              simp (disch := omega) only [f_L_isSale_33, f_L_isSale_61, f_L_isSale_93, ↓reduceIte, ite_self, iL8t, iL8f, iL4t, iL4f, iL3t, iL3f, iL100001t, iL100001f, iL10001t, iL10001f, iL501t, iL501f, iL100000001t, iL100000001f, iL10t, iL10f, iL10000001t, iL10000001f, iL101t, iL101f, iL100t, iL100f, iL51t, iL51f, iL9t, iL9f, iL1t, iL1f, iL2t, iL2f, iL7t, iL7f, iL29t, iL29f, iR0t, iR0f, iR100t, iR100f, iR10t, iR10f, iE0t, iE0f, iE1t, iE1f, iE2t, iE2f, iE3t, iE3f, iE4t, iE4f, iE5t, iE5f, iE6t, iE6f, iE7t, iE7f, iE8t, iE8f, iE9t, iE9f, iE10t, iE10f, iE11t, iE11f, iE12t, iE12f, iE13t, iE13f, iBt, iBf, i1_0, i0_0, i0_1, iSt, rm9, rm4, rm100002, rm2, rm5, rm10002, rm200, rm502, rm20, rm30000, rm3, rm4000, rm3000, rm11, rm13, rm40, rm6, rq4_3, rq4_120, rq2_3, rq2_90, rq7_5, rq7_10002, rq7_60, rq5_4, rq9_5, rq45_11, rq45_3, rq9_102, rq4_9, rq36_10, rq36_3, rq11_12, rq132_102, rq11_30, rq396_3, rq40_9, rq40_6, mu2, mu1700, mu1701, mu167, mv10, mv51, mv4, mv8, mv32, mv128, ad1, ad100, ad60, ad5, ad8, ad12, ad16, ad24, ad32, ad40, ad48, nI_add, nI_1, ap2, ap3, ap4, ap5, ap6]
              exact lnd (one % 4) (two % 4) 3 (10 * (one % 2)) (one / 132 % 102) (by omega) (by omega) (by omega) (by omega) (by omega)
            · skip
              simp (disch := omega) only [f_L_isSale_33, f_L_isSale_61, f_L_isSale_93, ↓reduceIte, ite_self, iL8t, iL8f, iL4t, iL4f, iL3t, iL3f, iL100001t, iL100001f, iL10001t, iL10001f, iL501t, iL501f, iL100000001t, iL100000001f, iL10t, iL10f, iL10000001t, iL10000001f, iL101t, iL101f, iL100t, iL100f, iL51t, iL51f, iL9t, iL9f, iL1t, iL1f, iL2t, iL2f, iL7t, iL7f, iL29t, iL29f, iR0t, iR0f, iR100t, iR100f, iR10t, iR10f, iE0t, iE0f, iE1t, iE1f, iE2t, iE2f, iE3t, iE3f, iE4t, iE4f, iE5t, iE5f, iE6t, iE6f, iE7t, iE7f, iE8t, iE8f, iE9t, iE9f, iE10t, iE10f, iE11t, iE11f, iE12t, iE12f, iE13t, iE13f, iBt, iBf, i1_0, i0_0, i0_1, iSt, rm9, rm4, rm100002, rm2, rm5, rm10002, rm200, rm502, rm20, rm30000, rm3, rm4000, rm3000, rm11, rm13, rm40, rm6, rq4_3, rq4_120, rq2_3, rq2_90, rq7_5, rq7_10002, rq7_60, rq5_4, rq9_5, rq45_11, rq45_3, rq9_102, rq4_9, rq36_10, rq36_3, rq11_12, rq132_102, rq11_30, rq396_3, rq40_9, rq40_6, mu2, mu1700, mu1701, mu167, mv10, mv51, mv4, mv8, mv32, mv128, ad1, ad100, ad60, ad5, ad8, ad12, ad16, ad24, ad32, ad40, ad48, nI_add, nI_1, ap2, ap3, ap4, ap5, ap6]
              exact lnd (one % 4) (two % 4) 3 (10 * (one % 2)) (5 + one / 11 % 30) (by omega) (by omega) (by omega) (by omega) (by omega)
          · skip
            by_cases c4 : one / 11 % 12 = 0
            · skip
              simp (disch := omega) only [f_L_isSale_33, f_L_isSale_61, f_L_isSale_93, ↓reduceIte, ite_self, iL8t, iL8f, iL4t, iL4f, iL3t, iL3f, iL100001t, iL100001f, iL10001t, iL10001f, iL501t, iL501f, iL100000001t, iL100000001f, iL10t, iL10f, iL10000001t, iL10000001f, iL101t, iL101f, iL100t, iL100f, iL51t, iL51f, iL9t, iL9f, iL1t, iL1f, iL2t, iL2f, iL7t, iL7f, iL29t, iL29f, iR0t, iR0f, iR100t, iR100f, iR10t, iR10f, iE0t, iE0f, iE1t, iE1f, iE2t, iE2f, iE3t, iE3f, iE4t, iE4f, iE5t, iE5f, iE6t, iE6f, iE7t, iE7f, iE8t, iE8f, iE9t, iE9f, iE10t, iE10f, iE11t, iE11f, iE12t, iE12f, iE13t, iE13f, iBt, iBf, i1_0, i0_0, i0_1, iSt, rm9, rm4, rm100002, rm2, rm5, rm10002, rm200, rm502, rm20, rm30000, rm3, rm4000, rm3000, rm11, rm13, rm40, rm6, rq4_3, rq4_120, rq2_3, rq2_90, rq7_5, rq7_10002, rq7_60, rq5_4, rq9_5, rq45_11, rq45_3, rq9_102, rq4_9, rq36_10, rq36_3, rq11_12, rq132_102, rq11_30, rq396_3, rq40_9, rq40_6, mu2, mu1700, mu1701, mu167, mv10, mv51, mv4, mv8, mv32, mv128, ad1, ad100, ad60, ad5, ad8, ad12, ad16, ad24, ad32, ad40, ad48, nI_add, nI_1, ap2, ap3, ap4, ap5, ap6]
              exact lnd (one % 4) (two % 4) 3 (1 + two / 36 % 3) (one / 132 % 102) (by omega) (by omega) (by omega) (by omega) (by omega)
            · skip
              simp (disch := omega) only [f_L_isSale_33, f_L_isSale_61, f_L_isSale_93, ↓reduceIte, ite_self, iL8t, iL8f, iL4t, iL4f, iL3t, iL3f, iL100001t, iL100001f, iL10001t, iL10001f, iL501t, iL501f, iL100000001t, iL100000001f, iL10t, iL10f, iL10000001t, iL10000001f, iL101t, iL101f, iL100t, iL100f, iL51t, iL51f, iL9t, iL9f, iL1t, iL1f, iL2t, iL2f, iL7t, iL7f, iL29t, iL29f, iR0t, iR0f, iR100t, iR100f, iR10t, iR10f, iE0t, iE0f, iE1t, iE1f, iE2t, iE2f, iE3t, iE3f, iE4t, iE4f, iE5t, iE5f, iE6t, iE6f, iE7t, iE7f, iE8t, iE8f, iE9t, iE9f, iE10t, iE10f, iE11t, iE11f, iE12t, iE12f, iE13t, iE13f, iBt, iBf, i1_0, i0_0, i0_1, iSt, rm9, rm4, rm100002, rm2, rm5, rm10002, rm200, rm502, rm20, rm30000, rm3, rm4000, rm3000, rm11, rm13, rm40, rm6, rq4_3, rq4_120, rq2_3, rq2_90, rq7_5, rq7_10002, rq7_60, rq5_4, rq9_5, rq45_11, rq45_3, rq9_102, rq4_9, rq36_10, rq36_3, rq11_12, rq132_102, rq11_30, rq396_3, rq40_9, rq40_6, mu2, mu1700, mu1701, mu167, mv10, mv51, mv4, mv8, mv32, mv128, ad1, ad100, ad60, ad5, ad8, ad12, ad16, ad24, ad32, ad40, ad48, nI_add, nI_1, ap2, ap3, ap4, ap5, ap6]
              exact lnd (one % 4) (two % 4) 3 (1 + two / 36 % 3) (5 + one / 11 % 30) (by omega) (by omega) (by omega) (by omega) (by omega)
        · skip
          by_cases c3 : two / 36 % 10 = 0
          · skip
            by_cases c4 : one / 11 % 12 = 0
            · skip
              simp (disch := omega) only [f_L_isSale_33, f_L_isSale_61, f_L_isSale_93, ↓reduceIte, ite_self, iL8t, iL8f, iL4t, iL4f, iL3t, iL3f, iL100001t, iL100001f, iL10001t, iL10001f, iL501t, iL501f, iL100000001t, iL100000001f, iL10t, iL10f, iL10000001t, iL10000001f, iL101t, iL101f, iL100t, iL100f, iL51t, iL51f, iL9t, iL9f, iL1t, iL1f, iL2t, iL2f, iL7t, iL7f, iL29t, iL29f, iR0t, iR0f, iR100t, iR100f, iR10t, iR10f, iE0t, iE0f, iE1t, iE1f, iE2t, iE2f, iE3t, iE3f, iE4t, iE4f, iE5t, iE5f, iE6t, iE6f, iE7t, iE7f, iE8t, iE8f, iE9t, iE9f, iE10t, iE10f, iE11t, iE11f, iE12t, iE12f, iE13t, iE13f, iBt, iBf, i1_0, i0_0, i0_1, iSt, rm9, rm4, rm100002, rm2, rm5, rm10002, rm200, rm502, rm20, rm30000, rm3, rm4000, rm3000, rm11, rm13, rm40, rm6, rq4_3, rq4_120, rq2_3, rq2_90, rq7_5, rq7_10002, rq7_60, rq5_4, rq9_5, rq45_11, rq45_3, rq9_102, rq4_9, rq36_10, rq36_3, rq11_12, rq132_102, rq11_30, rq396_3, rq40_9, rq40_6, mu2, mu1700, mu1701, mu167, mv10, mv51, mv4, mv8, mv32, mv128, ad1, ad100, ad60, ad5, ad8, ad12, ad16, ad24, ad32, ad40, ad48, nI_add, nI_1, ap2, ap3, ap4, ap5, ap6]
              exact lnd (one % 4) (two % 4) (two / 4 % 3) (10 * (one % 2)) (one / 132 % 102) (by omega) (by omega) (by omega) (by omega) (by omega)
            · skip
              simp (disch := omega) only [f_L_isSale_33, f_L_isSale_61, f_L_isSale_93, ↓reduceIte, ite_self, iL8t, iL8f, iL4t, iL4f, iL3t, iL3f, iL100001t, iL100001f, iL10001t, iL10001f, iL501t, iL501f, iL100000001t, iL100000001f, iL10t, iL10f, iL10000001t, iL10000001f, iL101t, iL101f, iL100t, iL100f, iL51t, iL51f, iL9t, iL9f, iL1t, iL1f, iL2t, iL2f, iL7t, iL7f, iL29t, iL29f, iR0t, iR0f, iR100t, iR100f, iR10t, iR10f, iE0t, iE0f, iE1t, iE1f, iE2t, iE2f, iE3t, iE3f, iE4t, iE4f, iE5t, iE5f, iE6t, iE6f, iE7t, iE7f, iE8t, iE8f, iE9t, iE9f, iE10t, iE10f, iE11t, iE11f, iE12t, iE12f, iE13t, iE13f, iBt, iBf, i1_0, i0_0, i0_1, iSt, rm9, rm4, rm100002, rm2, rm5, rm10002, rm200, rm502, rm20, rm30000, rm3, rm4000, rm3000, rm11, rm13, rm40, rm6, rq4_3, rq4_120, rq2_3, rq2_90, rq7_5, rq7_10002, rq7_60, rq5_4, rq9_5, rq45_11, rq45_3, rq9_102, rq4_9, rq36_10, rq36_3, rq11_12, rq132_102, rq11_30, rq396_3, rq40_9, rq40_6, mu2, mu1700, mu1701, mu167, mv10, mv51, mv4, mv8, mv32, mv128, ad1, ad100, ad60, ad5, ad8, ad12, ad16, ad24, ad32, ad40, ad48, nI_add, nI_1, ap2, ap3, ap4, ap5, ap6]
              exact lnd (one % 4) (two % 4) (two / 4 % 3) (10 * (one % 2)) (5 + one / 11 % 30) (by omega) (by omega) (by omega) (by omega) (by omega)
          · skip
            by_cases c4 : one / 11 % 12 = 0
            · skip
              simp (disch := omega) only [f_L_isSale_33, f_L_isSale_61, f_L_isSale_93, ↓reduceIte, ite_self, iL8t, iL8f, iL4t, iL4f, iL3t, iL3f, iL100001t, iL100001f, iL10001t, iL10001f, iL501t, iL501f, iL100000001t, iL100000001f, iL10t, iL10f, iL10000001t, iL10000001f, iL101t, iL101f, iL100t, iL100f, iL51t, iL51f, iL9t, iL9f, iL1t, iL1f, iL2t, iL2f, iL7t, iL7f, iL29t, iL29f, iR0t, iR0f, iR100t, iR100f, iR10t, iR10f, iE0t, iE0f, iE1t, iE1f, iE2t, iE2f, iE3t, iE3f, iE4t, iE4f, iE5t, iE5f, iE6t, iE6f, iE7t, iE7f, iE8t, iE8f, iE9t, iE9f, iE10t, iE10f, iE11t, iE11f, iE12t, iE12f, iE13t, iE13f, iBt, iBf, i1_0, i0_0, i0_1, iSt, rm9, rm4, rm100002, rm2, rm5, rm10002, rm200, rm502, rm20, rm30000, rm3, rm4000, rm3000, rm11, rm13, rm40, rm6, rq4_3, rq4_120, rq2_3, rq2_90, rq7_5, rq7_10002, rq7_60, rq5_4, rq9_5, rq45_11, rq45_3, rq9_102, rq4_9, rq36_10, rq36_3, rq11_12, rq132_102, rq11_30, rq396_3, rq40_9, rq40_6, mu2, mu1700, mu1701, mu167, mv10, mv51, mv4, mv8, mv32, mv128, ad1, ad100, ad60, ad5, ad8, ad12, ad16, ad24, ad32, ad40, ad48, nI_add, nI_1, ap2, ap3, ap4, ap5, ap6]
              exact lnd (one % 4) (two % 4) (two / 4 % 3) (1 + two / 36 % 3) (one / 132 % 102) (by omega) (by omega) (by omega) (by omega) (by omega)
            · skip
              simp (disch := omega) only [f_L_isSale_33, f_L_isSale_61, f_L_isSale_93, ↓reduceIte, ite_self, iL8t, iL8f, iL4t, iL4f, iL3t, iL3f, iL100001t, iL100001f, iL10001t, iL10001f, iL501t, iL501f, iL100000001t, iL100000001f, iL10t, iL10f, iL10000001t, iL10000001f, iL101t, iL101f, iL100t, iL100f, iL51t, iL51f, iL9t, iL9f, iL1t, iL1f, iL2t, iL2f, iL7t, iL7f, iL29t, iL29f, iR0t, iR0f, iR100t, iR100f, iR10t, iR10f, iE0t, iE0f, iE1t, iE1f, iE2t, iE2f, iE3t, iE3f, iE4t, iE4f, iE5t, iE5f, iE6t, iE6f, iE7t, iE7f, iE8t, iE8f, iE9t, iE9f, iE10t, iE10f, iE11t, iE11f, iE12t, iE12f, iE13t, iE13f, iBt, iBf, i1_0, i0_0, i0_1, iSt, rm9, rm4, rm100002, rm2, rm5, rm10002, rm200, rm502, rm20, rm30000, rm3, rm4000, rm3000, rm11, rm13, rm40, rm6, rq4_3, rq4_120, rq2_3, rq2_90, rq7_5, rq7_10002, rq7_60, rq5_4, rq9_5, rq45_11, rq45_3, rq9_102, rq4_9, rq36_10, rq36_3, rq11_12, rq132_102, rq11_30, rq396_3, rq40_9, rq40_6, mu2, mu1700, mu1701, mu167, mv10, mv51, mv4, mv8, mv32, mv128, ad1, ad100, ad60, ad5, ad8, ad12, ad16, ad24, ad32, ad40, ad48, nI_add, nI_1, ap2, ap3, ap4, ap5, ap6]
              exact lnd (one % 4) (two % 4) (two / 4 % 3) (1 + two / 36 % 3) (5 + one / 11 % 30) (by omega) (by omega) (by omega) (by omega) (by omega)
    · have c40 : (40 : Int32) ≤ nI nb := (nI_leI (a := 40) (by omega) (by omega)).mpr (by omega)
      rw [if_pos c40]
      exact opn 0 (by decide)
  · rw [if_neg (by decide)]
    exact opn 1 (by decide)
  · rw [if_neg (by decide)]
    obtain ⟨M2, R2, nl2, dn2, h1, h2, h3, h4⟩ := t_end (x16 := nI one) (x17 := nI two) hN H I hdn2
    exact ⟨M2, R2, nb, nl2, nr, dn2, h1, h2, h3, h4⟩
  · rw [if_neg (by decide), l_409 (by decide) (by decide) (by omega) (by omega)]
    obtain ⟨M2, R2, h1, h2, h3⟩ := t_press (x15 := 3) (x16 := nI one) (x17 := nI two) (s0 := if hal two < 3 then nI (8 * hal two) else 0) hN H I (by decide) (buy_lt one) (hal_lt two) (fun z => if_pos z)
    exact ⟨M2, R2, nb, nl, nr, dn, h1, h2, h3, by omega⟩
  · rw [if_neg (by decide), l_409 (by decide) (by decide) (by omega) (by omega)]
    obtain ⟨M2, R2, h1, h2, h3⟩ := t_769t (one := one) hN H I (buy_lt one) (hal_lt two) (two := two) (by omega) (x20 := bI (buy one < 8 ∧ hal two < 3))
    exact ⟨M2, R2, nb, nl, nr, dn, h1, h2, h3, by omega⟩
  · rw [if_neg (by decide), l_409 (by decide) (by decide) (by omega) (by omega)]
    obtain ⟨M2, R2, nb2, nr2, h1, h2, h3⟩ := t_769l (x19 := nI (hal two)) (x20 := bI (buy one < 8 ∧ hal two < 3)) (s0 := if hal two < 3 then nI (8 * hal two) else 0) hN H I (buy_lt one) ho ht
    exact ⟨M2, R2, nb2, nl, nr2, dn, h1, h2, h3, by omega⟩
end

