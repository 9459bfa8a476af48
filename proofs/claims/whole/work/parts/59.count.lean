/-! THE PURE PART. count and isSound: both sides agree. -/
section CT
variable {σ : Hp}
theorem sumF_0 : ∀ n, sumF (fun _ => 0) n = 0
  | 0 => rfl
  | n + 1 => by
    unfold sumF
    rw [sumF_0 n]
theorem case_count (hI : Inv σ) (N : Nat) (hN : 500 ≤ N) (x1 : Int32) : Agree (fL_count N x1) (f6_count N x1) σ := by
  refine qryX hI N hN (fL_count N x1) (fun σ1 => bd (f6_in N x1 0 7 σ1) (fun r8 σ8 => if r8 = 0 then bd (f6_fails N 1 σ8) (fun r16 σ16 => some (r16, σ16)) else if (2 : Int32) ≤ x1 then f6_count_L43 N x1 (fun x2_43 σL43 => f6_count_L94 N x1 (fun x2_94 σL94 => some (x2_94, σL94)) N x2_43 0 σL43) N 0 0 σ8 else if x1 = 0 then f6_count_J35 N x1 1 σ8 else f6_count_J35 N x1 0 σ8)) (fun D Y hC hnon => ?_)
  have hG := hC.2.2.2.2.2.1
  have in1 : ∀ τ : Hp, f6_in N x1 0 7 τ = some (nI (b2 (inB x1 0 7)), τ) := fun τ => s6_in N x1 0 7
  cases e : inB x1 0 7
  · have n : ∀ k : Nat, k < 8 → ¬ x1 = nI k := by
      intro k hk h
      rw [h, inB_nI (by omega) (by omega) (by omega)] at e
      have := of_decide_eq_false e
      omega
    refine ⟨1, 0, by omega, ?_, fun τ hτ => ?_⟩
    · unfold fL_count f5_count
      rw [if_neg (show ¬ x1 = 0 from n 0 (by omega)), if_neg (show ¬ x1 = 1 from n 1 (by omega)), if_neg (show ¬ x1 = 2 from n 2 (by omega)), if_neg (show ¬ x1 = 3 from n 3 (by omega)), if_neg (show ¬ x1 = 4 from n 4 (by omega)), if_neg (show ¬ x1 = 5 from n 5 (by omega)), if_neg (show ¬ x1 = 6 from n 6 (by omega)), if_neg (show ¬ x1 = 7 from n 7 (by omega))]
      rfl
    · rw [in1, q_bd, e]
      rfl
  · obtain ⟨w, -, w7, rfl⟩ := inB_some e (by decide) (by decide)
    have st : ∀ (τ : Hp), Asked τ D Y → 2 ≤ w → w < 7 → bd (f6_in N (nI w) 0 7 τ) (fun r8 σ8 => if r8 = 0 then bd (f6_fails N 1 σ8) (fun r16 σ16 => some (r16, σ16)) else if (2 : Int32) ≤ nI w then f6_count_L43 N (nI w) (fun x2_43 σL43 => f6_count_L94 N (nI w) (fun x2_94 σL94 => some (x2_94, σL94)) N x2_43 0 σL43) N 0 0 σ8 else if nI w = 0 then f6_count_J35 N (nI w) 1 σ8 else f6_count_J35 N (nI w) 0 σ8) = some (nI (sumF (pick (isB D) (valN D Y w)) 12), τ) := fun τ hτ h2 h7 => by
      rw [in1, q_bd, e, if_neg (show ¬ nI (b2 true) = 0 by decide), if_pos (show (2 : Int32) ≤ nI w from nI_le (a := 2) (b := w) (by omega) (by omega)), s6_noPrices N hN w h7]
      refine (s6_count94 hτ hC.1 hG N hN w 0 (by omega) h2).trans ?_
      rw [Nat.zero_add, ord_sum D (valN D Y w)]
      rfl
    rcases (show w = 0 ∨ w = 1 ∨ w = 2 ∨ w = 3 ∨ w = 4 ∨ w = 5 ∨ w = 6 ∨ w = 7 by omega) with rfl | rfl | rfl | rfl | rfl | rfl | rfl | rfl
    · refine ⟨0, nI (nS D), by omega, ?_, fun τ hτ => ?_⟩
      · unfold fL_count f5_count
        simp (disch := omega) only [q_lit, q_gt, q_bd, q_bxl, q_bxr, q_vib, q_cl, q_pos, q_lt, q_le, q_eq, q_neg, q_neg1, q_negz, q_negeq0, q_neg0le, q_rem, q_div, q_sub, q_if1, q_if0, q_okB0, q_okB1, q_dz, q_dn, q_nb, and_true, true_and, and_false, false_and, nI_add, pk_mul, if_true, if_false, ite_true, ite_false, Nat.add_zero, Nat.zero_add, Nat.reduceAdd, s1_storyCount 1 hC.2.1 hC.1 N hN]
        rfl
      · rw [in1, q_bd, e]
        unfold f6_count_J35
        have := s6_manyS hτ.1 hC.1 N hN (nI 1) (by decide)
        simp (disch := omega) only [q_lit, q_gt, q_bd, q_bxl, q_bxr, q_vib, q_cl, q_pos, q_lt, q_le, q_eq, q_neg, q_neg1, q_negz, q_negeq0, q_neg0le, q_rem, q_div, q_sub, q_if1, q_if0, q_okB0, q_okB1, q_dz, q_dn, q_nb, and_true, true_and, and_false, false_and, nI_add, pk_mul, if_true, if_false, ite_true, ite_false, Nat.add_zero, Nat.zero_add, Nat.reduceAdd, b2, this]
    · refine ⟨0, nI (nA D), by omega, ?_, fun τ hτ => ?_⟩
      · unfold fL_count f5_count
        simp (disch := omega) only [q_lit, q_gt, q_bd, q_bxl, q_bxr, q_vib, q_cl, q_pos, q_lt, q_le, q_eq, q_neg, q_neg1, q_negz, q_negeq0, q_neg0le, q_rem, q_div, q_sub, q_if1, q_if0, q_okB0, q_okB1, q_dz, q_dn, q_nb, and_true, true_and, and_false, false_and, nI_add, pk_mul, if_true, if_false, ite_true, ite_false, Nat.add_zero, Nat.zero_add, Nat.reduceAdd, s1_adCount 1 hC.2.1 hC.1 N hN]
        rfl
      · rw [in1, q_bd, e]
        unfold f6_count_J35
        have := s6_manyA hτ.1 hC.1 N hN
        simp (disch := omega) only [q_lit, q_gt, q_bd, q_bxl, q_bxr, q_vib, q_cl, q_pos, q_lt, q_le, q_eq, q_neg, q_neg1, q_negz, q_negeq0, q_neg0le, q_rem, q_div, q_sub, q_if1, q_if0, q_okB0, q_okB1, q_dz, q_dn, q_nb, and_true, true_and, and_false, false_and, nI_add, pk_mul, if_true, if_false, ite_true, ite_false, Nat.add_zero, Nat.zero_add, Nat.reduceAdd, b2, this]
    · refine ⟨0, nI (sumF (pick (isB D) (valN D Y 2)) 12), by omega, ?_, fun τ hτ => st τ hτ (by omega) (by omega)⟩
      unfold fL_count f5_count
      simp (disch := omega) only [q_lit, q_gt, q_bd, q_bxl, q_bxr, q_vib, q_cl, q_pos, q_lt, q_le, q_eq, q_neg, q_neg1, q_negz, q_negeq0, q_neg0le, q_rem, q_div, q_sub, q_if1, q_if0, q_okB0, q_okB1, q_dz, q_dn, q_nb, and_true, true_and, and_false, false_and, nI_add, pk_mul, if_true, if_false, ite_true, ite_false, Nat.add_zero, Nat.zero_add, Nat.reduceAdd, s3_leftOutCount hC.2.2.1 hC.2.1 hC.1 hG N hN]
      rfl
    · refine ⟨0, nI (sumF (pick (isB D) (valN D Y 3)) 12), by omega, ?_, fun τ hτ => st τ hτ (by omega) (by omega)⟩
      unfold fL_count f5_count
      simp (disch := omega) only [q_lit, q_gt, q_bd, q_bxl, q_bxr, q_vib, q_cl, q_pos, q_lt, q_le, q_eq, q_neg, q_neg1, q_negz, q_negeq0, q_neg0le, q_rem, q_div, q_sub, q_if1, q_if0, q_okB0, q_okB1, q_dz, q_dn, q_nb, and_true, true_and, and_false, false_and, nI_add, pk_mul, if_true, if_false, ite_true, ite_false, Nat.add_zero, Nat.zero_add, Nat.reduceAdd, s3_bumpedCount hC.2.2.1 hC.2.1 hC.1 hG N hN]
      rfl
    · refine ⟨0, nI (sumF (pick (isB D) (valN D Y 4)) 12), by omega, ?_, fun τ hτ => st τ hτ (by omega) (by omega)⟩
      unfold fL_count f5_count
      simp (disch := omega) only [q_lit, q_gt, q_bd, q_bxl, q_bxr, q_vib, q_cl, q_pos, q_lt, q_le, q_eq, q_neg, q_neg1, q_negz, q_negeq0, q_neg0le, q_rem, q_div, q_sub, q_if1, q_if0, q_okB0, q_okB1, q_dz, q_dn, q_nb, and_true, true_and, and_false, false_and, nI_add, pk_mul, if_true, if_false, ite_true, ite_false, Nat.add_zero, Nat.zero_add, Nat.reduceAdd, s3_jumpCount hC.2.2.1 hnon N hN]
      rfl
    · refine ⟨0, nI (sumF (pick (isB D) (valN D Y 5)) 12), by omega, ?_, fun τ hτ => st τ hτ (by omega) (by omega)⟩
      unfold fL_count f5_count
      simp (disch := omega) only [q_lit, q_gt, q_bd, q_bxl, q_bxr, q_vib, q_cl, q_pos, q_lt, q_le, q_eq, q_neg, q_neg1, q_negz, q_negeq0, q_neg0le, q_rem, q_div, q_sub, q_if1, q_if0, q_okB0, q_okB1, q_dz, q_dn, q_nb, and_true, true_and, and_false, false_and, nI_add, pk_mul, if_true, if_false, ite_true, ite_false, Nat.add_zero, Nat.zero_add, Nat.reduceAdd, s3_allLinesOnPages hC.2.2.1 hC.2.1 hC.1 hG N hN]
      rfl
    · refine ⟨0, nI (sumF (pick (isB D) (valN D Y 6)) 12), by omega, ?_, fun τ hτ => st τ hτ (by omega) (by omega)⟩
      unfold fL_count f5_count
      simp (disch := omega) only [q_lit, q_gt, q_bd, q_bxl, q_bxr, q_vib, q_cl, q_pos, q_lt, q_le, q_eq, q_neg, q_neg1, q_negz, q_negeq0, q_neg0le, q_rem, q_div, q_sub, q_if1, q_if0, q_okB0, q_okB1, q_dz, q_dn, q_nb, and_true, true_and, and_false, false_and, nI_add, pk_mul, if_true, if_false, ite_true, ite_false, Nat.add_zero, Nat.zero_add, Nat.reduceAdd, s3_allLinesCut hC.2.2.1 hC.2.1 hC.1 hG N hN]
      rfl
    · refine ⟨0, nI (sumF (pick (isBA D) (prA D)) 8), by omega, ?_, fun τ hτ => ?_⟩
      · unfold fL_count f5_count
        simp (disch := omega) only [q_lit, q_gt, q_bd, q_bxl, q_bxr, q_vib, q_cl, q_pos, q_lt, q_le, q_eq, q_neg, q_neg1, q_negz, q_negeq0, q_neg0le, q_rem, q_div, q_sub, q_if1, q_if0, q_okB0, q_okB1, q_dz, q_dn, q_nb, and_true, true_and, and_false, false_and, nI_add, pk_mul, if_true, if_false, ite_true, ite_false, Nat.add_zero, Nat.zero_add, Nat.reduceAdd, s1_allPrices hC.2.1 hC.1 N hN]
        rfl
      · rw [in1, q_bd, e, if_neg (show ¬ nI (b2 true) = 0 by decide), if_pos (show (2 : Int32) ≤ nI 7 by decide), s6_prices hτ.1 hC.1 N hN]
        refine (s6_count94 hτ hC.1 hG N hN 7 _ (by omega) (by omega)).trans ?_
        rw [show sumF (fun k => valN D Y 7 (ordN D k)) (nS D) = 0 from sumF_0 _]
        rfl
end CT
section IS
variable {σ : Hp} {D : Nat → Nat} {Y : Ly}
def nfN (Y : Ly) : Nat := cntB (fun t => !decide (lc Y t = nI 0)) 480
theorem nf_page (Y : Ly) (p : Nat) : 120 - cntB (kdB Y p (nI 0)) 120 = cntB (fun t => !decide (lc Y (120 * p + t) = nI 0)) 120 := by
  have h : cntB (fun t => decide (lc Y (120 * p + t) = nI 0)) 120 + cntB (fun t => !decide (lc Y (120 * p + t) = nI 0)) 120 = 120 := cntB_not _ 120
  have h2 : cntB (kdB Y p (nI 0)) 120 = cntB (fun t => decide (lc Y (120 * p + t) = nI 0)) 120 := rfl
  omega
theorem s3_notFree (hP : PgW 56 σ Y) (N : Nat) (hN : 500 ≤ N) : f3_cellsNotFree N 56 σ = some (nI (nfN Y), σ) := by
  have main := lpc (fun _ _ _ => none) (f3_cellsNotFree_B4 N 56 (fun x1_4 σL4 => some (x1_4, σL4))) (fun t j => t (nI (cntB (fun t => !decide (lc Y t = nI 0)) (120 * j))) (nI j) σ) (some (nI (nfN Y), σ)) 4 (by
    intro r
    show f3_cellsNotFree_B4 _ _ _ _ _ _ _ = _
    unfold f3_cellsNotFree_B4
    simp (disch := omega) only [q_lit, q_gt, q_bd, q_bxl, q_bxr, q_vib, q_cl, q_pos, q_lt, q_le, q_eq, q_neg, q_neg1, q_negz, q_negeq0, q_neg0le, q_rem, q_div, q_sub, q_if1, q_if0, q_okB0, q_okB1, q_dz, q_dn, q_nb, and_true, true_and, and_false, false_and, nI_add, pk_mul, if_true, if_false, ite_true, ite_false, Nat.add_zero, Nat.zero_add, Nat.reduceAdd]
    rfl) (by
    intro r p hp
    have hk := cntB_le (kdB Y p (nI 0)) 120
    have h2 := nf_page Y p
    show f3_cellsNotFree_B4 _ _ _ _ _ _ _ = r (nI (cntB (fun t => !decide (lc Y t = nI 0)) (120 * p + 120))) (nI (p + 1)) σ
    rw [cntB_split (fun t => !decide (lc Y t = nI 0)) (120 * p) 120, ← h2]
    unfold f3_cellsNotFree_B4
    simp (disch := omega) only [q_lit, q_gt, q_bd, q_bxl, q_bxr, q_vib, q_cl, q_pos, q_lt, q_le, q_eq, q_neg, q_neg1, q_negz, q_negeq0, q_neg0le, q_rem, q_div, q_sub, q_if1, q_if0, q_okB0, q_okB1, q_dz, q_dn, q_nb, and_true, true_and, and_false, false_and, nI_add, pk_mul, if_true, if_false, ite_true, ite_false, Nat.add_zero, Nat.zero_add, Nat.reduceAdd, s3_cellsOfKind hP N hN (show p ≤ 3 by omega)]) (i := 0) (n := N) (by omega) (by omega)
  exact main
theorem s3_sound (hP : PgW 56 σ Y) (hE : EdR σ 1 D) (N : Nat) (hN : 500 ≤ N) {s : Nat} (hs : s < 12) (hG : GoodS D Y s) : f3_hasSoundLines N 56 (nI s) σ = some (nI 1, σ) := by
  have l4 := (hP.2.2.1 s hs).2.2.2
  have lle := hG.2.2.1
  have main := lpc (fun _ _ _ => none) (f3_hasSoundLines_B4 N 56 (nI s) (fun x2_4 σL4 => bd (f1_storyNumber N (edOf 56) (nI s) 3 σL4) (fun r36 σ36 => bd (f3_linesCut N 56 (nI s) σ36) (fun r41 σ41 => if x2_4 = (r36 - r41) then some (1, σ41) else some (0, σ41))))) (fun t j => t (nI (sumL Y s j)) (nI j) σ) (some (nI 1, σ)) (ln Y s) (by
    intro r
    show f3_hasSoundLines_B4 _ _ _ _ _ _ _ _ = _
    unfold f3_hasSoundLines_B4
    simp (disch := omega) only [q_lit, q_gt, q_bd, q_bxl, q_bxr, q_vib, q_cl, q_pos, q_lt, q_le, q_eq, q_neg, q_neg1, q_negz, q_negeq0, q_neg0le, q_rem, q_div, q_sub, q_if1, q_if0, q_okB0, q_okB1, q_dz, q_dn, q_nb, and_true, true_and, and_false, false_and, nI_add, pk_mul, if_true, if_false, ite_true, ite_false, Nat.add_zero, Nat.zero_add, Nat.reduceAdd, s3_partCount hP, s1_sn (show EdR σ (edOf 56) D from hE), s3_linesCutW hP (show EdR σ (edOf 56) D from hE) N s hs lle]
    rw [hG.2.1, if_pos (by rw [show dS D s 4 - (dS D s 4 - ll Y s) = ll Y s by omega])]) (by
    intro r q hq
    show f3_hasSoundLines_B4 _ _ _ _ _ _ _ _ = r (nI (sumL Y s q + lp Y s q 5)) (nI (q + 1)) σ
    unfold f3_hasSoundLines_B4
    simp (disch := omega) only [q_lit, q_gt, q_bd, q_bxl, q_bxr, q_vib, q_cl, q_pos, q_lt, q_le, q_eq, q_neg, q_neg1, q_negz, q_negeq0, q_neg0le, q_rem, q_div, q_sub, q_if1, q_if0, q_okB0, q_okB1, q_dz, q_dn, q_nb, and_true, true_and, and_false, false_and, nI_add, pk_mul, if_true, if_false, ite_true, ite_false, Nat.add_zero, Nat.zero_add, Nat.reduceAdd, s3_partCount hP, s3_partNoY hP]) (i := 0) (n := N) (by omega) (by omega)
  exact main
theorem s5_soundAll (hP : PgW 56 σ Y) (hE : EdR σ 1 D) (hD : DOk D) (hG : ∀ s, s < 12 → GoodS D Y s) (N : Nat) (hN : 500 ≤ N) (K : Hp → Option (Int32 × Hp)) : f5_isSound_L29 N K N 0 σ = K σ := by
  have main := lpc (fun _ _ => none) (f5_isSound_B29 N K) (fun t j => t (nI j) σ) (K σ) 12 (by
    intro r
    show f5_isSound_B29 _ _ _ _ _ = _
    unfold f5_isSound_B29
    simp (disch := omega) only [q_lit, q_gt, q_bd, q_bxl, q_bxr, q_vib, q_cl, q_pos, q_lt, q_le, q_eq, q_neg, q_neg1, q_negz, q_negeq0, q_neg0le, q_rem, q_div, q_sub, q_if1, q_if0, q_okB0, q_okB1, q_dz, q_dn, q_nb, and_true, true_and, and_false, false_and, nI_add, pk_mul, if_true, if_false, ite_true, ite_false, Nat.add_zero, Nat.zero_add, Nat.reduceAdd]) (by
    intro r s hs
    show f5_isSound_B29 _ _ _ _ _ = _
    unfold f5_isSound_B29 f5_isSound_J59
    simp (disch := omega) only [q_lit, q_gt, q_bd, q_bxl, q_bxr, q_vib, q_cl, q_pos, q_lt, q_le, q_eq, q_neg, q_neg1, q_negz, q_negeq0, q_neg0le, q_rem, q_div, q_sub, q_if1, q_if0, q_okB0, q_okB1, q_dz, q_dn, q_nb, and_true, true_and, and_false, false_and, nI_add, pk_mul, if_true, if_false, ite_true, ite_false, Nat.add_zero, Nat.zero_add, Nat.reduceAdd, s1_hasStory hE hD, s3_sound hP hE N hN hs (hG s hs)]
    rcases bit_cases (hD.2.2.1 s hs).1 with e | e
    · rw [e]
      simp (disch := omega) only [q_lit, q_gt, q_bd, q_bxl, q_bxr, q_vib, q_cl, q_pos, q_lt, q_le, q_eq, q_neg, q_neg1, q_negz, q_negeq0, q_neg0le, q_rem, q_div, q_sub, q_if1, q_if0, q_okB0, q_okB1, q_dz, q_dn, q_nb, and_true, true_and, and_false, false_and, nI_add, pk_mul, if_true, if_false, ite_true, ite_false, Nat.add_zero, Nat.zero_add, Nat.reduceAdd]
    · rw [e]
      simp (disch := omega) only [q_lit, q_gt, q_bd, q_bxl, q_bxr, q_vib, q_cl, q_pos, q_lt, q_le, q_eq, q_neg, q_neg1, q_negz, q_negeq0, q_neg0le, q_rem, q_div, q_sub, q_if1, q_if0, q_okB0, q_okB1, q_dz, q_dn, q_nb, and_true, true_and, and_false, false_and, nI_add, pk_mul, if_true, if_false, ite_true, ite_false, Nat.add_zero, Nat.zero_add, Nat.reduceAdd]) (i := 0) (n := N) (by omega) (by omega)
  exact main
theorem s6_nf {P : Nat → Prop} (hR : RfR P σ Y) (N : Nat) (hN : 500 ≤ N) (K : Int32 → Hp → Option (Int32 × Hp)) : f6_isSound_L8 N K N 0 0 σ = K (nI (nfN Y)) σ := by
  have main := lpc (fun _ _ _ => none) (f6_isSound_B8 N K) (fun t j => t (nI (cntB (fun t => !decide (lc Y t = nI 0)) j)) (nI j) σ) (K (nI (nfN Y)) σ) 480 (by
    intro r
    show f6_isSound_B8 _ _ _ _ _ _ = _
    unfold f6_isSound_B8
    simp (disch := omega) only [q_lit, q_gt, q_bd, q_bxl, q_bxr, q_vib, q_cl, q_pos, q_lt, q_le, q_eq, q_neg, q_neg1, q_negz, q_negeq0, q_neg0le, q_rem, q_div, q_sub, q_if1, q_if0, q_okB0, q_okB1, q_dz, q_dn, q_nb, and_true, true_and, and_false, false_and, nI_add, pk_mul, if_true, if_false, ite_true, ite_false, Nat.add_zero, Nat.zero_add, Nat.reduceAdd]
    rfl) (by
    intro r j hj
    show f6_isSound_B8 _ _ _ _ _ _ = r (nI (cntB (fun t => !decide (lc Y t = nI 0)) j + if !decide (lc Y j = nI 0) then 1 else 0)) (nI (j + 1)) σ
    unfold f6_isSound_B8 f6_isSound_J30
    simp (disch := omega) only [q_lit, q_gt, q_bd, q_bxl, q_bxr, q_vib, q_cl, q_pos, q_lt, q_le, q_eq, q_neg, q_neg1, q_negz, q_negeq0, q_neg0le, q_rem, q_div, q_sub, q_if1, q_if0, q_okB0, q_okB1, q_dz, q_dn, q_nb, and_true, true_and, and_false, false_and, nI_add, pk_mul, if_true, if_false, ite_true, ite_false, Nat.add_zero, Nat.zero_add, Nat.reduceAdd, hR.1]
    by_cases z : lc Y j = nI 0
    · rw [if_pos z, z]
      rfl
    · rw [if_neg z, show decide (lc Y j = nI 0) = false from decide_eq_false z]
      rfl) (i := 0) (n := N) (by omega) (by omega)
  exact main
theorem s6_cellsAds (hNw : NwR σ 85 D) (hD : DOk D) (N : Nat) (hN : 500 ≤ N) (x : Int32) (K : Int32 → Hp → Option (Int32 × Hp)) : f6_isSound_L42 N x K N 0 0 σ = K (nI (sumF (pick (isBA D) (clA D)) 8)) σ := by
  have main := lpc (fun _ _ _ => none) (f6_isSound_B42 N x K) (fun t j => t (nI (sumF (pick (isBA D) (clA D)) j)) (nI j) σ) (K (nI (sumF (pick (isBA D) (clA D)) 8)) σ) 8 (by
    intro r
    show f6_isSound_B42 _ _ _ _ _ _ _ = _
    unfold f6_isSound_B42
    simp (disch := omega) only [q_lit, q_gt, q_bd, q_bxl, q_bxr, q_vib, q_cl, q_pos, q_lt, q_le, q_eq, q_neg, q_neg1, q_negz, q_negeq0, q_neg0le, q_rem, q_div, q_sub, q_if1, q_if0, q_okB0, q_okB1, q_dz, q_dn, q_nb, and_true, true_and, and_false, false_and, nI_add, pk_mul, if_true, if_false, ite_true, ite_false, Nat.add_zero, Nat.zero_add, Nat.reduceAdd]) (by
    intro r j hj
    show f6_isSound_B42 _ _ _ _ _ _ _ = r (nI (sumF (pick (isBA D) (clA D)) j + pick (isBA D) (clA D) j)) (nI (j + 1)) σ
    unfold f6_isSound_B42
    simp (disch := omega) only [q_lit, q_gt, q_bd, q_bxl, q_bxr, q_vib, q_cl, q_pos, q_lt, q_le, q_eq, q_neg, q_neg1, q_negz, q_negeq0, q_neg0le, q_rem, q_div, q_sub, q_if1, q_if0, q_okB0, q_okB1, q_dz, q_dn, q_nb, and_true, true_and, and_false, false_and, nI_add, pk_mul, if_true, if_false, ite_true, ite_false, Nat.add_zero, Nat.zero_add, Nat.reduceAdd, s6_ad hNw]
    rcases bit_cases (hD.2.2.2 j hj).1 with e | e
    · rw [e, pick_0 (isBA_0 e), Nat.zero_mul, Nat.zero_mul]
    · rw [e, pick_1 (isBA_1 e)]
      unfold clA
      rw [Nat.one_mul]) (i := 0) (n := N) (by omega) (by omega)
  exact main
theorem s6_cellsParts {τ : Hp} (hA : Asked τ D Y) (N : Nat) (hN : 500 ≤ N) (x : Int32) (a : Nat) (K : Int32 → Hp → Option (Int32 × Hp)) : f6_isSound_L79 N x K N (nI a) 0 τ = K (nI (a + sumF (fun k => clS Y (ordN D k)) (nS D))) τ := by
  obtain ⟨t1, t2, t3, t4⟩ := hA
  have hle := nS_le D
  have main := lpc (fun _ _ _ => none) (f6_isSound_B79 N x K) (fun t j => t (nI (a + sumF (fun k => clS Y (ordN D k)) j)) (nI j) τ) (K (nI (a + sumF (fun k => clS Y (ordN D k)) (nS D))) τ) (nS D) (by
    intro r
    show f6_isSound_B79 _ _ _ _ _ _ _ = _
    unfold f6_isSound_B79
    simp (disch := omega) only [q_lit, q_gt, q_bd, q_bxl, q_bxr, q_vib, q_cl, q_pos, q_lt, q_le, q_eq, q_neg, q_neg1, q_negz, q_negeq0, q_neg0le, q_rem, q_div, q_sub, q_if1, q_if0, q_okB0, q_okB1, q_dz, q_dn, q_nb, and_true, true_and, and_false, false_and, nI_add, pk_mul, if_true, if_false, ite_true, ite_false, Nat.add_zero, Nat.zero_add, Nat.reduceAdd, t3]) (by
    intro r j hj
    obtain ⟨o1, o2⟩ := (ordN_I D).1 j hj
    have e91 := t4 j hj
    show f6_isSound_B79 _ _ _ _ _ _ _ = r (nI (a + (sumF (fun k => clS Y (ordN D k)) j + clS Y (ordN D j)))) (nI (j + 1)) τ
    rw [← Nat.add_assoc]
    generalize a + sumF (fun k => clS Y (ordN D k)) j = b
    generalize ordN D j = s at *
    obtain ⟨r1, r2, r3, r4, r5⟩ := t2.2.2 s o1 o2
    unfold f6_isSound_B79
    simp (disch := omega) only [q_lit, q_gt, q_bd, q_bxl, q_bxr, q_vib, q_cl, q_pos, q_lt, q_le, q_eq, q_neg, q_neg1, q_negz, q_negeq0, q_neg0le, q_rem, q_div, q_sub, q_if1, q_if0, q_okB0, q_okB1, q_dz, q_dn, q_nb, and_true, true_and, and_false, false_and, nI_add, pk_mul, if_true, if_false, ite_true, ite_false, Nat.add_zero, Nat.zero_add, Nat.reduceAdd, t3]
    have inn := lpc (fun _ _ _ => none) (f6_isSound_B90 N x K r (nI j) (fun x2_90 σL90 => r x2_90 (nI (j + 1)) σL90)) (fun t i => t (nI (b + sumF (fun i => lp Y s i 3 * lp Y s i 4) i)) (nI i) τ) (r (nI (b + clS Y s)) (nI (j + 1)) τ) (ln Y s) ?_ ?_ (i := 0) (n := N) (by omega) (by omega)
    · exact inn
    · intro t
      show f6_isSound_B90 _ _ _ _ _ _ _ _ _ _ = _
      unfold f6_isSound_B90
      simp (disch := omega) only [q_lit, q_gt, q_bd, q_bxl, q_bxr, q_vib, q_cl, q_pos, q_lt, q_le, q_eq, q_neg, q_neg1, q_negz, q_negeq0, q_neg0le, q_rem, q_div, q_sub, q_if1, q_if0, q_okB0, q_okB1, q_dz, q_dn, q_nb, and_true, true_and, and_false, false_and, nI_add, pk_mul, if_true, if_false, ite_true, ite_false, Nat.add_zero, Nat.zero_add, Nat.reduceAdd, e91, r1]
      rfl
    · intro t i hi
      have v3 := r5 i 3 hi (by omega)
      have v4 := r5 i 4 hi (by omega)
      show f6_isSound_B90 _ _ _ _ _ _ _ _ _ _ = t (nI (b + (sumF (fun i => lp Y s i 3 * lp Y s i 4) i + lp Y s i 3 * lp Y s i 4))) (nI (i + 1)) τ
      rw [← Nat.add_assoc]
      unfold f6_isSound_B90
      simp (disch := omega) only [q_lit, q_gt, q_bd, q_bxl, q_bxr, q_vib, q_cl, q_pos, q_lt, q_le, q_eq, q_neg, q_neg1, q_negz, q_negeq0, q_neg0le, q_rem, q_div, q_sub, q_if1, q_if0, q_okB0, q_okB1, q_dz, q_dn, q_nb, and_true, true_and, and_false, false_and, nI_add, pk_mul, if_true, if_false, ite_true, ite_false, Nat.add_zero, Nat.zero_add, Nat.reduceAdd, e91, r1, v3, v4]) (i := 0) (n := N) (by omega) (by omega)
  exact main
theorem case_isSound (hI : Inv σ) (N : Nat) (hN : 500 ≤ N) : ∃ b τ, f5_isSound N σ = some (b, σ) ∧ f6_isSound N σ = some (b, τ) ∧ Inv τ := by
  obtain ⟨D, ⟨h1, h2, h3⟩, ⟨Y0, y1, y2, y3, y4⟩, h5, h7⟩ := id hI
  have hnon : ∀ s, s < 12 → dS D s 0 ≠ 1 → ln (layN D 99 Y0 (nS D)) s = 0 := fun s _ q => (layN_fresh (D := D) (w := 99) y1 (nS D) s (fun j hj => Or.inr (fun e => q (by have := ((ordN_I D).1 j hj).2; rw [e] at this; exact this)))).1
  have hG : ∀ s, s < 12 → GoodS D (layN D 99 Y0 (nS D)) s := fun s hs => good_lay h1 y1 (nS D) (Nat.le_refl _) s hs
  obtain ⟨τ, t1, t2, t3, t4, t5⟩ := asks_ok h1 N hN h3 Y0 y1
  generalize layN D 99 Y0 (nS D) = Y at *
  refine ⟨if nI (sumF (pick (isB D) (clS Y)) 12) + nI (sumF (pick (isBA D) (clA D)) 8) = nI (nfN Y) then 1 else 0, τ, ?_, ?_, inv_keep2 hI (fun k hk => t4 k (by omega)) t5⟩
  · unfold f5_isSound
    rw [s3_cellsOfParts y2 hnon N hN, q_bd, s1_cellsOfAds h2 h1 N hN, q_bd, s3_notFree y2 N hN, q_bd, s5_soundAll y2 h2 h1 hG N hN]
    split
    · rfl
    · rfl
  · unfold f6_isSound
    rw [t1, q_bd, s6_nf t2.2.1 N hN, s6_cellsAds t2.1 h1 N hN, s6_cellsParts t2 N hN, ord_sum D (clS Y)]
    rw [show nI (sumF (pick (isB D) (clS Y)) 12) + nI (sumF (pick (isBA D) (clA D)) 8) = nI (sumF (pick (isBA D) (clA D)) 8 + sumF (pick (fun s => decide (dS D s 0 = 1)) (clS Y)) 12) by rw [Int32.add_comm, nI_add]; rfl]
    by_cases z : nI (sumF (pick (isBA D) (clA D)) 8 + sumF (pick (fun s => decide (dS D s 0 = 1)) (clS Y)) 12) = nI (nfN Y)
    · rw [if_pos z, if_pos z.symm]
    · rw [if_neg z, if_neg (fun q => z q.symm)]
end IS
