/-! THE PURE PART. change, remove, undo, save, restore, report, feed: both sides agree. -/
section C4
variable {σ : Hp} {D : Nat → Nat}
theorem change_ok (hD : DOk D) {s w v : Nat} (hs : s < 12) (hw : w < 5) (h1 : loN w ≤ v) (h2 : v ≤ hiN w) : DOk (setD D s (w + 1) v) := by
  have g := hD.2.2.1 s hs
  refine setD_ok hD hs (by omega) ?_
  unfold SOk at g ⊢
  rcases five w hw with rfl | rfl | rfl | rfl | rfl
  all_goals
    simp only [setD_S (show 0 + 1 < 9 by omega), setD_S (show 1 + 1 < 9 by omega), setD_S (show 2 + 1 < 9 by omega), setD_S (show 3 + 1 < 9 by omega), setD_S (show 4 + 1 < 9 by omega), show 0 < 9 by omega, show 1 < 9 by omega, show 2 < 9 by omega, show 3 < 9 by omega, show 4 < 9 by omega, show 5 < 9 by omega, show 6 < 9 by omega, show 7 < 9 by omega, show 8 < 9 by omega]
    simp [loN, hiN] at h1 h2 ⊢
    omega
theorem needNum (x v : Int32) : (∃ w : Nat, w < 5 ∧ x = nI w) ∨ ((∀ (N : Nat) (τ : Hp), f5_isInRange N x v τ = some (nI 0, τ)) ∧ (∀ (N : Nat) (τ : Hp), f6_isNumber N x v τ = some (nI 0, τ))) := by
  cases e : inB x 0 4
  · right
    have n : ∀ k : Nat, k < 5 → ¬ x = nI k := by
      intro k hk h
      rw [h, inB_nI (by omega) (by omega) (by omega)] at e
      have := of_decide_eq_false e
      omega
    constructor
    · intro N τ
      unfold f5_isInRange
      refine Eq.trans (show _ = _ from in_cls x (b := 4) (by omega) _ _) ?_
      rw [e]
      rfl
    · intro N τ
      unfold f6_isNumber
      rw [if_neg (show ¬ x = 0 from n 0 (by omega)), if_neg (show ¬ x = 1 from n 1 (by omega)), if_neg (show ¬ x = 2 from n 2 (by omega)), if_neg (show ¬ x = 3 from n 3 (by omega)), if_neg (show ¬ x = 4 from n 4 (by omega))]
      rfl
  · left
    obtain ⟨w, w1, w2, w3⟩ := inB_some e (by decide) (by decide)
    exact ⟨w, by omega, w3⟩
/-- the reference refuses: begins, then a fault -/
theorem ref_refuse2 (N : Nat) (hN : 500 ≤ N) (hI : Inv σ) (hNw : NwR σ 85 D) (f : Nat) (put : Hp → Option (Int32 × Hp)) (hput : ∀ τ, NwR τ 85 D → put τ = some (nI 0, st τ 84 0 (nI f))) : ∃ σ' r, bd (f6_begins N σ) (fun _ σ1 => put σ1) = some (r, σ') ∧ σ' 84 0 = nI f ∧ Inv σ' := by
  obtain ⟨σ1, a1, a2, a3, a4, a5⟩ := s6_begins N hN hNw
  refine ⟨st σ1 84 0 (nI f), nI 0, ?_, st_same _ _ _ _, inv_keep hI (fun k hk => ?_) (fun i i1 i2 => ?_)⟩
  · rw [a1, q_bd, hput σ1 (hNw.congr (a5 85 (by omega) (by omega)))]
  · rw [st_row _ _ _ _ (by omega)]
    exact a5 k (by omega) (by omega)
  · rw [st_ne _ _ _ _ (Or.inr i1)]
    exact a4 i i1
theorem case_change (hI : Inv σ) (N : Nat) (hN : 500 ≤ N) (x1 x2 x3 : Int32) : Agree (fL_change N x1 x2 x3) (f6_change N x1 x2 x3) σ := by
  obtain ⟨D, ⟨h1, h2, h3⟩, h4, ⟨c, n, Es, h5, h6⟩, h7⟩ := id hI
  rcases isS_cases h1 x1 with q | ⟨q, s, hs, rfl, h0⟩
  · obtain ⟨σ', r, g1, g2, g3⟩ := ref_refuse2 N hN hI h3 1 (fun σ1 => bd (f6_isStory N x1 σ1) (fun r6 σ6 => if r6 = 0 then bd (f6_fails N 1 σ6) (fun r14 σ14 => some (r14, σ14)) else bd (f6_isNumber N x2 x3 σ6) (fun r20 σ20 => if r20 = 0 then bd (f6_fails N 2 σ20) (fun r28 σ28 => some (r28, σ28)) else bd (f6_of N x1 (1 + x2) σ20) (fun r37 σ37 => gd (vib (((2 + (9 * x1)) + 1) + x2) 166) (bd (f6_ends N r37 (st σ37 85 (((2 + (9 * x1)) + 1) + x2).toNatClampNeg x3)) (fun r61 σ61 => some (r61, σ61))))))) (fun τ hτ => by
      rw [s6_isStory hτ h1, q_bd, q]
      rfl)
    refine ⟨1, σ, r, σ', by omega, ?_, g1, g2, fun q => by omega, g3⟩
    unfold fL_change f5_change
    rw [s5_needStory h2 h1, q]
    rfl
  · have bad : (∀ (N : Nat) (τ : Hp), f5_isInRange N x2 x3 τ = some (nI 0, τ)) → (∀ (N : Nat) (τ : Hp), f6_isNumber N x2 x3 τ = some (nI 0, τ)) → Agree (fL_change N (nI s) x2 x3) (f6_change N (nI s) x2 x3) σ := by
      intro b1 b2
      obtain ⟨σ', r, g1, g2, g3⟩ := ref_refuse2 N hN hI h3 2 (fun σ1 => bd (f6_isStory N (nI s) σ1) (fun r6 σ6 => if r6 = 0 then bd (f6_fails N 1 σ6) (fun r14 σ14 => some (r14, σ14)) else bd (f6_isNumber N x2 x3 σ6) (fun r20 σ20 => if r20 = 0 then bd (f6_fails N 2 σ20) (fun r28 σ28 => some (r28, σ28)) else bd (f6_of N (nI s) (1 + x2) σ20) (fun r37 σ37 => gd (vib (((2 + (9 * (nI s))) + 1) + x2) 166) (bd (f6_ends N r37 (st σ37 85 (((2 + (9 * (nI s))) + 1) + x2).toNatClampNeg x3)) (fun r61 σ61 => some (r61, σ61))))))) (fun τ hτ => by
        rw [s6_isStory hτ h1, q_bd, q, if_neg (show ¬ nI 1 = 0 by decide), b2, q_bd]
        rfl)
      refine ⟨2, σ, r, σ', by omega, ?_, g1, g2, fun q => by omega, g3⟩
      unfold fL_change f5_change
      rw [s5_needStory h2 h1, q, if_neg (show ¬ (1 : Nat) = 0 by decide), q_bxl, b1, q_bd]
      rfl
    rcases needNum x2 x3 with ⟨w, hw, rfl⟩ | ⟨b1, b2⟩
    · cases e : numOk w x3
      · exact bad (fun N τ => by rw [s5_inRange N hw, e]; rfl) (fun N τ => by rw [s6_isNumber N hw, e]; rfl)
      · have lh : loN w ≤ hiN w ∧ hiN w < 1000 := by
          rcases five w hw with rfl | rfl | rfl | rfl | rfl
          all_goals decide
        obtain ⟨v, v1, v2, rfl⟩ := inB_some e (by omega) lh.1
        have hD' := change_ok h1 hs hw v1 v2
        obtain ⟨σm, e1, e2⟩ := mut_class (β := (Int32 ⊕ Nat) × Hp) N hN h2 h1 hD' h5 (fun τ => bd (f1_storyNumber N 1 (nI s) (nI w) τ) (fun r τ1 => bd (f1_putStoryNumber N 1 (nI s) (nI w) (nI v) τ1) (fun _ τ2 => some (r, τ2)))) (nI (dS D s (w + 1))) (fun τ hτ => by
          refine ⟨_, ?_, EdR_st hτ hs (by omega) v, fun k hk => st_row _ _ _ _ (by omega)⟩
          rw [s1_sn hτ hs (by omega), q_bd, s1_putNo N 1 hs (by omega), q_bd])
        obtain ⟨σ', g1, g2, g3, g4⟩ := mut_ref N hN hD' e2 h3 h5.2.2.1 h6 h7 (nI (dS D s (w + 1))) (fun τ => some (nI (dS D s (w + 1)), st τ 85 (2 + 9 * s + (w + 1)) (nI v))) (nI (dS D s (w + 1))) (fun τ hτ h84 => ⟨_, rfl, NwR_st hτ v, fun k hk => st_row _ _ _ _ hk⟩)
        refine ⟨0, st σm 100 0 (nI (dS D s (w + 1))), nI (dS D s (w + 1)), σ', by omega, ?_, ?_, g2, fun _ => g3, g4⟩
        · have e1' := e1 (fun r σ => some (.inl r, σ))
          simp only [bd_bd, q_bd] at e1'
          unfold fL_change f5_change
          rw [s5_needStory h2 h1, q, if_neg (show ¬ (1 : Nat) = 0 by decide), q_bxl, s5_inRange N hw, q_bd, e, if_neg (show ¬ nI (b2 true) = 0 by decide), e1']
          rfl
        · rw [← g1]
          obtain ⟨τ, a1, a2, a3, a4, a5⟩ := s6_begins (σ := st σm 100 0 (nI (dS D s (w + 1)))) N hN (h3.congr (by rw [st_row _ _ _ _ (by omega)]; exact e2.2.2.2 85 (by omega)))
          have hτ : NwR τ 85 D := (h3.congr (by rw [a5 85 (by omega) (by omega), st_row _ _ _ _ (by omega)]; exact e2.2.2.2 85 (by omega)))
          unfold f6_change
          rw [a1, q_bd, q_bd, q_bd, s6_isStory hτ h1, q_bd, q, if_neg (show ¬ nI 1 = 0 by decide), s6_isNumber N hw, q_bd, e, if_neg (show ¬ nI (b2 true) = 0 by decide)]
          have e7 : (1 : Int32) + nI w = nI (w + 1) := by
            rw [show (1 : Int32) = nI 1 from rfl, nI_add, Nat.add_comm]
          rw [e7, s6_of hτ hs (by omega), q_bd]
          simp (disch := omega) only [q_lit, q_gt, q_bd, q_bxl, q_bxr, q_vib, q_cl, q_pos, q_lt, q_le, q_eq, q_neg, q_neg1, q_negz, q_negeq0, q_neg0le, q_rem, q_div, q_sub, q_if1, q_if0, q_okB0, q_okB1, q_dz, q_dn, q_nb, and_true, true_and, and_false, false_and, nI_add, pk_mul, if_true, if_false, ite_true, ite_false, Nat.add_zero, Nat.zero_add, Nat.reduceAdd, show 2 + 9 * s + 1 + w = 2 + 9 * s + (w + 1) by omega]
    · exact bad b1 b2
/-- how many advertisements -/
def nA (D : Nat → Nat) : Nat := cntB (fun o => decide (dA D o 0 = 1)) 8
theorem s1_adCount (b : Nat) (hE : EdR σ b D) (hD : DOk D) (N : Nat) (hN : 500 ≤ N) : f1_advertisementCount N b σ = some (nI (nA D), σ) := by
  have main := lpc (fun _ _ _ => none) (f1_advertisementCount_B4 N b (fun x2_4 σL4 => some (x2_4, σL4))) (fun t j => t (nI (cntB (fun o => decide (dA D o 0 = 1)) j)) (nI j) σ) (some (nI (nA D), σ)) 8 (by
    intro r
    show f1_advertisementCount_B4 _ _ _ _ _ _ _ = _
    unfold f1_advertisementCount_B4
    simp (disch := omega) only [q_lit, q_gt, q_bd, q_bxl, q_bxr, q_vib, q_cl, q_pos, q_lt, q_le, q_eq, q_neg, q_neg1, q_negz, q_negeq0, q_neg0le, q_rem, q_div, q_sub, q_if1, q_if0, q_okB0, q_okB1, q_dz, q_dn, q_nb, and_true, true_and, and_false, false_and, nI_add, pk_mul, if_true, if_false, ite_true, ite_false, Nat.add_zero, Nat.zero_add, Nat.reduceAdd]
    rfl) (by
    intro r j hj
    have hc := cntB_le (fun o => decide (dA D o 0 = 1)) j
    show f1_advertisementCount_B4 _ _ _ _ _ _ _ = r (nI (cntB (fun o => decide (dA D o 0 = 1)) j + if decide (dA D j 0 = 1) then 1 else 0)) (nI (j + 1)) σ
    unfold f1_advertisementCount_B4 f1_advertisementCount_J22
    simp (disch := omega) only [q_lit, q_gt, q_bd, q_bxl, q_bxr, q_vib, q_cl, q_pos, q_lt, q_le, q_eq, q_neg, q_neg1, q_negz, q_negeq0, q_neg0le, q_rem, q_div, q_sub, q_if1, q_if0, q_okB0, q_okB1, q_dz, q_dn, q_nb, and_true, true_and, and_false, false_and, nI_add, pk_mul, if_true, if_false, ite_true, ite_false, Nat.add_zero, Nat.zero_add, Nat.reduceAdd, hE.2.2.2.2.1 j hj]
    rcases bit_cases (hD.2.2.2 j hj).1 with e | e
    · rw [e]
      simp (disch := omega) only [q_lit, q_gt, q_bd, q_bxl, q_bxr, q_vib, q_cl, q_pos, q_lt, q_le, q_eq, q_neg, q_neg1, q_negz, q_negeq0, q_neg0le, q_rem, q_div, q_sub, q_if1, q_if0, q_okB0, q_okB1, q_dz, q_dn, q_nb, and_true, true_and, and_false, false_and, nI_add, pk_mul, if_true, if_false, ite_true, ite_false, Nat.add_zero, Nat.zero_add, Nat.reduceAdd]
      rfl
    · rw [e]
      simp (disch := omega) only [q_lit, q_gt, q_bd, q_bxl, q_bxr, q_vib, q_cl, q_pos, q_lt, q_le, q_eq, q_neg, q_neg1, q_negz, q_negeq0, q_neg0le, q_rem, q_div, q_sub, q_if1, q_if0, q_okB0, q_okB1, q_dz, q_dn, q_nb, and_true, true_and, and_false, false_and, nI_add, pk_mul, if_true, if_false, ite_true, ite_false, Nat.add_zero, Nat.zero_add, Nat.reduceAdd]
      rfl) (i := 0) (n := N) (by omega) (by omega)
  exact main
theorem s6_manyS (hNw : NwR σ 85 D) (hD : DOk D) (N : Nat) (hN : 500 ≤ N) (x : Int32) (hx : x ≠ nI 0) : f6_many N x σ = some (nI (nS D), σ) := by
  have main := lpc (fun _ _ _ => none) (f6_many_B4 N x (fun x2_4 σL4 => some (x2_4, σL4))) (fun t j => t (nI (cntB (fun o => decide (dS D o 0 = 1)) j)) (nI j) σ) (some (nI (nS D), σ)) 12 (by
    intro r
    show f6_many_B4 _ _ _ _ _ _ _ = _
    unfold f6_many_B4 f6_many_J16
    rw [if_neg (show ¬ x = 0 from hx)]
    simp (disch := omega) only [q_lit, q_gt, q_bd, q_bxl, q_bxr, q_vib, q_cl, q_pos, q_lt, q_le, q_eq, q_neg, q_neg1, q_negz, q_negeq0, q_neg0le, q_rem, q_div, q_sub, q_if1, q_if0, q_okB0, q_okB1, q_dz, q_dn, q_nb, and_true, true_and, and_false, false_and, nI_add, pk_mul, if_true, if_false, ite_true, ite_false, Nat.add_zero, Nat.zero_add, Nat.reduceAdd]
    rfl) (by
    intro r j hj
    have hc := cntB_le (fun o => decide (dS D o 0 = 1)) j
    show f6_many_B4 _ _ _ _ _ _ _ = r (nI (cntB (fun o => decide (dS D o 0 = 1)) j + if decide (dS D j 0 = 1) then 1 else 0)) (nI (j + 1)) σ
    unfold f6_many_B4 f6_many_J16 f6_many_J39
    rw [if_neg (show ¬ x = 0 from hx), if_neg (show ¬ x = 0 from hx)]
    simp (disch := omega) only [q_lit, q_gt, q_bd, q_bxl, q_bxr, q_vib, q_cl, q_pos, q_lt, q_le, q_eq, q_neg, q_neg1, q_negz, q_negeq0, q_neg0le, q_rem, q_div, q_sub, q_if1, q_if0, q_okB0, q_okB1, q_dz, q_dn, q_nb, and_true, true_and, and_false, false_and, nI_add, pk_mul, if_true, if_false, ite_true, ite_false, Nat.add_zero, Nat.zero_add, Nat.reduceAdd, s6_of hNw]
    rcases bit_cases (hD.2.2.1 j hj).1 with e | e
    · rw [e]
      rfl
    · rw [e]
      rfl) (i := 0) (n := N) (by omega) (by omega)
  exact main
theorem s6_manyA (hNw : NwR σ 85 D) (hD : DOk D) (N : Nat) (hN : 500 ≤ N) : f6_many N (nI 0) σ = some (nI (nA D), σ) := by
  have main := lpc (fun _ _ _ => none) (f6_many_B4 N (nI 0) (fun x2_4 σL4 => some (x2_4, σL4))) (fun t j => t (nI (cntB (fun o => decide (dA D o 0 = 1)) j)) (nI j) σ) (some (nI (nA D), σ)) 8 (by
    intro r
    show f6_many_B4 _ _ _ _ _ _ _ = _
    unfold f6_many_B4 f6_many_J16
    simp (disch := omega) only [q_lit, q_gt, q_bd, q_bxl, q_bxr, q_vib, q_cl, q_pos, q_lt, q_le, q_eq, q_neg, q_neg1, q_negz, q_negeq0, q_neg0le, q_rem, q_div, q_sub, q_if1, q_if0, q_okB0, q_okB1, q_dz, q_dn, q_nb, and_true, true_and, and_false, false_and, nI_add, pk_mul, if_true, if_false, ite_true, ite_false, Nat.add_zero, Nat.zero_add, Nat.reduceAdd]
    rfl) (by
    intro r j hj
    have hc := cntB_le (fun o => decide (dA D o 0 = 1)) j
    show f6_many_B4 _ _ _ _ _ _ _ = r (nI (cntB (fun o => decide (dA D o 0 = 1)) j + if decide (dA D j 0 = 1) then 1 else 0)) (nI (j + 1)) σ
    unfold f6_many_B4 f6_many_J16 f6_many_J39
    simp (disch := omega) only [q_lit, q_gt, q_bd, q_bxl, q_bxr, q_vib, q_cl, q_pos, q_lt, q_le, q_eq, q_neg, q_neg1, q_negz, q_negeq0, q_neg0le, q_rem, q_div, q_sub, q_if1, q_if0, q_okB0, q_okB1, q_dz, q_dn, q_nb, and_true, true_and, and_false, false_and, nI_add, pk_mul, if_true, if_false, ite_true, ite_false, Nat.add_zero, Nat.zero_add, Nat.reduceAdd, s6_ad hNw]
    rcases bit_cases (hD.2.2.2 j hj).1 with e | e
    · rw [e]
      rfl
    · rw [e]
      rfl) (i := 0) (n := N) (by omega) (by omega)
  exact main
theorem drop_ok (hD : DOk D) {s : Nat} (hs : s < 12) : DOk (setD D s 0 0) := by
  have g := hD.2.2.1 s hs
  refine setD_ok hD hs (by omega) ?_
  unfold SOk at g ⊢
  simp only [setD_S (show 0 < 9 by omega), show 0 < 9 by omega, show 1 < 9 by omega, show 2 < 9 by omega, show 3 < 9 by omega, show 4 < 9 by omega, show 5 < 9 by omega, show 6 < 9 by omega, show 7 < 9 by omega, show 8 < 9 by omega]
  simp
  omega
theorem case_remove (hI : Inv σ) (N : Nat) (hN : 500 ≤ N) (x1 x2 : Int32) : Agree (fL_remove N x1 x2) (f6_remove N x1 x2) σ := by
  obtain ⟨D, ⟨h1, h2, h3⟩, h4, ⟨c, n, Es, h5, h6⟩, h7⟩ := id hI
  by_cases hx : x1 = nI 0
  · subst hx
    rcases isAdv_cases h1 x2 with q | ⟨q, s, hs, rfl, h0⟩
    · obtain ⟨σ', r, g1, g2, g3⟩ := ref_refuse2 N hN hI h3 1 (fun σ1 => if nI 0 = 0 then bd (f6_isAd N x2 σ1) (fun r21 σ21 => if r21 = 0 then f6_remove_J27 N (nI 0) x2 σ21 else f6_remove_J33 N (nI 0) x2 σ21) else bd (f6_isStory N x2 σ1) (fun r10 σ10 => if r10 = 0 then f6_remove_J27 N (nI 0) x2 σ10 else f6_remove_J33 N (nI 0) x2 σ10)) (fun τ hτ => by
        rw [if_pos (show nI 0 = 0 from rfl), s6_isAd hτ h1, q_bd, q]
        rfl)
      refine ⟨1, σ, r, σ', by omega, ?_, g1, g2, fun q => by omega, g3⟩
      unfold fL_remove f5_remove f5_needEntry
      rw [if_pos (show nI 0 = 0 from rfl), s5_needAd h2 h1, q]
      rfl
    · have hD' := dropA_ok (a := s) h1
      obtain ⟨σm, e1, e2⟩ := mut_class (β := (Int32 ⊕ Nat) × Hp) N hN h2 h1 hD' h5 (f1_dropAdvertisement N 1 (nI s)) () (fun τ hτ => by
        refine ⟨st τ 4 s (nI 0), ?_, EdR_dropA (b := 1) hτ hs, fun k hk => st_row _ _ _ _ (by omega)⟩
        unfold f1_dropAdvertisement
        simp (disch := omega) only [q_lit, q_gt, q_bd, q_bxl, q_bxr, q_vib, q_cl, q_pos, q_lt, q_le, q_eq, q_neg, q_neg1, q_negz, q_negeq0, q_neg0le, q_rem, q_div, q_sub, q_if1, q_if0, q_okB0, q_okB1, q_dz, q_dn, q_nb, and_true, true_and, and_false, false_and, nI_add, pk_mul, if_true, if_false, ite_true, ite_false, Nat.add_zero, Nat.zero_add, Nat.reduceAdd, s5_isAdIndex])
      obtain ⟨σ', g1, g2, g3, g4⟩ := mut_ref N hN hD' e2 h3 h5.2.2.1 h6 h7 (nI (nA (dropA D s))) (fun τ => some (nI (nA (dropA D s)), st τ 85 (110 + 7 * s) (nI 0))) (nI (nA (dropA D s))) (fun τ hτ h84 => ⟨_, rfl, NwR_st hτ 0, fun k hk => st_row _ _ _ _ hk⟩)
      refine ⟨0, st σm 100 0 (nI (nA (dropA D s))), nI (nA (dropA D s)), σ', by omega, ?_, ?_, g2, fun _ => g3, g4⟩
      · have e1' := e1 (fun _ σ => bd (f1_advertisementCount N 1 σ) (fun r σ => some (.inl r, σ)))
        rw [s1_adCount 1 e2.1 hD' N hN, q_bd] at e1'
        unfold fL_remove f5_remove f5_remove_J40 f5_needEntry
        simp only [if_pos (show nI 0 = 0 from rfl)]
        rw [s5_needAd h2 h1, q, if_neg (show ¬ (1 : Nat) = 0 by decide), q_bxl, q_bxl, e1']
        rfl
      · rw [← g1]
        obtain ⟨τ, a1, a2, a3, a4, a5⟩ := s6_begins (σ := st σm 100 0 (nI (nA (dropA D s)))) N hN (h3.congr (by rw [st_row _ _ _ _ (by omega)]; exact e2.2.2.2 85 (by omega)))
        have hτ : NwR τ 85 D := (h3.congr (by rw [a5 85 (by omega) (by omega), st_row _ _ _ _ (by omega)]; exact e2.2.2.2 85 (by omega)))
        unfold f6_remove f6_remove_J33 f6_remove_J57
        simp only [if_pos (show nI 0 = 0 from rfl)]
        rw [a1, q_bd, q_bd, q_bd, s6_isAd hτ h1, q_bd, q, if_neg (show ¬ nI 1 = 0 by decide)]
        simp (disch := omega) only [q_lit, q_gt, q_bd, q_bxl, q_bxr, q_vib, q_cl, q_pos, q_lt, q_le, q_eq, q_neg, q_neg1, q_negz, q_negeq0, q_neg0le, q_rem, q_div, q_sub, q_if1, q_if0, q_okB0, q_okB1, q_dz, q_dn, q_nb, and_true, true_and, and_false, false_and, nI_add, pk_mul, if_true, if_false, ite_true, ite_false, Nat.add_zero, Nat.zero_add, Nat.reduceAdd, s6_manyA (NwR_st hτ 0) hD' N hN]
        rfl
  · rcases isS_cases h1 x2 with q | ⟨q, s, hs, rfl, h0⟩
    · obtain ⟨σ', r, g1, g2, g3⟩ := ref_refuse2 N hN hI h3 1 (fun σ1 => if x1 = 0 then bd (f6_isAd N x2 σ1) (fun r21 σ21 => if r21 = 0 then f6_remove_J27 N x1 x2 σ21 else f6_remove_J33 N x1 x2 σ21) else bd (f6_isStory N x2 σ1) (fun r10 σ10 => if r10 = 0 then f6_remove_J27 N x1 x2 σ10 else f6_remove_J33 N x1 x2 σ10)) (fun τ hτ => by
        rw [if_neg (show ¬ x1 = 0 from hx), s6_isStory hτ h1, q_bd, q]
        rfl)
      refine ⟨1, σ, r, σ', by omega, ?_, g1, g2, fun q => by omega, g3⟩
      unfold fL_remove f5_remove f5_needEntry
      rw [if_neg (show ¬ x1 = 0 from hx), s5_needStory h2 h1, q]
      rfl
    · have hD' := drop_ok h1 hs
      obtain ⟨σm, e1, e2⟩ := mut_class (β := (Int32 ⊕ Nat) × Hp) N hN h2 h1 hD' h5 (f1_dropStory N 1 (nI s)) () (fun τ hτ => by
        refine ⟨st τ 2 s (nI 0), ?_, EdR_drop (b := 1) hτ hs, fun k hk => st_row _ _ _ _ (by omega)⟩
        unfold f1_dropStory
        simp (disch := omega) only [q_lit, q_gt, q_bd, q_bxl, q_bxr, q_vib, q_cl, q_pos, q_lt, q_le, q_eq, q_neg, q_neg1, q_negz, q_negeq0, q_neg0le, q_rem, q_div, q_sub, q_if1, q_if0, q_okB0, q_okB1, q_dz, q_dn, q_nb, and_true, true_and, and_false, false_and, nI_add, pk_mul, if_true, if_false, ite_true, ite_false, Nat.add_zero, Nat.zero_add, Nat.reduceAdd, s5_isStoryIndex])
      obtain ⟨σ', g1, g2, g3, g4⟩ := mut_ref N hN hD' e2 h3 h5.2.2.1 h6 h7 (nI (nS (setD D s 0 0))) (fun τ => some (nI (nS (setD D s 0 0)), st τ 85 (2 + 9 * s) (nI 0))) (nI (nS (setD D s 0 0))) (fun τ hτ h84 => ⟨_, rfl, NwR_st hτ 0, fun k hk => st_row _ _ _ _ hk⟩)
      refine ⟨0, st σm 100 0 (nI (nS (setD D s 0 0))), nI (nS (setD D s 0 0)), σ', by omega, ?_, ?_, g2, fun _ => g3, g4⟩
      · have e1' := e1 (fun _ σ => bd (f1_storyCount N 1 σ) (fun r σ => some (.inl r, σ)))
        rw [s1_storyCount 1 e2.1 hD' N hN, q_bd] at e1'
        unfold fL_remove f5_remove f5_remove_J40 f5_needEntry
        simp only [if_neg (show ¬ x1 = 0 from hx)]
        rw [s5_needStory h2 h1, q, if_neg (show ¬ (1 : Nat) = 0 by decide), q_bxl, q_bxl, e1']
        rfl
      · rw [← g1]
        obtain ⟨τ, a1, a2, a3, a4, a5⟩ := s6_begins (σ := st σm 100 0 (nI (nS (setD D s 0 0)))) N hN (h3.congr (by rw [st_row _ _ _ _ (by omega)]; exact e2.2.2.2 85 (by omega)))
        have hτ : NwR τ 85 D := (h3.congr (by rw [a5 85 (by omega) (by omega), st_row _ _ _ _ (by omega)]; exact e2.2.2.2 85 (by omega)))
        unfold f6_remove f6_remove_J33 f6_remove_J57
        simp only [if_neg (show ¬ x1 = 0 from hx)]
        rw [a1, q_bd, q_bd, q_bd, s6_isStory hτ h1, q_bd, q, if_neg (show ¬ nI 1 = 0 by decide)]
        have := s6_manyS (σ := st τ 85 (2 + 9 * s) (nI 0)) (NwR_st hτ 0) hD' N hN x1 hx
        simp (disch := omega) only [q_lit, q_gt, q_bd, q_bxl, q_bxr, q_vib, q_cl, q_pos, q_lt, q_le, q_eq, q_neg, q_neg1, q_negz, q_negeq0, q_neg0le, q_rem, q_div, q_sub, q_if1, q_if0, q_okB0, q_okB1, q_dz, q_dn, q_nb, and_true, true_and, and_false, false_and, nI_add, pk_mul, if_true, if_false, ite_true, ite_false, Nat.add_zero, Nat.zero_add, Nat.reduceAdd, this]
        rfl
end C4
