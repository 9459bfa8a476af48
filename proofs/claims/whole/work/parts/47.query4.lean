/-! THE PURE PART. advertisement, feed: both sides agree. -/
section Q4
variable {σ : Hp}
theorem case_advertisement (hI : Inv σ) (N : Nat) (x1 x2 : Int32) : Agree (fL_advertisement N x1 x2) (f6_advertisement N x1 x2) σ := by
  refine qry0 hI N _ _ (fun D hc => ?_)
  obtain ⟨h1, h2, h3⟩ := hc
  have hτ : ∀ τ : Hp, (∀ k, k ≠ 100 → τ k = σ k) → NwR (st τ 84 0 0) 85 D := fun τ e => h3.congr (by rw [st_row _ _ _ _ (by omega)]; exact e 85 (by omega))
  rcases isAdv_cases h1 x1 with q | ⟨q, s, hs, rfl, h0⟩
  · refine ⟨1, 0, by omega, ?_, fun τ e => ?_⟩
    · unfold fL_advertisement f5_advertisement
      rw [s5_needAd h2 h1, q]
      rfl
    · unfold f6_advertisement f6_fails
      rw [s6_isAd (hτ τ e) h1, q_bd, q]
      rfl
  · obtain ⟨a0, a1, a2, a3, a4, a5, a6⟩ := h1.2.2.2 s hs
    have cls0 : f5_advertisement N (nI s) x2 σ = if x2 < 0 then f5_advertisement_J25 N (nI s) x2 σ else if (6 : Int32) ≤ x2 then f5_advertisement_J25 N (nI s) x2 σ else bd (f1_advertisementNumber N 1 (nI s) x2 σ) (fun r21 σ21 => some (.inl r21, σ21)) := by
      unfold f5_advertisement
      rw [s5_needAd h2 h1, q, if_neg (show ¬ (1 : Nat) = 0 by decide), q_bxl]
    cases e : inB x2 0 6
    · have n : ∀ k : Nat, k < 7 → ¬ x2 = nI k := by
        intro k hk h
        rw [h, inB_nI (by omega) (by omega) (by omega)] at e
        have := of_decide_eq_false e
        omega
      have J : f5_advertisement_J25 N (nI s) x2 σ = some (.inr 2, σ) := by
        unfold f5_advertisement_J25
        rw [if_neg (show ¬ x2 = 6 from n 6 (by omega))]
      have this : f5_advertisement N (nI s) x2 σ = some (.inr 2, σ) := by
        rw [cls0, J]
        by_cases w : x2 < 0
        · exact if_pos w
        · rw [if_neg w]
          obtain ⟨k, hk, rfl⟩ := nI_of w
          have : 7 ≤ k := by
            rcases Nat.lt_or_ge k 7 with h | h
            · exact absurd rfl (n k h)
            · exact h
          rw [if_pos (show (6 : Int32) ≤ nI k from nI_le (a := 6) (b := k) (by omega) hk)]
      refine ⟨2, 0, by omega, ?_, fun τ e' => ?_⟩
      · unfold fL_advertisement
        rw [this]
        rfl
      · unfold f6_advertisement f6_fails
        rw [s6_isAd (hτ τ e') h1, q_bd, q, if_neg (show ¬ nI 1 = 0 by decide), show f6_in N x2 0 6 (st τ 84 0 0) = some (nI (b2 (inB x2 0 6)), st τ 84 0 0) from s6_in N x2 0 6, q_bd, e]
        rfl
    · obtain ⟨v, v1, v2, rfl⟩ := inB_some e (by decide) (by decide)
      by_cases v6 : v < 6
      · refine ⟨0, nI (dA D s (v + 1)), by omega, ?_, fun τ e' => ?_⟩
        · have : f5_advertisement N (nI s) (nI v) σ = some (.inl (nI (dA D s (v + 1))), σ) := by
            rw [cls0]
            simp (disch := omega) only [q_lit, q_gt, q_bd, q_bxl, q_bxr, q_vib, q_cl, q_pos, q_lt, q_le, q_eq, q_neg, q_neg1, q_negz, q_negeq0, q_neg0le, q_rem, q_div, q_sub, q_if1, q_if0, q_okB0, q_okB1, q_dz, q_dn, q_nb, and_true, true_and, and_false, false_and, nI_add, pk_mul, if_true, if_false, ite_true, ite_false, Nat.add_zero, Nat.zero_add, Nat.reduceAdd, s1_an h2]
          unfold fL_advertisement
          rw [this]
          rfl
        · unfold f6_advertisement f6_fails
          rw [s6_isAd (hτ τ e') h1, q_bd, q, if_neg (show ¬ nI 1 = 0 by decide), show f6_in N (nI v) 0 6 (st τ 84 0 0) = some (nI (b2 (inB (nI v) 0 6)), st τ 84 0 0) from s6_in N (nI v) 0 6, q_bd, e, if_neg (show ¬ nI (b2 true) = 0 by decide), if_neg (show ¬ (6 : Int32) ≤ nI v from nI_ge (a := v) (b := 6) v6 (by omega)), show (1 : Int32) + nI v = nI (v + 1) by rw [show (1 : Int32) = nI 1 from rfl, nI_add, Nat.add_comm], s6_ad (hτ τ e') hs (by omega), q_bd]
          rfl
      · obtain rfl : v = 6 := by omega
        refine ⟨0, nI (dA D s 4 * dA D s 5 * dA D s 6), by omega, ?_, fun τ e' => ?_⟩
        · have : f5_advertisement N (nI s) (nI 6) σ = some (.inl (nI (dA D s 4 * dA D s 5 * dA D s 6)), σ) := by
            rw [cls0]
            unfold f5_advertisement_J25 f1_priceOfCells f1_cellsOf
            simp (disch := omega) only [q_lit, q_gt, q_bd, q_bxl, q_bxr, q_vib, q_cl, q_pos, q_lt, q_le, q_eq, q_neg, q_neg1, q_negz, q_negeq0, q_neg0le, q_rem, q_div, q_sub, q_if1, q_if0, q_okB0, q_okB1, q_dz, q_dn, q_nb, and_true, true_and, and_false, false_and, nI_add, pk_mul, if_true, if_false, ite_true, ite_false, Nat.add_zero, Nat.zero_add, Nat.reduceAdd, s1_an h2]
          unfold fL_advertisement
          rw [this]
          rfl
        · unfold f6_advertisement f6_fails
          rw [s6_isAd (hτ τ e') h1, q_bd, q, if_neg (show ¬ nI 1 = 0 by decide), show f6_in N (nI 6) 0 6 (st τ 84 0 0) = some (nI (b2 (inB (nI 6) 0 6)), st τ 84 0 0) from s6_in N (nI 6) 0 6, q_bd, e, if_neg (show ¬ nI (b2 true) = 0 by decide)]
          rw [show st τ 84 0 0 = st τ 84 0 (nI 0) from rfl]
          have hτ' : NwR (st τ 84 0 (nI 0)) 85 D := hτ τ e'
          simp (disch := omega) only [q_lit, q_gt, q_bd, q_bxl, q_bxr, q_vib, q_cl, q_pos, q_lt, q_le, q_eq, q_neg, q_neg1, q_negz, q_negeq0, q_neg0le, q_rem, q_div, q_sub, q_if1, q_if0, q_okB0, q_okB1, q_dz, q_dn, q_nb, and_true, true_and, and_false, false_and, nI_add, pk_mul, if_true, if_false, ite_true, ite_false, Nat.add_zero, Nat.zero_add, Nat.reduceAdd, s6_ad hτ']
          rw [show dA D s 6 * dA D s 4 * dA D s 5 = dA D s 4 * dA D s 5 * dA D s 6 by rw [Nat.mul_assoc, Nat.mul_comm]]
theorem char_ok {a : Nat} (ha : a < 65536) : vp_nar .char (nI a) = nI a := by
  unfold vp_nar
  rw [(pk_charN ha).1]
theorem case_feed (hI : Inv σ) (N : Nat) {a : Nat} (ha : a < 65536) : Agree (fL_feed N (nI a)) (f6_feed N (nI a)) σ := by
  obtain ⟨D, ⟨h1, h2, h3⟩, h4, ⟨c, n, Es, h5, h6⟩, hS, hSh, ⟨L, l1, l2, l3, l4⟩, hR⟩ := id hI
  by_cases z : L = 80
  · subst z
    refine ⟨1, σ, nI 0, st (st σ 84 0 (nI 0)) 84 0 (nI 1), by omega, ?_, ?_, st_same _ _ _ _, fun q => by omega, inv_keep hI (fun k hk => by rw [st_row _ _ _ _ (by omega), st_row _ _ _ _ (by omega)]) (fun i i1 i2 => by rw [st_ne _ _ _ _ (Or.inr i1), st_ne _ _ _ _ (Or.inr i1)])⟩
    · unfold fL_feed f5_feed f0_isFull
      simp (disch := omega) only [q_lit, q_gt, q_bd, q_bxl, q_bxr, q_vib, q_cl, q_pos, q_lt, q_le, q_eq, q_neg, q_neg1, q_negz, q_negeq0, q_neg0le, q_rem, q_div, q_sub, q_if1, q_if0, q_okB0, q_okB1, q_dz, q_dn, q_nb, and_true, true_and, and_false, false_and, nI_add, pk_mul, if_true, if_false, ite_true, ite_false, Nat.add_zero, Nat.zero_add, Nat.reduceAdd, l2]
      rfl
    · unfold f6_feed f6_fails
      simp (disch := omega) only [q_lit, q_gt, q_bd, q_bxl, q_bxr, q_vib, q_cl, q_pos, q_lt, q_le, q_eq, q_neg, q_neg1, q_negz, q_negeq0, q_neg0le, q_rem, q_div, q_sub, q_if1, q_if0, q_okB0, q_okB1, q_dz, q_dn, q_nb, and_true, true_and, and_false, false_and, nI_add, pk_mul, if_true, if_false, ite_true, ite_false, Nat.add_zero, Nat.zero_add, Nat.reduceAdd, st_get, l3]
  · have lt : L < 80 := by omega
    have frC : ∀ (τ : Hp), τ = st (st σ 80 L (nI a)) 79 1 (nI (L + 1)) → fL_feed N (nI a) σ = some (nI 0, st τ 100 0 (nI (L + 1))) := by
      intro τ e
      unfold fL_feed f5_feed f0_isFull f0_append
      simp (disch := omega) only [q_lit, q_gt, q_bd, q_bxl, q_bxr, q_vib, q_cl, q_pos, q_lt, q_le, q_eq, q_neg, q_neg1, q_negz, q_negeq0, q_neg0le, q_rem, q_div, q_sub, q_if1, q_if0, q_okB0, q_okB1, q_dz, q_dn, q_nb, and_true, true_and, and_false, false_and, nI_add, pk_mul, if_true, if_false, ite_true, ite_false, Nat.add_zero, Nat.zero_add, Nat.reduceAdd, l2, char_ok ha, st_get]
      rw [e]
      rfl
    refine ⟨0, _, nI (L + 1), st (st (st (st (st (st σ 80 L (nI a)) 79 1 (nI (L + 1))) 100 0 (nI (L + 1))) 84 0 (nI 0)) 98 L (nI a)) 84 19 (nI (L + 1)), by omega, frC _ rfl, ?_, ?_, fun _ => ?_, D, ⟨h1, h2.congr (fun k k1 k2 => ?_), h3.congr ?_⟩, h4.congr (fun k k1 k2 => ?_), ⟨c, n, Es, h5.congr (fun k hk => ?_), h6.congr ?_ ?_⟩, ?_, ?_, ⟨L + 1, by omega, ?_, ?_, fun i hi => ?_⟩, ?_⟩
    · unfold f6_feed
      simp (disch := omega) only [q_lit, q_gt, q_bd, q_bxl, q_bxr, q_vib, q_cl, q_pos, q_lt, q_le, q_eq, q_neg, q_neg1, q_negz, q_negeq0, q_neg0le, q_rem, q_div, q_sub, q_if1, q_if0, q_okB0, q_okB1, q_dz, q_dn, q_nb, and_true, true_and, and_false, false_and, nI_add, pk_mul, if_true, if_false, ite_true, ite_false, Nat.add_zero, Nat.zero_add, Nat.reduceAdd, st_get, l3]
    · simp (disch := omega) only [q_lit, q_gt, q_bd, q_bxl, q_bxr, q_vib, q_cl, q_pos, q_lt, q_le, q_eq, q_neg, q_neg1, q_negz, q_negeq0, q_neg0le, q_rem, q_div, q_sub, q_if1, q_if0, q_okB0, q_okB1, q_dz, q_dn, q_nb, and_true, true_and, and_false, false_and, nI_add, pk_mul, if_true, if_false, ite_true, ite_false, Nat.add_zero, Nat.zero_add, Nat.reduceAdd, st_get]
    · simp (disch := omega) only [q_lit, q_gt, q_bd, q_bxl, q_bxr, q_vib, q_cl, q_pos, q_lt, q_le, q_eq, q_neg, q_neg1, q_negz, q_negeq0, q_neg0le, q_rem, q_div, q_sub, q_if1, q_if0, q_okB0, q_okB1, q_dz, q_dn, q_nb, and_true, true_and, and_false, false_and, nI_add, pk_mul, if_true, if_false, ite_true, ite_false, Nat.add_zero, Nat.zero_add, Nat.reduceAdd, st_get]
    · simp (disch := omega) only [q_lit, q_gt, q_bd, q_bxl, q_bxr, q_vib, q_cl, q_pos, q_lt, q_le, q_eq, q_neg, q_neg1, q_negz, q_negeq0, q_neg0le, q_rem, q_div, q_sub, q_if1, q_if0, q_okB0, q_okB1, q_dz, q_dn, q_nb, and_true, true_and, and_false, false_and, nI_add, pk_mul, if_true, if_false, ite_true, ite_false, Nat.add_zero, Nat.zero_add, Nat.reduceAdd, st_row]
    · simp (disch := omega) only [q_lit, q_gt, q_bd, q_bxl, q_bxr, q_vib, q_cl, q_pos, q_lt, q_le, q_eq, q_neg, q_neg1, q_negz, q_negeq0, q_neg0le, q_rem, q_div, q_sub, q_if1, q_if0, q_okB0, q_okB1, q_dz, q_dn, q_nb, and_true, true_and, and_false, false_and, nI_add, pk_mul, if_true, if_false, ite_true, ite_false, Nat.add_zero, Nat.zero_add, Nat.reduceAdd, st_row]
    · simp (disch := omega) only [q_lit, q_gt, q_bd, q_bxl, q_bxr, q_vib, q_cl, q_pos, q_lt, q_le, q_eq, q_neg, q_neg1, q_negz, q_negeq0, q_neg0le, q_rem, q_div, q_sub, q_if1, q_if0, q_okB0, q_okB1, q_dz, q_dn, q_nb, and_true, true_and, and_false, false_and, nI_add, pk_mul, if_true, if_false, ite_true, ite_false, Nat.add_zero, Nat.zero_add, Nat.reduceAdd, st_row]
    · simp (disch := omega) only [q_lit, q_gt, q_bd, q_bxl, q_bxr, q_vib, q_cl, q_pos, q_lt, q_le, q_eq, q_neg, q_neg1, q_negz, q_negeq0, q_neg0le, q_rem, q_div, q_sub, q_if1, q_if0, q_okB0, q_okB1, q_dz, q_dn, q_nb, and_true, true_and, and_false, false_and, nI_add, pk_mul, if_true, if_false, ite_true, ite_false, Nat.add_zero, Nat.zero_add, Nat.reduceAdd, st_row]
    · simp (disch := omega) only [q_lit, q_gt, q_bd, q_bxl, q_bxr, q_vib, q_cl, q_pos, q_lt, q_le, q_eq, q_neg, q_neg1, q_negz, q_negeq0, q_neg0le, q_rem, q_div, q_sub, q_if1, q_if0, q_okB0, q_okB1, q_dz, q_dn, q_nb, and_true, true_and, and_false, false_and, nI_add, pk_mul, if_true, if_false, ite_true, ite_false, Nat.add_zero, Nat.zero_add, Nat.reduceAdd, st_row]
    · simp (disch := omega) only [q_lit, q_gt, q_bd, q_bxl, q_bxr, q_vib, q_cl, q_pos, q_lt, q_le, q_eq, q_neg, q_neg1, q_negz, q_negeq0, q_neg0le, q_rem, q_div, q_sub, q_if1, q_if0, q_okB0, q_okB1, q_dz, q_dn, q_nb, and_true, true_and, and_false, false_and, nI_add, pk_mul, if_true, if_false, ite_true, ite_false, Nat.add_zero, Nat.zero_add, Nat.reduceAdd, st_get]
    · unfold Sav at hS ⊢
      rcases hS with ⟨s1, s2⟩ | ⟨s1, s2, E, k1, k2, k3⟩
      · left
        simp (disch := omega) only [q_lit, q_gt, q_bd, q_bxl, q_bxr, q_vib, q_cl, q_pos, q_lt, q_le, q_eq, q_neg, q_neg1, q_negz, q_negeq0, q_neg0le, q_rem, q_div, q_sub, q_if1, q_if0, q_okB0, q_okB1, q_dz, q_dn, q_nb, and_true, true_and, and_false, false_and, nI_add, pk_mul, if_true, if_false, ite_true, ite_false, Nat.add_zero, Nat.zero_add, Nat.reduceAdd, st_get]
        exact ⟨s1, s2⟩
      · right
        refine ⟨?_, ?_, E, k1, k2.congr (fun k q1 q2 => by simp (disch := omega) only [q_lit, q_gt, q_bd, q_bxl, q_bxr, q_vib, q_cl, q_pos, q_lt, q_le, q_eq, q_neg, q_neg1, q_negz, q_negeq0, q_neg0le, q_rem, q_div, q_sub, q_if1, q_if0, q_okB0, q_okB1, q_dz, q_dn, q_nb, and_true, true_and, and_false, false_and, nI_add, pk_mul, if_true, if_false, ite_true, ite_false, Nat.add_zero, Nat.zero_add, Nat.reduceAdd, st_row]), k3.congr (by simp (disch := omega) only [q_lit, q_gt, q_bd, q_bxl, q_bxr, q_vib, q_cl, q_pos, q_lt, q_le, q_eq, q_neg, q_neg1, q_negz, q_negeq0, q_neg0le, q_rem, q_div, q_sub, q_if1, q_if0, q_okB0, q_okB1, q_dz, q_dn, q_nb, and_true, true_and, and_false, false_and, nI_add, pk_mul, if_true, if_false, ite_true, ite_false, Nat.add_zero, Nat.zero_add, Nat.reduceAdd, st_row])⟩
        · simp (disch := omega) only [q_lit, q_gt, q_bd, q_bxl, q_bxr, q_vib, q_cl, q_pos, q_lt, q_le, q_eq, q_neg, q_neg1, q_negz, q_negeq0, q_neg0le, q_rem, q_div, q_sub, q_if1, q_if0, q_okB0, q_okB1, q_dz, q_dn, q_nb, and_true, true_and, and_false, false_and, nI_add, pk_mul, if_true, if_false, ite_true, ite_false, Nat.add_zero, Nat.zero_add, Nat.reduceAdd, st_get]
          exact s1
        · simp (disch := omega) only [q_lit, q_gt, q_bd, q_bxl, q_bxr, q_vib, q_cl, q_pos, q_lt, q_le, q_eq, q_neg, q_neg1, q_negz, q_negeq0, q_neg0le, q_rem, q_div, q_sub, q_if1, q_if0, q_okB0, q_okB1, q_dz, q_dn, q_nb, and_true, true_and, and_false, false_and, nI_add, pk_mul, if_true, if_false, ite_true, ite_false, Nat.add_zero, Nat.zero_add, Nat.reduceAdd, st_get]
          exact s2
    · unfold Shf at hSh ⊢
      intro p hp
      have := hSh p hp
      simp (disch := omega) only [q_lit, q_gt, q_bd, q_bxl, q_bxr, q_vib, q_cl, q_pos, q_lt, q_le, q_eq, q_neg, q_neg1, q_negz, q_negeq0, q_neg0le, q_rem, q_div, q_sub, q_if1, q_if0, q_okB0, q_okB1, q_dz, q_dn, q_nb, and_true, true_and, and_false, false_and, nI_add, pk_mul, if_true, if_false, ite_true, ite_false, Nat.add_zero, Nat.zero_add, Nat.reduceAdd, st_row]
      exact this
    · simp (disch := omega) only [q_lit, q_gt, q_bd, q_bxl, q_bxr, q_vib, q_cl, q_pos, q_lt, q_le, q_eq, q_neg, q_neg1, q_negz, q_negeq0, q_neg0le, q_rem, q_div, q_sub, q_if1, q_if0, q_okB0, q_okB1, q_dz, q_dn, q_nb, and_true, true_and, and_false, false_and, nI_add, pk_mul, if_true, if_false, ite_true, ite_false, Nat.add_zero, Nat.zero_add, Nat.reduceAdd, st_get]
    · simp (disch := omega) only [q_lit, q_gt, q_bd, q_bxl, q_bxr, q_vib, q_cl, q_pos, q_lt, q_le, q_eq, q_neg, q_neg1, q_negz, q_negeq0, q_neg0le, q_rem, q_div, q_sub, q_if1, q_if0, q_okB0, q_okB1, q_dz, q_dn, q_nb, and_true, true_and, and_false, false_and, nI_add, pk_mul, if_true, if_false, ite_true, ite_false, Nat.add_zero, Nat.zero_add, Nat.reduceAdd, st_get]
    · by_cases w : i = L
      · refine ⟨a, ha, ?_, ?_⟩
        · simp (disch := omega) only [q_lit, q_gt, q_bd, q_bxl, q_bxr, q_vib, q_cl, q_pos, q_lt, q_le, q_eq, q_neg, q_neg1, q_negz, q_negeq0, q_neg0le, q_rem, q_div, q_sub, q_if1, q_if0, q_okB0, q_okB1, q_dz, q_dn, q_nb, and_true, true_and, and_false, false_and, nI_add, pk_mul, if_true, if_false, ite_true, ite_false, Nat.add_zero, Nat.zero_add, Nat.reduceAdd, st_get]
        · simp (disch := omega) only [q_lit, q_gt, q_bd, q_bxl, q_bxr, q_vib, q_cl, q_pos, q_lt, q_le, q_eq, q_neg, q_neg1, q_negz, q_negeq0, q_neg0le, q_rem, q_div, q_sub, q_if1, q_if0, q_okB0, q_okB1, q_dz, q_dn, q_nb, and_true, true_and, and_false, false_and, nI_add, pk_mul, if_true, if_false, ite_true, ite_false, Nat.add_zero, Nat.zero_add, Nat.reduceAdd, st_get]
      · obtain ⟨u, u1, u2, u3⟩ := l4 i (by omega)
        refine ⟨u, u1, ?_, ?_⟩
        · simp (disch := omega) only [q_lit, q_gt, q_bd, q_bxl, q_bxr, q_vib, q_cl, q_pos, q_lt, q_le, q_eq, q_neg, q_neg1, q_negz, q_negeq0, q_neg0le, q_rem, q_div, q_sub, q_if1, q_if0, q_okB0, q_okB1, q_dz, q_dn, q_nb, and_true, true_and, and_false, false_and, nI_add, pk_mul, if_true, if_false, ite_true, ite_false, Nat.add_zero, Nat.zero_add, Nat.reduceAdd, st_get]
          exact u2
        · simp (disch := omega) only [q_lit, q_gt, q_bd, q_bxl, q_bxr, q_vib, q_cl, q_pos, q_lt, q_le, q_eq, q_neg, q_neg1, q_negz, q_negeq0, q_neg0le, q_rem, q_div, q_sub, q_if1, q_if0, q_okB0, q_okB1, q_dz, q_dn, q_nb, and_true, true_and, and_false, false_and, nI_add, pk_mul, if_true, if_false, ite_true, ite_false, Nat.add_zero, Nat.zero_add, Nat.reduceAdd, st_get]
          exact u3
    · unfold Rep at hR ⊢
      simp (disch := omega) only [q_lit, q_gt, q_bd, q_bxl, q_bxr, q_vib, q_cl, q_pos, q_lt, q_le, q_eq, q_neg, q_neg1, q_negz, q_negeq0, q_neg0le, q_rem, q_div, q_sub, q_if1, q_if0, q_okB0, q_okB1, q_dz, q_dn, q_nb, and_true, true_and, and_false, false_and, nI_add, pk_mul, if_true, if_false, ite_true, ite_false, Nat.add_zero, Nat.zero_add, Nat.reduceAdd, st_get]
      exact hR
end Q4
