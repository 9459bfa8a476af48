/-! THE PURE PART. undo, save, restore, report, feed: both sides agree. -/
section C5
variable {σ : Hp}
theorem case_undo (hI : Inv σ) (N : Nat) (hN : 500 ≤ N) : Agree (fL_undo N) (f6_undo N) σ := by
  obtain ⟨D, ⟨h1, h2, h3⟩, h4, ⟨c, n, Es, h5, h6⟩, h7⟩ := id hI
  have hc := h5.2.2.1
  by_cases z : c = 0
  · subst z
    refine ⟨1, σ, nI 0, st (st σ 84 0 (nI 0)) 84 0 (nI 1), by omega, ?_, ?_, st_same _ _ _ _, fun q => by omega, inv_keep hI (fun k hk => by rw [st_row _ _ _ _ (by omega), st_row _ _ _ _ (by omega)]) (fun i i1 i2 => by rw [st_ne _ _ _ _ (Or.inr i1), st_ne _ _ _ _ (Or.inr i1)])⟩
    · unfold fL_undo f5_undo f2_isEmpty
      rw [h5.1]
      rfl
    · unfold f6_undo f6_fails
      simp (disch := omega) only [q_lit, q_gt, q_bd, q_bxl, q_bxr, q_vib, q_cl, q_pos, q_lt, q_le, q_eq, q_neg, q_neg1, q_negz, q_negeq0, q_neg0le, q_rem, q_div, q_sub, q_if1, q_if0, q_okB0, q_okB1, q_dz, q_dn, q_nb, and_true, true_and, and_false, false_and, nI_add, pk_mul, if_true, if_false, ite_true, ite_false, Nat.add_zero, Nat.zero_add, Nat.reduceAdd, st_get, h6.1]
  · obtain ⟨σ1, a1, a2, a3, a4⟩ := s2_takeBack N c n hN Es (by omega) h5
    have hD' := (h5.2.2.2.2 (c - 1) (by omega)).1
    obtain ⟨σ2, b1, b2, b3⟩ := s3_layI a3 hD' N hN
    obtain ⟨σ3, c1, c2, c3, c4⟩ := s6_copies (σ := st (st (st σ2 100 0 (nI (c - 1))) 84 0 (nI 0)) 84 5 (nI (c - 1))) N 88 1328 85 166 (166 * (c - 1)) 0 hN (by omega) (by omega) (by omega) (by omega) (by omega)
    have e5 : σ2 84 5 = nI c := by rw [b3 84 (by omega), a4 84 (by omega)]; exact h6.1
    have fr : ∀ k, k ≠ 84 → k ≠ 85 → k ≠ 100 → σ3 k = σ2 k := fun k k1 k2 k3 => by
      rw [c2 k k2, st_row _ _ _ _ k1, st_row _ _ _ _ k1, st_row _ _ _ _ k3]
    have e84 : ∀ i, i ≠ 0 → i ≠ 5 → σ3 84 i = σ 84 i := fun i i1 i2 => by
      rw [c2 84 (by omega), st_ne _ _ _ _ (Or.inr i2), st_ne _ _ _ _ (Or.inr i1), st_row _ _ _ _ (by omega), b3 84 (by omega), a4 84 (by omega)]
    refine ⟨0, st σ2 100 0 (nI (c - 1)), nI (c - 1), σ3, by omega, ?_, ?_, ?_, fun _ => ?_, Es (c - 1), ⟨hD', a3.congr (fun k k1 k2 => ?_), ?_⟩, b2.congr (fun k k1 k2 => fr k (by omega) (by omega) (by omega)), ⟨c - 1, (n + 7) % 8, Es, a2.congr (fun k hk => ?_), ?_, ?_⟩, h7.congr (Rest.of (fun k hk => ?_) (fun i i1 i2 i3 => e84 i i1 i2))⟩
    · unfold fL_undo f5_undo f2_isEmpty
      simp (disch := omega) only [q_lit, q_gt, q_bd, q_bxl, q_bxr, q_vib, q_cl, q_pos, q_lt, q_le, q_eq, q_neg, q_neg1, q_negz, q_negeq0, q_neg0le, q_rem, q_div, q_sub, q_if1, q_if0, q_okB0, q_okB1, q_dz, q_dn, q_nb, and_true, true_and, and_false, false_and, nI_add, pk_mul, if_true, if_false, ite_true, ite_false, Nat.add_zero, Nat.zero_add, Nat.reduceAdd, h5.1, a1, b1]
      rfl
    · unfold f6_undo
      have e5' : (st (st σ2 100 0 (nI (c - 1))) 84 0 (nI 0)) 84 5 = nI c := by rw [st_ne _ _ _ _ (Or.inr (by omega)), st_row _ _ _ _ (by omega)]; exact e5
      rw [show st (st σ2 100 0 (nI (c - 1))) 84 0 0 = st (st σ2 100 0 (nI (c - 1))) 84 0 (nI 0) from rfl, e5', if_neg (show ¬ nI c = 0 from fun q => z (by rw [show (0 : Int32) = nI 0 from rfl, nI_eq (by omega) (by omega)] at q; exact q)), show nI c - 1 = nI (c - 1) from q_sub (a := c) (b := 1) (by omega), st_same, show (166 : Int32) * nI (c - 1) = nI (166 * (c - 1)) from pk_mul 166 (c - 1)]
      rw [show f6_copies N 88 1328 85 166 (nI (166 * (c - 1))) 0 _ = _ from c1, q_bd, c2 84 (by omega), st_same]
    · rw [c2 84 (by omega), st_ne _ _ _ _ (Or.inr (by omega)), st_same]
    · rw [c2 100 (by omega), st_row _ _ _ _ (by omega), st_row _ _ _ _ (by omega), st_same]
    · rw [fr k (by omega) (by omega) (by omega), b3 k (by omega)]
    · intro i hi
      have := c3 i hi
      rw [Nat.zero_add] at this
      rw [this, st_row _ _ _ _ (by omega), st_row _ _ _ _ (by omega), st_row _ _ _ _ (by omega), b3 88 (by omega), a4 88 (by omega)]
      exact h6.2 (c - 1) (by omega) i hi
    · rw [fr k (by omega) (by omega) (by omega), b3 k (by omega)]
    · rw [c2 84 (by omega), st_same]
    · intro k hk i hi
      rw [fr 88 (by omega) (by omega) (by omega), b3 88 (by omega), a4 88 (by omega)]
      exact h6.2 k (by omega) i hi
    · rw [fr k (by omega) (by omega) (by omega), b3 k (by omega), a4 k (by omega)]
theorem case_restore (hI : Inv σ) (N : Nat) (hN : 500 ≤ N) : Agree (fL_restore N) (f6_restore N) σ := by
  obtain ⟨D, ⟨h1, h2, h3⟩, h4, ⟨c, n, Es, h5, h6⟩, h7⟩ := id hI
  rcases h7.1 with ⟨s1, s2⟩ | ⟨s1, s2, E, k1, k2, k3⟩
  · refine ⟨1, σ, nI 0, st (st σ 84 0 (nI 0)) 84 0 (nI 1), by omega, ?_, ?_, st_same _ _ _ _, fun q => by omega, inv_keep hI (fun k hk => by rw [st_row _ _ _ _ (by omega), st_row _ _ _ _ (by omega)]) (fun i i1 i2 => by rw [st_ne _ _ _ _ (Or.inr i1), st_ne _ _ _ _ (Or.inr i1)])⟩
    · unfold fL_restore f5_restore
      rw [s1]
      rfl
    · unfold f6_restore f6_fails
      simp (disch := omega) only [q_lit, q_gt, q_bd, q_bxl, q_bxr, q_vib, q_cl, q_pos, q_lt, q_le, q_eq, q_neg, q_neg1, q_negz, q_negeq0, q_neg0le, q_rem, q_div, q_sub, q_if1, q_if0, q_okB0, q_okB1, q_dz, q_dn, q_nb, and_true, true_and, and_false, false_and, nI_add, pk_mul, if_true, if_false, ite_true, ite_false, Nat.add_zero, Nat.zero_add, Nat.reduceAdd, st_get, s2]
  · obtain ⟨σ1, a1, a2, a3⟩ := s1_copyFrom N 1 11 hN k2 k1 (by omega)
    have hE2 : EdR (st σ1 74 2 (nI 0)) 1 E := a2.congr (fun k q1 q2 => st_row _ _ _ _ (by omega))
    obtain ⟨σ2, b1, b2, b3⟩ := s3_layI hE2 k1 N hN
    have hE3 : EdR σ2 1 E := hE2.congr (fun k q1 q2 => b3 k (by omega))
    obtain ⟨σ3, c1, c2, c3, c4⟩ := s6_copies (σ := st (st σ2 100 0 (nI (nS E))) 84 0 (nI 0)) N 87 166 85 166 0 0 hN (by omega) (by omega) (by omega) (by omega) (by omega)
    have e6 : σ2 84 6 = nI 1 := by rw [b3 84 (by omega), st_row _ _ _ _ (by omega), a3 84 (by omega)]; exact s2
    have fr : ∀ k, k ≠ 84 → k ≠ 85 → k ≠ 100 → st σ3 84 5 (nI 0) k = σ2 k := fun k k1 k2 k3 => by
      rw [st_row _ _ _ _ k1, c2 k k2, st_row _ _ _ _ k1, st_row _ _ _ _ k3]
    have e84 : ∀ i, i ≠ 0 → i ≠ 5 → st σ3 84 5 (nI 0) 84 i = σ 84 i := fun i i1 i2 => by
      rw [st_ne _ _ _ _ (Or.inr i2), c2 84 (by omega), st_ne _ _ _ _ (Or.inr i1), st_row _ _ _ _ (by omega), b3 84 (by omega), st_row _ _ _ _ (by omega), a3 84 (by omega)]
    have hNw : NwR (st σ3 84 5 (nI 0)) 85 E := by
      intro i hi
      have := c3 i hi
      rw [Nat.zero_add] at this
      rw [st_row _ _ _ _ (by omega), this, st_row _ _ _ _ (by omega), st_row _ _ _ _ (by omega), b3 87 (by omega), st_row _ _ _ _ (by omega), a3 87 (by omega)]
      exact k3 i hi
    refine ⟨0, st σ2 100 0 (nI (nS E)), nI (nS E), st σ3 84 5 (nI 0), by omega, ?_, ?_, ?_, fun _ => ?_, E, ⟨k1, hE3.congr (fun k q1 q2 => fr k (by omega) (by omega) (by omega)), hNw⟩, b2.congr (fun k q1 q2 => fr k (by omega) (by omega) (by omega)), ⟨0, n, Es, ⟨?_, ?_, by omega, h5.2.2.2.1, fun k hk => absurd hk (Nat.not_lt_zero k)⟩, st_same _ _ _ _, fun k hk => absurd hk (Nat.not_lt_zero k)⟩, h7.congr (Rest.of (fun k hk => ?_) (fun i i1 i2 i3 => e84 i i1 i2))⟩
    · unfold fL_restore f5_restore f2_forget
      simp (disch := omega) only [q_lit, q_gt, q_bd, q_bxl, q_bxr, q_vib, q_cl, q_pos, q_lt, q_le, q_eq, q_neg, q_neg1, q_negz, q_negeq0, q_neg0le, q_rem, q_div, q_sub, q_if1, q_if0, q_okB0, q_okB1, q_dz, q_dn, q_nb, and_true, true_and, and_false, false_and, nI_add, pk_mul, if_true, if_false, ite_true, ite_false, Nat.add_zero, Nat.zero_add, Nat.reduceAdd, s1, a1, b1, s1_storyCount 1 hE3 k1 N hN]
      rfl
    · unfold f6_restore
      have e6' : (st (st σ2 100 0 (nI (nS E))) 84 0 (nI 0)) 84 6 = nI 1 := by rw [st_ne _ _ _ _ (Or.inr (by omega)), st_row _ _ _ _ (by omega)]; exact e6
      rw [show (st (st σ2 100 0 (nI (nS E))) 84 0 0) = (st (st σ2 100 0 (nI (nS E))) 84 0 (nI 0)) from rfl, e6', if_neg (show ¬ nI 1 = 0 by decide)]
      rw [show f6_copies N 87 166 85 166 0 0 _ = _ from c1, q_bd, show st σ3 84 5 0 = st σ3 84 5 (nI 0) from rfl, s6_manyS hNw k1 N hN 1 (by decide), q_bd]
    · rw [st_ne _ _ _ _ (Or.inr (by omega)), c2 84 (by omega), st_same]
    · rw [st_row _ _ _ _ (by omega), c2 100 (by omega), st_row _ _ _ _ (by omega), st_same]
    · rw [fr 74 (by omega) (by omega) (by omega), b3 74 (by omega), st_same]
    · rw [fr 74 (by omega) (by omega) (by omega), b3 74 (by omega), st_ne _ _ _ _ (Or.inr (by omega)), a3 74 (by omega)]
      exact h5.2.1
    · rw [fr k (by omega) (by omega) (by omega), b3 k (by omega), st_row _ _ _ _ (by omega), a3 k (by omega)]
theorem case_save (hI : Inv σ) (N : Nat) (hN : 500 ≤ N) : ∃ r σ1 σ2, f5_save N σ = some (r, σ1) ∧ f6_save N σ1 = some (r, σ2) ∧ Inv σ2 := by
  obtain ⟨D, ⟨h1, h2, h3⟩, h4, ⟨c, n, Es, h5, h6⟩, h7⟩ := id hI
  obtain ⟨σ1, a1, a2, a3⟩ := s1_copyFrom N 11 1 hN h2 h1 (by omega)
  have hE2 : EdR (st σ1 0 8 (nI 1)) 1 D := h2.congr (fun k q1 q2 => by rw [st_row _ _ _ _ (by omega)]; exact a3 k (by omega))
  obtain ⟨σ3, c1, c2, c3, c4⟩ := s6_copies (σ := st (st σ1 0 8 (nI 1)) 84 0 (nI 0)) N 85 166 87 166 0 0 hN (by omega) (by omega) (by omega) (by omega) (by omega)
  have fr : ∀ k, k ≠ 0 → ¬ (11 ≤ k ∧ k ≤ 15) → k ≠ 84 → k ≠ 87 → st σ3 84 6 (nI 1) k = σ k := fun k k0 k1 k2 k3 => by
    rw [st_row _ _ _ _ k2, c2 k k3, st_row _ _ _ _ k2, st_row _ _ _ _ k0, a3 k (by omega)]
  have e84 : ∀ i, i ≠ 0 → i ≠ 6 → st σ3 84 6 (nI 1) 84 i = σ 84 i := fun i i1 i2 => by
    rw [st_ne _ _ _ _ (Or.inr i2), c2 84 (by omega), st_ne _ _ _ _ (Or.inr i1), st_row _ _ _ _ (by omega), a3 84 (by omega)]
  have hNw : NwR (st σ3 84 6 (nI 1)) 85 D := h3.congr (fr 85 (by omega) (by omega) (by omega) (by omega))
  have e0 : ∀ i, i ≠ 8 → st σ3 84 6 (nI 1) 0 i = σ 0 i := fun i hi => by
    rw [st_row _ _ _ _ (by omega), c2 0 (by omega), st_row _ _ _ _ (by omega), st_ne _ _ _ _ (Or.inr hi), a3 0 (by omega)]
  refine ⟨nI (nS D), st σ1 0 8 (nI 1), st σ3 84 6 (nI 1), ?_, ?_, D, ⟨h1, h2.congr (fun k q1 q2 => fr k (by omega) (by omega) (by omega) (by omega)), hNw⟩, h4.congr (fun k q1 q2 => fr k (by omega) (by omega) (by omega) (by omega)), ⟨c, n, Es, h5.congr (fun k hk => fr k (by omega) (by omega) (by omega) (by omega)), h6.congr (fr 88 (by omega) (by omega) (by omega) (by omega)) (e84 5 (by omega) (by omega))⟩, Or.inr ⟨?_, st_same _ _ _ _, D, h1, a2.congr (fun k q1 q2 => ?_), fun i hi => ?_⟩, ?_, ?_, ?_⟩
  · unfold f5_save
    simp (disch := omega) only [q_lit, q_gt, q_bd, q_bxl, q_bxr, q_vib, q_cl, q_pos, q_lt, q_le, q_eq, q_neg, q_neg1, q_negz, q_negeq0, q_neg0le, q_rem, q_div, q_sub, q_if1, q_if0, q_okB0, q_okB1, q_dz, q_dn, q_nb, and_true, true_and, and_false, false_and, nI_add, pk_mul, if_true, if_false, ite_true, ite_false, Nat.add_zero, Nat.zero_add, Nat.reduceAdd, a1, s1_storyCount 1 hE2 h1 N hN]
  · unfold f6_save
    simp (disch := omega) only [q_lit, q_gt, q_bd, q_bxl, q_bxr, q_vib, q_cl, q_pos, q_lt, q_le, q_eq, q_neg, q_neg1, q_negz, q_negeq0, q_neg0le, q_rem, q_div, q_sub, q_if1, q_if0, q_okB0, q_okB1, q_dz, q_dn, q_nb, and_true, true_and, and_false, false_and, nI_add, pk_mul, if_true, if_false, ite_true, ite_false, Nat.add_zero, Nat.zero_add, Nat.reduceAdd, c1]
    rw [s6_manyS hNw h1 N hN (nI 1) (by decide), q_bd]
  · rw [st_row _ _ _ _ (by omega), c2 0 (by omega), st_row _ _ _ _ (by omega), st_same]
  · rw [st_row _ _ _ _ (by omega), c2 k (by omega), st_row _ _ _ _ (by omega), st_row _ _ _ _ (by omega)]
  · have := c3 i hi
    rw [Nat.zero_add] at this
    rw [st_row _ _ _ _ (by omega), this, st_row _ _ _ _ (by omega), st_row _ _ _ _ (by omega), a3 85 (by omega)]
    exact h3 i hi
  · have := h7.2.1
    unfold Shf at this ⊢
    rw [fr 77 (by omega) (by omega) (by omega) (by omega), fr 78 (by omega) (by omega) (by omega) (by omega), fr 96 (by omega) (by omega) (by omega) (by omega), fr 97 (by omega) (by omega) (by omega) (by omega)]
    exact this
  · have := h7.2.2.1
    unfold Inp at this ⊢
    rw [fr 79 (by omega) (by omega) (by omega) (by omega), fr 80 (by omega) (by omega) (by omega) (by omega), fr 98 (by omega) (by omega) (by omega) (by omega), e84 19 (by omega) (by omega)]
    exact this
  · have := h7.2.2.2
    unfold Rep at this ⊢
    rw [e0 9 (by omega), e0 10 (by omega), e0 11 (by omega), e84 21 (by omega) (by omega), e84 22 (by omega) (by omega)]
    exact this
end C5
