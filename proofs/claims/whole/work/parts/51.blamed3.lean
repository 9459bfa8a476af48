/-! THE PURE PART. blamed: both sides agree. -/
theorem inv_keep2 {σ σ' : Hp} (h : Inv σ) (e : ∀ k, k < 6 ∨ (10 < k ∧ k ≤ 64) ∨ (74 ≤ k ∧ k ≤ 83) ∨ k = 85 ∨ k = 87 ∨ k = 88 ∨ (96 ≤ k ∧ k ≤ 98) → σ' k = σ k) (e84 : ∀ i, i ≠ 0 → i ≠ 14 → σ' 84 i = σ 84 i) : Inv σ' := by
  obtain ⟨D, ⟨h1, h2, h3⟩, h4, ⟨c, n, Es, h5, h6⟩, h7⟩ := h
  exact ⟨D, ⟨h1, h2.congr (fun k k1 k2 => e k (by omega)), h3.congr (e 85 (by omega))⟩, h4.congr (fun k k1 k2 => e k (by omega)), ⟨c, n, Es, h5.congr (fun k hk => e k (by omega)), h6.congr (e 88 (by omega)) (e84 5 (by omega) (by omega))⟩, h7.congr (Rest.of (fun k hk => e k (by omega)) (fun i i1 i2 i3 => e84 i i1 i3))⟩
theorem asks_ok {σ : Hp} {D : Nat → Nat} (hD : DOk D) (N : Nat) (hN : 500 ≤ N) (hNw : NwR σ 85 D) (Y0 : Ly) (h0 : Ly0 Y0) : ∃ τ, f6_asks N σ = some ((), τ) ∧ Asked τ D (layN D 99 Y0 (nS D)) ∧ τ 84 0 = nI 0 ∧ (∀ k, k < 84 ∨ (84 < k ∧ k < 89) ∨ 95 < k → τ k = σ k) ∧ (∀ i, i ≠ 0 → i ≠ 14 → τ 84 i = σ 84 i) := by
  have hN1 : NwR (st σ 84 0 (nI 0)) 85 D := hNw.congr (st_row _ _ _ _ (by omega))
  obtain ⟨τ, a1, a2, a3, a4, a5, a6⟩ := s6_lays hN1 hD N 99 (-nI 1) (fun s hs => ⟨fun q => by rw [q_neg (by omega)] at q; exact q.elim, fun q => by omega⟩) hN Y0 h0
  refine ⟨τ, ?_, ⟨hN1.congr (a2 85 (by omega)), ⟨a6.1, a6.2.1, fun s hs hp => a6.2.2 s hs ⟨by omega, hp⟩⟩, a4, a5⟩, ?_, fun k hk => ?_, fun i i1 i2 => ?_⟩
  · unfold f6_asks
    rw [show f6_lays N (-1) (st σ 84 0 0) = some ((), τ) from a1, q_bd]
  · rw [a3 0 (by omega), st_same]
  · rw [a2 k hk, st_row _ _ _ _ (by omega)]
  · rw [a3 i i2, st_ne _ _ _ _ (Or.inr i1)]
theorem case_blamed {σ : Hp} (hI : Inv σ) (N : Nat) (hN : 500 ≤ N) (x1 : Int32) : Agree (fL_blamed N x1) (f6_blamed N x1) σ := by
  obtain ⟨D, ⟨h1, h2, h3⟩, ⟨Y0, y1, y2, y3, y4⟩, h5, h7⟩ := id hI
  rcases isS_cases h1 x1 with q | ⟨q, s, hs, rfl, h0⟩
  · obtain ⟨τ, t1, t2, t3, t4, t5⟩ := asks_ok h1 N hN h3 Y0 y1
    refine ⟨1, σ, nI 0, st τ 84 0 (nI 1), by omega, ?_, ?_, st_same _ _ _ _, fun q => by omega, inv_keep2 hI (fun k hk => by rw [st_row _ _ _ _ (by omega), t4 k (by omega)]) (fun i i1 i2 => by rw [st_ne _ _ _ _ (Or.inr i1)]; exact t5 i i1 i2)⟩
    · unfold fL_blamed f5_blamed
      rw [s5_needStory h2 h1, q]
      rfl
    · unfold f6_blamed f6_fails
      rw [t1, q_bd, s6_isStory t2.1 h1, q_bd, q]
      rfl
  · have hc : cnt D s ≤ 12 := cntB_le _ _
    have refHead : ∀ τ, Asked τ D (layN D 99 Y0 (nS D)) → bd (f6_isStory N (nI s) τ) (fun r6 σ6 => if r6 = 0 then bd (f6_fails N 1 σ6) (fun r14 σ14 => some (r14, σ14)) else gd (vib (nI s) 12) (bd (f6_of N (nI s) 1 σ6) (fun r27 σ27 => if (σ6 92 (nI s).toNatClampNeg) = r27 then bd (f6_fails N 2 σ27) (fun r35 σ35 => some (r35, σ35)) else bd (f6_rankOf N (nI s) σ27) (fun r41 σ41 => f6_blamed_L47 N (nI s) (fun σL47 => bd (f6_fails N 2 σL47) (fun r88 σ88 => some (r88, σ88))) N (r41 - 1) σ41)))) = if stP (layN D 99 Y0 (nS D)) s = nI (dS D s 1) then some (nI 0, st τ 84 0 (nI 2)) else f6_blamed_L47 N (nI s) (fun σL47 => bd (f6_fails N 2 σL47) (fun r88 σ88 => some (r88, σ88))) N (nI (cnt D s) - 1) τ := by
      intro τ hτ
      have p := (hτ.2.1.2.2 s hs h0).2.2.1
      have p' : τ 92 s = stP (layN D 99 Y0 (nS D)) s := p
      rw [s6_isStory hτ.1 h1, q_bd, q, if_neg (show ¬ nI 1 = 0 by decide), q_vib hs (by omega), q_gt, q_cl (show s < 2 ^ 31 by omega), show f6_of N (nI s) 1 τ = some (nI (dS D s 1), τ) from s6_of hτ.1 hs (k := 1) (by omega) N, q_bd, p', s6_rankOf hτ.2.2.1 hτ.2.2.2 N hN hs h0, q_bd]
      rfl
    have own := s3_ownPage y2 h2 N hs
    by_cases w : stP (layN D 99 Y0 (nS D)) s = nI (dS D s 1)
    · obtain ⟨τ, t1, t2, t3, t4, t5⟩ := asks_ok h1 N hN h3 Y0 y1
      refine ⟨2, σ, nI 0, st τ 84 0 (nI 2), by omega, ?_, ?_, st_same _ _ _ _, fun q => by omega, inv_keep2 hI (fun k hk => by rw [st_row _ _ _ _ (by omega), t4 k (by omega)]) (fun i i1 i2 => by rw [st_ne _ _ _ _ (Or.inr i1)]; exact t5 i i1 i2)⟩
      · unfold fL_blamed f5_blamed
        rw [s5_needStory h2 h1, q, if_neg (show ¬ (1 : Nat) = 0 by decide), q_bxl, own, q_bd, if_pos w]
        rfl
      · unfold f6_blamed
        rw [t1, q_bd]
        refine Eq.trans (refHead τ t2) ?_
        rw [if_pos w]
    · obtain ⟨σ1, c1, c2⟩ := cls_blamed h1 N s hN hs h0 (fun σL35 => some (.inr 4, σL35)) (fun _ _ => none) (cnt D s) N σ (Nat.le_refl _) (by omega) h2 y4
      have rk : f3_rankOf N 56 (nI s) σ = some (nI (cnt D s), σ) := by
        unfold f3_rankOf
        simp (disch := omega) only [q_lit, q_gt, q_bd, q_bxl, q_bxr, q_vib, q_cl, q_pos, q_lt, q_le, q_eq, q_neg, q_neg1, q_negz, q_negeq0, q_neg0le, q_rem, q_div, q_sub, q_if1, q_if0, q_okB0, q_okB1, q_dz, q_dn, q_nb, and_true, true_and, and_false, false_and, nI_add, pk_mul, if_true, if_false, ite_true, ite_false, Nat.add_zero, Nat.zero_add, Nat.reduceAdd, s5_isStoryIndex, y3 s hs h0]
      have cls : f5_blamed N (nI s) σ = om (blF D s (cnt D s)) (some (.inr 4, σ1)) (fun w => some (.inl (nI w), σ1)) := by
        rw [← c1]
        unfold f5_blamed
        rw [s5_needStory h2 h1, q, if_neg (show ¬ (1 : Nat) = 0 by decide), q_bxl, own, q_bd, if_neg w, if_pos (show nI 0 = 0 from rfl), rk, q_bd]
        rfl
      have hE1 : ∀ σm, (∀ k, k ≠ 100 → σm k = σ1 k) → ∃ σ', f6_blamed N (nI s) σm = om (blF D s (cnt D s)) (some (nI 0, st σ' 84 0 (nI 2))) (fun w => some (nI w, σ')) ∧ σ' 84 0 = nI 0 ∧ σ' 100 = σm 100 ∧ (∀ k, k < 6 ∨ (10 < k ∧ k ≤ 64) ∨ (74 ≤ k ∧ k ≤ 83) ∨ k = 85 ∨ k = 87 ∨ k = 88 ∨ (96 ≤ k ∧ k ≤ 98) → σ' k = σ k) ∧ (∀ i, i ≠ 0 → i ≠ 14 → σ' 84 i = σ 84 i) := by
        intro σm em
        obtain ⟨τ, t1, t2, t3, t4, t5⟩ := asks_ok (σ := σm) h1 N hN (h3.congr (by rw [em 85 (by omega), c2 85 (by omega)])) Y0 y1
        obtain ⟨σ2, d1, d2, d3⟩ := ref_blamed h1 N s hN hs h0 (fun σL47 => bd (f6_fails N 2 σL47) (fun r88 σ88 => some (r88, σ88))) (fun _ _ => none) (cnt D s) N τ (Nat.le_refl _) (by omega) t2.1 t2.2.2.2
        refine ⟨σ2, ?_, by rw [d3 0 (by omega)]; exact t3, by rw [d2 100 (by omega), t4 100 (by omega)], fun k hk => ?_, fun i i1 i2 => ?_⟩
        · unfold f6_blamed
          rw [t1, q_bd]
          refine Eq.trans (refHead τ t2) ?_
          rw [if_neg w]
          refine Eq.trans (show _ = _ from d1) ?_
          cases blF D s (cnt D s)
          · rfl
          · rfl
        · rw [d2 k (by omega), t4 k (by omega), em k (by omega), c2 k (by omega)]
        · rw [d3 i i2, t5 i i1 i2, em 84 (by omega), c2 84 (by omega)]
      cases e : blF D s (cnt D s) with
      | none =>
        obtain ⟨σ2, d1, d2, d3, d4, d5⟩ := hE1 σ1 (fun _ _ => rfl)
        rw [e] at cls d1
        refine ⟨2, σ1, nI 0, st σ2 84 0 (nI 2), by omega, ?_, d1, st_same _ _ _ _, fun q => by omega, inv_keep2 hI (fun k hk => by rw [st_row _ _ _ _ (by omega)]; exact d4 k hk) (fun i i1 i2 => by rw [st_ne _ _ _ _ (Or.inr i1)]; exact d5 i i1 i2)⟩
        unfold fL_blamed
        rw [cls]
        rfl
      | some v =>
        obtain ⟨σ2, d1, d2, d3, d4, d5⟩ := hE1 (st σ1 100 0 (nI v)) (fun k hk => st_row _ _ _ _ hk)
        rw [e] at cls d1
        refine ⟨0, st σ1 100 0 (nI v), nI v, σ2, by omega, ?_, d1, d2, fun _ => by rw [d3, st_same], inv_keep2 hI d4 d5⟩
        unfold fL_blamed
        rw [cls]
        rfl
