/-! THE PURE PART. linesIf: both sides agree. -/
section Q5
variable {σ : Hp}
theorem back_late {D : Nat → Nat} {s v : Nat} {τ : Hp} (h : NwR τ 85 (setD (setD D s 8 v) s 8 (dS D s 8))) : NwR τ 85 D := by
  intro i hi
  rw [h i hi]
  unfold setD upN dS
  by_cases z : i = 2 + 9 * s + 8
  · rw [if_pos z, z]
  · rw [if_neg z, if_neg z]
theorem case_linesIf (hI : Inv σ) (N : Nat) (hN : 500 ≤ N) (x1 x2 : Int32) : Agree (fL_linesIf N x1 x2) (f6_linesIf N x1 x2) σ := by
  obtain ⟨D, ⟨h1, h2, h3⟩, h4, ⟨c, n, Es, h5, h6⟩, h7⟩ := id hI
  rcases isS_cases h1 x1 with q | ⟨q, s, hs, rfl, h0⟩
  · refine ⟨1, σ, nI 0, st (st σ 84 0 (nI 0)) 84 0 (nI 1), by omega, ?_, ?_, st_same _ _ _ _, fun q => by omega, inv_keep hI (fun k hk => by rw [st_row _ _ _ _ (by omega), st_row _ _ _ _ (by omega)]) (fun i i1 i2 => by rw [st_ne _ _ _ _ (Or.inr i1), st_ne _ _ _ _ (Or.inr i1)])⟩
    · unfold fL_linesIf f5_linesIf
      rw [s5_needStory h2 h1, q]
      rfl
    · unfold f6_linesIf f6_fails
      rw [show st σ 84 0 0 = st σ 84 0 (nI 0) from rfl, s6_isStory (h3.congr (st_row _ _ _ _ (by omega))) h1, q_bd, q]
      rfl
  · have hv : (if x2 = nI 0 then 0 else 1) ≤ 1 := by split <;> omega
    revert hv
    generalize hvv : (if x2 = nI 0 then 0 else 1) = v
    intro hv
    have hD' := late_ok (v := v) h1 hs hv
    obtain ⟨σ1, a1, a2, a3⟩ := s1_copyFrom N 6 1 hN h2 h1 (by omega)
    have hE2 := EdR_st a2 hs (k := 7) (by omega) v
    obtain ⟨σ3, Y0, b1, b2, b3, b4, b5, b6⟩ := s3_layOut (σ := st σ1 (6 + 2) (s * 8 + 7) (nI v)) (g := 65) (Or.inr rfl) hE2 hD' N hN
    have h0' : dS (setD D s 8 v) s 0 = 1 := by rw [setD_S (by omega) (by omega), if_neg (by omega)]; exact h0
    have frC : ∀ k, k < 6 ∨ (10 < k ∧ k ≤ 65) ∨ 73 < k → σ3 k = σ k := fun k hk => by
      rw [b2 k (by omega), st_row _ _ _ _ (by omega), a3 k (by omega)]
    generalize hY : layN (setD D s 8 v) 99 Y0 (nS (setD D s 8 v)) = Y at b4
    have hcls : fL_linesIf N (nI s) x2 σ = some (nI 0, st σ3 100 0 (nI (ll Y s))) := by
      unfold fL_linesIf f5_linesIf
      rw [s5_needStory h2 h1, q, if_neg (show ¬ (1 : Nat) = 0 by decide), q_bxl, a1, q_bd, s1_putLate N 6 hs, q_bd, hvv, b1, q_bd, s3_linesOnP b4.w N hs, q_bd]
      rfl
    have hN3 : NwR (st (st σ3 100 0 (nI (ll Y s))) 84 0 (nI 0)) 85 D := h3.congr (by rw [st_row _ _ _ _ (by omega), st_row _ _ _ _ (by omega)]; exact frC 85 (by omega))
    obtain ⟨σ4, c1, c2, c3⟩ := s6_laysLate_ok hN3 h1 N s v hs h0
    obtain ⟨σ5, d1, d2, d3, d4, d5, d6⟩ := s6_lays c2 hD' N 99 (-nI 1) (fun s hs => ⟨fun q => by rw [q_neg (by omega)] at q; exact q.elim, fun q => by omega⟩) hN Y0 b3
    rw [hY] at d6
    have hR5 : RfR (fun t => dS (setD D s 8 v) t 0 = 1) σ5 Y := ⟨d6.1, d6.2.1, fun t ht hp => d6.2.2 t ht ⟨by omega, hp⟩⟩
    have hG : GoodS (setD D s 8 v) Y s := by rw [← hY]; exact good_lay hD' b3 _ (Nat.le_refl _) s hs
    have lin := s6_linesOn hR5 N hN hs h0' hG (hD'.2.2.1 s hs)
    obtain ⟨σ6, e1, e2, e3⟩ := s6_laysLate_ok (c2.congr (d2 85 (by omega))) hD' N s (dS D s 8) hs h0'
    have hN6 := back_late e2
    have fr : ∀ k, k < 84 ∨ (85 < k ∧ k < 89) ∨ (95 < k ∧ k ≠ 100) → σ6 k = σ3 k := fun k hk => by
      rw [e3 k (by omega), d2 k (by omega), c3 k (by omega), st_row _ _ _ _ (by omega), st_row _ _ _ _ (by omega)]
    have e84 : ∀ i, i ≠ 0 → i ≠ 14 → σ6 84 i = σ 84 i := fun i i1 i2 => by
      rw [e3 84 (by omega), d3 i i2, c3 84 (by omega), st_ne _ _ _ _ (Or.inr i1), st_row _ _ _ _ (by omega), frC 84 (by omega)]
    refine ⟨0, _, nI (ll Y s), σ6, by omega, hcls, ?_, ?_, fun _ => ?_, D, ⟨h1, h2.congr (fun k k1 k2 => ?_), hN6⟩, h4.congr (fun k k1 k2 => ?_), ⟨c, n, Es, h5.congr (fun k hk => ?_), h6.congr ?_ (e84 5 (by omega) (by omega))⟩, h7.congr (Rest.of (fun k hk => ?_) (fun i i1 i2 i3 => e84 i i1 i3))⟩
    · have J : f6_linesIf_J30 N (nI s) x2 (nI v) (nI s) (st (st σ3 100 0 (nI (ll Y s))) 84 0 (nI 0)) = some (nI (ll Y s), σ6) := by
        unfold f6_linesIf_J30
        rw [c1, q_bd, show f6_lays N (-1) σ4 = some ((), σ5) from d1, q_bd, lin, q_bd, e1, q_bd]
      unfold f6_linesIf
      rw [show st (st σ3 100 0 (nI (ll Y s))) 84 0 0 = st (st σ3 100 0 (nI (ll Y s))) 84 0 (nI 0) from rfl, s6_isStory hN3 h1, q_bd, q, if_neg (show ¬ nI 1 = 0 by decide)]
      by_cases w : x2 = nI 0
      · rw [if_pos w] at hvv
        rw [if_pos (show x2 = 0 from w), ← J, ← hvv]
        rfl
      · rw [if_neg w] at hvv
        rw [if_neg (show ¬ x2 = 0 from w), ← J, ← hvv]
        rfl
    · rw [e3 84 (by omega), d3 0 (by omega), c3 84 (by omega), st_same]
    · rw [e3 100 (by omega), d2 100 (by omega), c3 100 (by omega), st_row _ _ _ _ (by omega), st_same]
    · rw [fr k (by omega), frC k (by omega)]
    · rw [fr k (by omega), frC k (by omega)]
    · rw [fr k (by omega), frC k (by omega)]
    · rw [fr 88 (by omega), frC 88 (by omega)]
    · rw [fr k (by omega), frC k (by omega)]
end Q5
