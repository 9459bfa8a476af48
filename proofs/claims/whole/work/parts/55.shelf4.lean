/-! THE PURE PART. layDown: both sides agree. -/
section SH4
variable {σ : Hp}
theorem agree_no (hI : Inv σ) (f : Nat) (hf : 0 < f) (hf2 : f < 10) (A B : Hp → Option (Int32 × Hp)) (hA : A σ = some (nI f, σ)) (hB : B σ = some (nI 0, st (st σ 84 0 (nI 0)) 84 0 (nI f))) : Agree A B σ :=
  ⟨f, σ, nI 0, _, hf2, hA, hB, st_same _ _ _ _, fun q => by omega, inv_keep hI (fun k hk => by rw [st_row _ _ _ _ (by omega), st_row _ _ _ _ (by omega)]) (fun i i1 i2 => by rw [st_ne _ _ _ _ (Or.inr i1), st_ne _ _ _ _ (Or.inr i1)])⟩
theorem lay_story {D : Nat → Nat} (hI : Inv σ) (h1 : DOk D) (h2 : EdR σ 1 D) (h3 : NwR σ 85 D) (N : Nat) (hN : 500 ≤ N) (r pl s : Nat) (hr : r < 3) (hr1 : r ≠ 1) (hpl : pl < 4) (hs : s < 12) (h0 : dS D s 0 = 1) : Agree (fL_layDown N (nI r) (nI pl) (nI 1) (nI s)) (f6_layDown N (nI r) (nI pl) (nI 1) (nI s)) σ := by
  have hSh : Shf σ := by
    obtain ⟨D, -, -, -, -, hSh, -⟩ := hI
    exact hSh
  obtain ⟨σ1, k1, k2, k3, k4, k5⟩ := s4_keepStory N (r * 4 + pl) s hN h2 (by omega) hs
  generalize hn : cntB (flB σ1 r) 4 = n
  have hF := s4_filled (σ := σ1) N r hN hr
  rw [hn] at hF
  have e1 : inB (nI r) 0 2 = true := by rw [inB_nI (by omega) (by omega) (by omega)]; exact decide_eq_true (by omega)
  have e2 : inB (nI pl) 0 3 = true := by rw [inB_nI (by omega) (by omega) (by omega)]; exact decide_eq_true (by omega)
  have q := isS_1 hs h0
  obtain ⟨τ, hτ⟩ : ∃ τ, τ = st (st σ1 100 0 (nI n)) 84 0 (nI 0) := ⟨_, rfl⟩
  have t85 : NwR τ 85 D := h3.congr (by rw [hτ, st_row _ _ _ _ (by omega), st_row _ _ _ _ (by omega)]; exact k2 85 (by omega) (by omega))
  obtain ⟨τ2, l1, l2, l3, l4⟩ := s6_layS (σ := st τ 96 (4 * r + pl) (nI 1)) N (4 * r + pl) s (nI r) (nI pl) (nI 1) (fun σL104 => f6_layDown_L168 N (nI r) (nI pl) (nI 1) (nI s) (fun x6_168 σL168 => some (x6_168, σL168)) N 0 0 σL104) hN (t85.congr (st_row _ _ _ _ (by omega))) (by omega) hs (by decide)
  have hrow : ∀ k, k ≠ 97 → k ≠ 96 → k ≠ 84 → k ≠ 100 → τ2 k = σ1 k := fun k k1 k2 k3 k4 => by
    rw [l2 k k1, st_row _ _ _ _ k2, hτ, st_row _ _ _ _ k3, st_row _ _ _ _ k4]
  have hS2 : Shf τ2 := shf_new (D := D) hSh (r * 4 + pl) 1 (fun k => dS D s (k + 1)) 8 (by omega) (by omega) (Or.inl ⟨rfl, (by
    obtain ⟨a0, a1⟩ := h1.2.2.1 s hs
    have := a1
    show dS D s 1 ≤ 3 ∧ 1 ≤ dS D s 2 ∧ dS D s 2 ≤ 3 ∧ 1 ≤ dS D s 3 ∧ dS D s 3 ≤ 3 ∧ 1 ≤ dS D s 4 ∧ dS D s 4 ≤ 150 ∧ dS D s 5 ≤ 9 ∧ dS D s 6 ≤ 8 ∧ dS D s 7 ≤ 2 ∧ dS D s 8 ≤ 1
    omega), rfl⟩) (fun t => by rw [hrow 77 (by omega) (by omega) (by omega) (by omega)]; exact k3 t) (fun t => by
    rw [l2 96 (by omega), st_get, hτ, st_row _ _ _ _ (by omega), st_row _ _ _ _ (by omega), k2 96 (by omega) (by omega)]
    exact q_ifc (by omega)) (fun k hk => by rw [hrow 78 (by omega) (by omega) (by omega) (by omega)]; exact k4 k hk) (fun t ht => by rw [hrow 78 (by omega) (by omega) (by omega) (by omega)]; exact k5 t ht) (fun k hk => by
    rw [show 9 * (r * 4 + pl) + 1 + k = 9 * (4 * r + pl) + (k + 1) by omega]
    exact l3 (k + 1) (by omega)) (fun t ht => by
    rw [l4 t (by omega), st_row _ _ _ _ (by omega), hτ, st_row _ _ _ _ (by omega), st_row _ _ _ _ (by omega), k2 97 (by omega) (by omega)])
  have hF2 := s6_filled (σ := τ2) N r (nI pl) (nI 1) (nI s) hN hr (shf_h hS2)
  have hfl : flB τ2 r = flB σ1 r := by
    unfold flB
    rw [hrow 77 (by omega) (by omega) (by omega) (by omega)]
  rw [hfl, hn] at hF2
  refine ⟨0, st σ1 100 0 (nI n), nI n, τ2, by omega, ?_, ?_, ?_, fun _ => ?_, inv_shelf hI (fun k hk => ?_) (fun i i1 i2 => ?_) hS2⟩
  · unfold fL_layDown f5_layDown f5_layDown_J76 f5_needEntry f4_takes f4_takes_J10
    rw [s5_needShelf, e1, e2, if_pos rfl, if_pos rfl, q_bxl, if_neg (show ¬ (nI 1 : Int32) = 0 by decide), s5_needStory h2 h1, q, if_neg (show ¬ (1 : Nat) = 0 by decide), q_bxl, q_bxl]
    simp (disch := omega) only [q_lit, q_gt, q_bd, q_bxl, q_bxr, q_vib, q_cl, q_pos, q_lt, q_le, q_eq, q_neg, q_neg1, q_negz, q_negeq0, q_neg0le, q_rem, q_div, q_sub, q_if1, q_if0, q_okB0, q_okB1, q_dz, q_dn, q_nb, and_true, true_and, and_false, false_and, nI_add, pk_mul, if_true, if_false, ite_true, ite_false, Nat.add_zero, Nat.zero_add, Nat.reduceAdd, k1, hF]
    rfl
  · unfold f6_layDown
    rw [show st (st σ1 100 0 (nI n)) 84 0 0 = τ from hτ.symm, show f6_in N (nI r) 0 2 τ = some (nI (b2 (inB (nI r) 0 2)), τ) from s6_in N (nI r) 0 2, q_bd, e1, if_neg (show ¬ nI (b2 true) = 0 by decide), show f6_in N (nI pl) 0 3 τ = some (nI (b2 (inB (nI pl) 0 3)), τ) from s6_in N (nI pl) 0 3, q_bd, e2, if_neg (show ¬ nI (b2 true) = 0 by decide), if_neg (show ¬ (nI 1 : Int32) = 0 by decide), s6_isStory t85 h1, q_bd, q, if_neg (show ¬ nI 1 = 0 by decide)]
    have J : f6_layDown_J78 N (nI r) (nI pl) (nI 1) (nI s) τ = some (nI n, τ2) := by
      unfold f6_layDown_J78 f6_layDown_J100
      simp (disch := omega) only [q_lit, q_gt, q_bd, q_bxl, q_bxr, q_vib, q_cl, q_pos, q_lt, q_le, q_eq, q_neg, q_neg1, q_negz, q_negeq0, q_neg0le, q_rem, q_div, q_sub, q_if1, q_if0, q_okB0, q_okB1, q_dz, q_dn, q_nb, and_true, true_and, and_false, false_and, nI_add, pk_mul, if_true, if_false, ite_true, ite_false, Nat.add_zero, Nat.zero_add, Nat.reduceAdd]
      exact l1.trans hF2
    unfold f6_layDown_J54 f6_layDown_J68
    rcases (show r = 0 ∨ r = 2 by omega) with rfl | rfl
    · simp (disch := omega) only [q_lit, q_gt, q_bd, q_bxl, q_bxr, q_vib, q_cl, q_pos, q_lt, q_le, q_eq, q_neg, q_neg1, q_negz, q_negeq0, q_neg0le, q_rem, q_div, q_sub, q_if1, q_if0, q_okB0, q_okB1, q_dz, q_dn, q_nb, and_true, true_and, and_false, false_and, nI_add, pk_mul, if_true, if_false, ite_true, ite_false, Nat.add_zero, Nat.zero_add, Nat.reduceAdd]
      exact J
    · simp (disch := omega) only [q_lit, q_gt, q_bd, q_bxl, q_bxr, q_vib, q_cl, q_pos, q_lt, q_le, q_eq, q_neg, q_neg1, q_negz, q_negeq0, q_neg0le, q_rem, q_div, q_sub, q_if1, q_if0, q_okB0, q_okB1, q_dz, q_dn, q_nb, and_true, true_and, and_false, false_and, nI_add, pk_mul, if_true, if_false, ite_true, ite_false, Nat.add_zero, Nat.zero_add, Nat.reduceAdd]
      exact J
  · rw [l2 84 (by omega), st_row _ _ _ _ (by omega), hτ, st_same]
  · rw [l2 100 (by omega), st_row _ _ _ _ (by omega), hτ, st_row _ _ _ _ (by omega), st_same]
  · rw [hrow k (by omega) (by omega) (by omega) (by omega), k2 k (by omega) (by omega)]
  · rw [l2 84 (by omega), st_row _ _ _ _ (by omega), hτ, st_ne _ _ _ _ (Or.inr i1), st_row _ _ _ _ (by omega), k2 84 (by omega) (by omega)]
theorem lay_ad {D : Nat → Nat} (hI : Inv σ) (h1 : DOk D) (h2 : EdR σ 1 D) (h3 : NwR σ 85 D) (N : Nat) (hN : 500 ≤ N) (r pl s : Nat) (hr : r < 3) (hr1 : r ≠ 0) (hpl : pl < 4) (hs : s < 8) (h0 : dA D s 0 = 1) (q : isAdv D (nI s) = 1) : Agree (fL_layDown N (nI r) (nI pl) (nI 0) (nI s)) (f6_layDown N (nI r) (nI pl) (nI 0) (nI s)) σ := by
  have hSh : Shf σ := by
    obtain ⟨D, -, -, -, -, hSh, -⟩ := hI
    exact hSh
  obtain ⟨σ1, k1, k2, k3, k4, k5⟩ := s4_keepAd N (r * 4 + pl) s hN h2 (by omega) hs
  generalize hn : cntB (flB σ1 r) 4 = n
  have hF := s4_filled (σ := σ1) N r hN hr
  rw [hn] at hF
  have e1 : inB (nI r) 0 2 = true := by rw [inB_nI (by omega) (by omega) (by omega)]; exact decide_eq_true (by omega)
  have e2 : inB (nI pl) 0 3 = true := by rw [inB_nI (by omega) (by omega) (by omega)]; exact decide_eq_true (by omega)
  obtain ⟨τ, hτ⟩ : ∃ τ, τ = st (st σ1 100 0 (nI n)) 84 0 (nI 0) := ⟨_, rfl⟩
  have t85 : NwR τ 85 D := h3.congr (by rw [hτ, st_row _ _ _ _ (by omega), st_row _ _ _ _ (by omega)]; exact k2 85 (by omega) (by omega))
  obtain ⟨τ2, l1, l2, l3, l4⟩ := s6_layA (σ := st τ 96 (4 * r + pl) (nI 2)) N (4 * r + pl) s (nI r) (nI pl) (fun σL104 => f6_layDown_L168 N (nI r) (nI pl) (nI 0) (nI s) (fun x6_168 σL168 => some (x6_168, σL168)) N 0 0 σL104) hN (t85.congr (st_row _ _ _ _ (by omega))) (by omega) hs
  have hrow : ∀ k, k ≠ 97 → k ≠ 96 → k ≠ 84 → k ≠ 100 → τ2 k = σ1 k := fun k k1 k2 k3 k4 => by
    rw [l2 k k1, st_row _ _ _ _ k2, hτ, st_row _ _ _ _ k3, st_row _ _ _ _ k4]
  have hS2 : Shf τ2 := shf_new (D := D) hSh (r * 4 + pl) 2 (fun k => dA D s (k + 1)) 6 (by omega) (by omega) (Or.inr ⟨rfl, (by
    obtain ⟨a0, a1, a2, a3, a4, a5, a6, a7⟩ := h1.2.2.2 s hs
    have := a7 h0
    show dA D s 1 ≤ 3 ∧ dA D s 2 ≤ 4 ∧ dA D s 3 ≤ 23 ∧ 1 ≤ dA D s 4 ∧ dA D s 2 + dA D s 4 ≤ 5 ∧ 1 ≤ dA D s 5 ∧ dA D s 3 + dA D s 5 ≤ 24 ∧ 1 ≤ dA D s 6 ∧ dA D s 6 ≤ 999
    omega), rfl⟩) (fun t => by rw [hrow 77 (by omega) (by omega) (by omega) (by omega)]; exact k3 t) (fun t => by
    rw [l2 96 (by omega), st_get, hτ, st_row _ _ _ _ (by omega), st_row _ _ _ _ (by omega), k2 96 (by omega) (by omega)]
    exact q_ifc (by omega)) (fun k hk => by rw [hrow 78 (by omega) (by omega) (by omega) (by omega)]; exact k4 k hk) (fun t ht => by rw [hrow 78 (by omega) (by omega) (by omega) (by omega)]; exact k5 t ht) (fun k hk => by
    rw [show 9 * (r * 4 + pl) + 1 + k = 9 * (4 * r + pl) + (k + 1) by omega]
    exact l3 (k + 1) (by omega)) (fun t ht => by
    rw [l4 t (by omega), st_row _ _ _ _ (by omega), hτ, st_row _ _ _ _ (by omega), st_row _ _ _ _ (by omega), k2 97 (by omega) (by omega)])
  have hF2 := s6_filled (σ := τ2) N r (nI pl) (nI 0) (nI s) hN hr (shf_h hS2)
  have hfl : flB τ2 r = flB σ1 r := by
    unfold flB
    rw [hrow 77 (by omega) (by omega) (by omega) (by omega)]
  rw [hfl, hn] at hF2
  refine ⟨0, st σ1 100 0 (nI n), nI n, τ2, by omega, ?_, ?_, ?_, fun _ => ?_, inv_shelf hI (fun k hk => ?_) (fun i i1 i2 => ?_) hS2⟩
  · unfold fL_layDown f5_layDown f5_layDown_J76 f5_needEntry f4_takes f4_takes_J10
    rw [s5_needShelf, e1, e2, if_pos rfl, if_pos rfl, q_bxl, if_pos (show (nI 0 : Int32) = 0 from rfl), s5_needAd h2 h1, q, if_neg (show ¬ (1 : Nat) = 0 by decide), q_bxl, q_bxl]
    simp (disch := omega) only [q_lit, q_gt, q_bd, q_bxl, q_bxr, q_vib, q_cl, q_pos, q_lt, q_le, q_eq, q_neg, q_neg1, q_negz, q_negeq0, q_neg0le, q_rem, q_div, q_sub, q_if1, q_if0, q_okB0, q_okB1, q_dz, q_dn, q_nb, and_true, true_and, and_false, false_and, nI_add, pk_mul, if_true, if_false, ite_true, ite_false, Nat.add_zero, Nat.zero_add, Nat.reduceAdd, k1, hF]
    rfl
  · unfold f6_layDown
    rw [show st (st σ1 100 0 (nI n)) 84 0 0 = τ from hτ.symm, show f6_in N (nI r) 0 2 τ = some (nI (b2 (inB (nI r) 0 2)), τ) from s6_in N (nI r) 0 2, q_bd, e1, if_neg (show ¬ nI (b2 true) = 0 by decide), show f6_in N (nI pl) 0 3 τ = some (nI (b2 (inB (nI pl) 0 3)), τ) from s6_in N (nI pl) 0 3, q_bd, e2, if_neg (show ¬ nI (b2 true) = 0 by decide), if_pos (show (nI 0 : Int32) = 0 from rfl), s6_isAd t85 h1, q_bd, q, if_neg (show ¬ nI 1 = 0 by decide)]
    have J : f6_layDown_J78 N (nI r) (nI pl) (nI 0) (nI s) τ = some (nI n, τ2) := by
      unfold f6_layDown_J78 f6_layDown_J100
      simp (disch := omega) only [q_lit, q_gt, q_bd, q_bxl, q_bxr, q_vib, q_cl, q_pos, q_lt, q_le, q_eq, q_neg, q_neg1, q_negz, q_negeq0, q_neg0le, q_rem, q_div, q_sub, q_if1, q_if0, q_okB0, q_okB1, q_dz, q_dn, q_nb, and_true, true_and, and_false, false_and, nI_add, pk_mul, if_true, if_false, ite_true, ite_false, Nat.add_zero, Nat.zero_add, Nat.reduceAdd]
      exact l1.trans hF2
    unfold f6_layDown_J54 f6_layDown_J68
    rcases (show r = 1 ∨ r = 2 by omega) with rfl | rfl
    · simp (disch := omega) only [q_lit, q_gt, q_bd, q_bxl, q_bxr, q_vib, q_cl, q_pos, q_lt, q_le, q_eq, q_neg, q_neg1, q_negz, q_negeq0, q_neg0le, q_rem, q_div, q_sub, q_if1, q_if0, q_okB0, q_okB1, q_dz, q_dn, q_nb, and_true, true_and, and_false, false_and, nI_add, pk_mul, if_true, if_false, ite_true, ite_false, Nat.add_zero, Nat.zero_add, Nat.reduceAdd]
      exact J
    · simp (disch := omega) only [q_lit, q_gt, q_bd, q_bxl, q_bxr, q_vib, q_cl, q_pos, q_lt, q_le, q_eq, q_neg, q_neg1, q_negz, q_negeq0, q_neg0le, q_rem, q_div, q_sub, q_if1, q_if0, q_okB0, q_okB1, q_dz, q_dn, q_nb, and_true, true_and, and_false, false_and, nI_add, pk_mul, if_true, if_false, ite_true, ite_false, Nat.add_zero, Nat.zero_add, Nat.reduceAdd]
      exact J
  · rw [l2 84 (by omega), st_row _ _ _ _ (by omega), hτ, st_same]
  · rw [l2 100 (by omega), st_row _ _ _ _ (by omega), hτ, st_row _ _ _ _ (by omega), st_same]
  · rw [hrow k (by omega) (by omega) (by omega) (by omega), k2 k (by omega) (by omega)]
  · rw [l2 84 (by omega), st_row _ _ _ _ (by omega), hτ, st_ne _ _ _ _ (Or.inr i1), st_row _ _ _ _ (by omega), k2 84 (by omega) (by omega)]
theorem case_layDown (hI : Inv σ) (N : Nat) (hN : 500 ≤ N) (x1 x2 x3 x4 : Int32) (hx : x3 = nI 0 ∨ x3 = nI 1) : Agree (fL_layDown N x1 x2 x3 x4) (f6_layDown N x1 x2 x3 x4) σ := by
  obtain ⟨D, ⟨h1, h2, h3⟩, -⟩ := id hI
  have t85 : NwR (st σ 84 0 (nI 0)) 85 D := h3.congr (st_row _ _ _ _ (by omega))
  have in1 : f6_in N x1 0 2 (st σ 84 0 0) = some (nI (b2 (inB x1 0 2)), st σ 84 0 (nI 0)) := s6_in N x1 0 2
  have in2 : f6_in N x2 0 3 (st σ 84 0 (nI 0)) = some (nI (b2 (inB x2 0 3)), st σ 84 0 (nI 0)) := s6_in N x2 0 3
  cases e1 : inB x1 0 2
  · refine agree_no hI 1 (by omega) (by omega) _ _ ?_ ?_
    · unfold fL_layDown f5_layDown
      rw [s5_needShelf, e1]
      rfl
    · unfold f6_layDown
      rw [in1, q_bd, e1]
      rfl
  · cases e2 : inB x2 0 3
    · refine agree_no hI 1 (by omega) (by omega) _ _ ?_ ?_
      · unfold fL_layDown f5_layDown
        rw [s5_needShelf, e1, e2]
        rfl
      · unfold f6_layDown
        rw [in1, q_bd, e1, if_neg (show ¬ nI (b2 true) = 0 by decide), in2, q_bd, e2]
        rfl
    · obtain ⟨r, -, r2, rfl⟩ := inB_some e1 (by decide) (by decide)
      obtain ⟨pl, -, p2, rfl⟩ := inB_some e2 (by decide) (by decide)
      rcases hx with rfl | rfl
      · rcases isAdv_cases h1 x4 with q | ⟨q, s, hs, rfl, h0⟩
        · refine agree_no hI 1 (by omega) (by omega) _ _ ?_ ?_
          · unfold fL_layDown f5_layDown f5_needEntry
            rw [s5_needShelf, e1, e2, if_pos rfl, if_pos rfl, q_bxl, if_pos (show (nI 0 : Int32) = 0 from rfl), s5_needAd h2 h1, q]
            rfl
          · unfold f6_layDown
            rw [in1, q_bd, e1, if_neg (show ¬ nI (b2 true) = 0 by decide), in2, q_bd, e2, if_neg (show ¬ nI (b2 true) = 0 by decide), if_pos (show (nI 0 : Int32) = 0 from rfl), s6_isAd t85 h1, q_bd, q]
            rfl
        · by_cases hr : r = 0
          · subst hr
            refine agree_no hI 2 (by omega) (by omega) _ _ ?_ ?_
            · unfold fL_layDown f5_layDown f5_needEntry
              rw [s5_needShelf, e1, e2, if_pos rfl, if_pos rfl, q_bxl, if_pos (show (nI 0 : Int32) = 0 from rfl), s5_needAd h2 h1, q, if_neg (show ¬ (1 : Nat) = 0 by decide), q_bxl, q_bxl]
              rfl
            · unfold f6_layDown
              rw [in1, q_bd, e1, if_neg (show ¬ nI (b2 true) = 0 by decide), in2, q_bd, e2, if_neg (show ¬ nI (b2 true) = 0 by decide), if_pos (show (nI 0 : Int32) = 0 from rfl), s6_isAd t85 h1, q_bd, q, if_neg (show ¬ nI 1 = 0 by decide)]
              rfl
          · exact lay_ad hI h1 h2 h3 N hN r pl s (by omega) hr (by omega) hs h0 q
      · rcases isS_cases h1 x4 with q | ⟨q, s, hs, rfl, h0⟩
        · refine agree_no hI 1 (by omega) (by omega) _ _ ?_ ?_
          · unfold fL_layDown f5_layDown f5_needEntry
            rw [s5_needShelf, e1, e2, if_pos rfl, if_pos rfl, q_bxl, if_neg (show ¬ (nI 1 : Int32) = 0 by decide), s5_needStory h2 h1, q]
            rfl
          · unfold f6_layDown
            rw [in1, q_bd, e1, if_neg (show ¬ nI (b2 true) = 0 by decide), in2, q_bd, e2, if_neg (show ¬ nI (b2 true) = 0 by decide), if_neg (show ¬ (nI 1 : Int32) = 0 by decide), s6_isStory t85 h1, q_bd, q]
            rfl
        · by_cases hr : r = 1
          · subst hr
            refine agree_no hI 2 (by omega) (by omega) _ _ ?_ ?_
            · unfold fL_layDown f5_layDown f5_needEntry
              rw [s5_needShelf, e1, e2, if_pos rfl, if_pos rfl, q_bxl, if_neg (show ¬ (nI 1 : Int32) = 0 by decide), s5_needStory h2 h1, q, if_neg (show ¬ (1 : Nat) = 0 by decide), q_bxl, q_bxl]
              rfl
            · unfold f6_layDown
              rw [in1, q_bd, e1, if_neg (show ¬ nI (b2 true) = 0 by decide), in2, q_bd, e2, if_neg (show ¬ nI (b2 true) = 0 by decide), if_neg (show ¬ (nI 1 : Int32) = 0 by decide), s6_isStory t85 h1, q_bd, q, if_neg (show ¬ nI 1 = 0 by decide)]
              rfl
          · exact lay_story hI h1 h2 h3 N hN r pl s (by omega) hr (by omega) hs h0
end SH4
