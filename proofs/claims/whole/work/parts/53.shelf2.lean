/-! THE PURE PART. The shelf: the reference's laying down. -/
section SH2
variable {σ : Hp} {D : Nat → Nat}
theorem s6_layS (N p s : Nat) (x1 x2 x3 : Int32) (K : Hp → Option (Int32 × Hp)) (hN : 500 ≤ N) (hNw : NwR σ 85 D) (hp : p < 12) (hs : s < 12) (hx : x3 ≠ nI 0) : ∃ σ', f6_layDown_L104 N x1 x2 x3 (nI s) (nI p) K N (nI 0) σ = K σ' ∧ (∀ k, k ≠ 97 → σ' k = σ k) ∧ (∀ k, k < 9 → σ' 97 (9 * p + k) = nI (dS D s k)) ∧ (∀ t, t < 9 * p ∨ 9 * p + 9 ≤ t → σ' 97 t = σ 97 t) := by
  obtain ⟨σ', ⟨i1, i2, i3⟩, h⟩ := lpx (fun _ _ => none) (f6_layDown_B104 N x1 x2 x3 (nI s) (nI p) K) (fun t j σ => t (nI j) σ) K 9 (fun m τ => (∀ k, k ≠ 97 → τ k = σ k) ∧ (∀ k, k < m → τ 97 (9 * p + k) = nI (dS D s k)) ∧ (∀ t, t < 9 * p ∨ 9 * p + 9 ≤ t → τ 97 t = σ 97 t)) (by
    intro r τ hI
    show f6_layDown_B104 _ _ _ _ _ _ _ _ _ _ = _
    unfold f6_layDown_B104 f6_layDown_J117
    rw [if_neg (show ¬ x3 = 0 from hx)]
    simp (disch := omega) only [q_lit, q_gt, q_bd, q_bxl, q_bxr, q_vib, q_cl, q_pos, q_lt, q_le, q_eq, q_neg, q_neg1, q_negz, q_negeq0, q_neg0le, q_rem, q_div, q_sub, q_if1, q_if0, q_okB0, q_okB1, q_dz, q_dn, q_nb, and_true, true_and, and_false, false_and, nI_add, pk_mul, if_true, if_false, ite_true, ite_false, Nat.add_zero, Nat.zero_add, Nat.reduceAdd]) (by
    intro r j τ hj hI
    obtain ⟨i1, i2, i3⟩ := hI
    have hN' : NwR τ 85 D := hNw.congr (i1 85 (by omega))
    refine ⟨st τ 97 (9 * p + j) (nI (dS D s j)), ⟨fun k hk => by rw [st_row _ _ _ _ hk]; exact i1 k hk, fun k hk => ?_, fun t ht => ?_⟩, ?_⟩
    · rw [st_get]
      by_cases z : k = j
      · rw [z, if_pos ⟨rfl, rfl⟩]
      · rw [if_neg (by omega)]
        exact i2 k (by omega)
    · rw [st_ne _ _ _ _ (Or.inr (by omega))]
      exact i3 t (by omega)
    · show f6_layDown_B104 _ _ _ _ _ _ _ _ _ _ = _
      unfold f6_layDown_B104 f6_layDown_J117 f6_layDown_J155
      rw [if_neg (show ¬ x3 = 0 from hx), if_neg (show ¬ x3 = 0 from hx)]
      simp (disch := omega) only [q_lit, q_gt, q_bd, q_bxl, q_bxr, q_vib, q_cl, q_pos, q_lt, q_le, q_eq, q_neg, q_neg1, q_negz, q_negeq0, q_neg0le, q_rem, q_div, q_sub, q_if1, q_if0, q_okB0, q_okB1, q_dz, q_dn, q_nb, and_true, true_and, and_false, false_and, nI_add, pk_mul, if_true, if_false, ite_true, ite_false, Nat.add_zero, Nat.zero_add, Nat.reduceAdd, s6_of hN']) 9 0 N σ (by omega) (by omega) ⟨fun _ _ => rfl, fun k hk => absurd hk (Nat.not_lt_zero k), fun _ _ => rfl⟩
  exact ⟨σ', h, i1, i2, i3⟩
theorem s6_layA (N p s : Nat) (x1 x2 : Int32) (K : Hp → Option (Int32 × Hp)) (hN : 500 ≤ N) (hNw : NwR σ 85 D) (hp : p < 12) (hs : s < 8) : ∃ σ', f6_layDown_L104 N x1 x2 (nI 0) (nI s) (nI p) K N (nI 0) σ = K σ' ∧ (∀ k, k ≠ 97 → σ' k = σ k) ∧ (∀ k, k < 7 → σ' 97 (9 * p + k) = nI (dA D s k)) ∧ (∀ t, t < 9 * p ∨ 9 * p + 9 ≤ t → σ' 97 t = σ 97 t) := by
  obtain ⟨σ', ⟨i1, i2, i3⟩, h⟩ := lpx (fun _ _ => none) (f6_layDown_B104 N x1 x2 (nI 0) (nI s) (nI p) K) (fun t j σ => t (nI j) σ) K 7 (fun m τ => (∀ k, k ≠ 97 → τ k = σ k) ∧ (∀ k, k < m → τ 97 (9 * p + k) = nI (dA D s k)) ∧ (∀ t, t < 9 * p ∨ 9 * p + 9 ≤ t → τ 97 t = σ 97 t)) (by
    intro r τ hI
    show f6_layDown_B104 _ _ _ _ _ _ _ _ _ _ = _
    unfold f6_layDown_B104 f6_layDown_J117
    simp (disch := omega) only [q_lit, q_gt, q_bd, q_bxl, q_bxr, q_vib, q_cl, q_pos, q_lt, q_le, q_eq, q_neg, q_neg1, q_negz, q_negeq0, q_neg0le, q_rem, q_div, q_sub, q_if1, q_if0, q_okB0, q_okB1, q_dz, q_dn, q_nb, and_true, true_and, and_false, false_and, nI_add, pk_mul, if_true, if_false, ite_true, ite_false, Nat.add_zero, Nat.zero_add, Nat.reduceAdd]) (by
    intro r j τ hj hI
    obtain ⟨i1, i2, i3⟩ := hI
    have hN' : NwR τ 85 D := hNw.congr (i1 85 (by omega))
    refine ⟨st τ 97 (9 * p + j) (nI (dA D s j)), ⟨fun k hk => by rw [st_row _ _ _ _ hk]; exact i1 k hk, fun k hk => ?_, fun t ht => ?_⟩, ?_⟩
    · rw [st_get]
      by_cases z : k = j
      · rw [z, if_pos ⟨rfl, rfl⟩]
      · rw [if_neg (by omega)]
        exact i2 k (by omega)
    · rw [st_ne _ _ _ _ (Or.inr (by omega))]
      exact i3 t (by omega)
    · show f6_layDown_B104 _ _ _ _ _ _ _ _ _ _ = _
      unfold f6_layDown_B104 f6_layDown_J117 f6_layDown_J155
      simp (disch := omega) only [q_lit, q_gt, q_bd, q_bxl, q_bxr, q_vib, q_cl, q_pos, q_lt, q_le, q_eq, q_neg, q_neg1, q_negz, q_negeq0, q_neg0le, q_rem, q_div, q_sub, q_if1, q_if0, q_okB0, q_okB1, q_dz, q_dn, q_nb, and_true, true_and, and_false, false_and, nI_add, pk_mul, if_true, if_false, ite_true, ite_false, Nat.add_zero, Nat.zero_add, Nat.reduceAdd, s6_ad hN']) 7 0 N σ (by omega) (by omega) ⟨fun _ _ => rfl, fun k hk => absurd hk (Nat.not_lt_zero k), fun _ _ => rfl⟩
  exact ⟨σ', h, i1, i2, i3⟩
theorem s6_filled (N r : Nat) (x2 x3 x4 : Int32) (hN : 500 ≤ N) (hr : r < 3) (hSh : ∀ p, p < 12 → ∃ h, h ≤ 2 ∧ σ 77 p = nI h ∧ σ 96 p = nI h) : f6_layDown_L168 N (nI r) x2 x3 x4 (fun x6_168 σL168 => some (x6_168, σL168)) N (nI 0) (nI 0) σ = some (nI (cntB (flB σ r) 4), σ) := by
  have main := lpc (fun _ _ _ => none) (f6_layDown_B168 N (nI r) x2 x3 x4 (fun x6_168 σL168 => some (x6_168, σL168))) (fun t j => t (nI (cntB (flB σ r) j)) (nI j) σ) (some (nI (cntB (flB σ r) 4), σ)) 4 (by
    intro q
    show f6_layDown_B168 _ _ _ _ _ _ _ _ _ _ = _
    unfold f6_layDown_B168
    simp (disch := omega) only [q_lit, q_gt, q_bd, q_bxl, q_bxr, q_vib, q_cl, q_pos, q_lt, q_le, q_eq, q_neg, q_neg1, q_negz, q_negeq0, q_neg0le, q_rem, q_div, q_sub, q_if1, q_if0, q_okB0, q_okB1, q_dz, q_dn, q_nb, and_true, true_and, and_false, false_and, nI_add, pk_mul, if_true, if_false, ite_true, ite_false, Nat.add_zero, Nat.zero_add, Nat.reduceAdd]) (by
    intro q j hj
    have hc := cntB_le (flB σ r) j
    obtain ⟨h, h2, h3, h4⟩ := hSh (r * 4 + j) (by omega)
    show f6_layDown_B168 _ _ _ _ _ _ _ _ _ _ = q (nI (cntB (flB σ r) j + if flB σ r j then 1 else 0)) (nI (j + 1)) σ
    have hb : flB σ r j = decide (σ 77 (r * 4 + j) ≠ nI 0) := rfl
    rw [show r * 4 + j = 4 * r + j by omega] at h4
    rw [hb, h3]
    unfold f6_layDown_B168 f6_layDown_J195
    simp (disch := omega) only [q_lit, q_gt, q_bd, q_bxl, q_bxr, q_vib, q_cl, q_pos, q_lt, q_le, q_eq, q_neg, q_neg1, q_negz, q_negeq0, q_neg0le, q_rem, q_div, q_sub, q_if1, q_if0, q_okB0, q_okB1, q_dz, q_dn, q_nb, and_true, true_and, and_false, false_and, nI_add, pk_mul, if_true, if_false, ite_true, ite_false, Nat.add_zero, Nat.zero_add, Nat.reduceAdd, h4]
    by_cases z : h = 0
    · rw [z, decide_eq_false (fun h => h rfl)]
      simp (disch := omega) only [q_lit, q_gt, q_bd, q_bxl, q_bxr, q_vib, q_cl, q_pos, q_lt, q_le, q_eq, q_neg, q_neg1, q_negz, q_negeq0, q_neg0le, q_rem, q_div, q_sub, q_if1, q_if0, q_okB0, q_okB1, q_dz, q_dn, q_nb, and_true, true_and, and_false, false_and, nI_add, pk_mul, if_true, if_false, ite_true, ite_false, Nat.add_zero, Nat.zero_add, Nat.reduceAdd]
      rfl
    · rw [decide_eq_true (show nI h ≠ nI 0 from fun q => z (by rw [nI_eq (by omega) (by omega)] at q; exact q))]
      simp (disch := omega) only [q_lit, q_gt, q_bd, q_bxl, q_bxr, q_vib, q_cl, q_pos, q_lt, q_le, q_eq, q_neg, q_neg1, q_negz, q_negeq0, q_neg0le, q_rem, q_div, q_sub, q_if1, q_if0, q_okB0, q_okB1, q_dz, q_dn, q_nb, and_true, true_and, and_false, false_and, nI_add, pk_mul, if_true, if_false, ite_true, ite_false, Nat.add_zero, Nat.zero_add, Nat.reduceAdd]) (i := 0) (n := N) (by omega) (by omega)
  exact main
end SH2
