/-! THE PURE PART. The shelf: laying down. -/
section SH
variable {σ : Hp} {D : Nat → Nat}
theorem s4_keepStory (N p s : Nat) (hN : 500 ≤ N) (hE : EdR σ 1 D) (hp : p < 12) (hs : s < 12) : ∃ σ', f4_keepStory N 1 (nI p) (nI s) σ = some ((), σ') ∧ (∀ k, k ≠ 77 → k ≠ 78 → σ' k = σ k) ∧ (∀ t, σ' 77 t = if t = p then nI 1 else σ 77 t) ∧ (∀ k, k < 8 → σ' 78 (p * 8 + k) = nI (dS D s (k + 1))) ∧ (∀ t, t < p * 8 ∨ p * 8 + 8 ≤ t → σ' 78 t = σ 78 t) := by
  obtain ⟨σ', ⟨i1, i2, i3⟩, h⟩ := lpx (fun _ _ => none) (f4_keepStory_B18 N 1 (nI p) (nI s) (fun σL18 => some ((), σL18))) (fun t j σ => t (nI j) σ) (fun σL18 => some ((), σL18)) 8 (fun m τ => (∀ k, k ≠ 78 → τ k = st σ 77 p (nI 1) k) ∧ (∀ k, k < m → τ 78 (p * 8 + k) = nI (dS D s (k + 1))) ∧ (∀ t, t < p * 8 ∨ p * 8 + m ≤ t → τ 78 t = σ 78 t)) (by
    intro r τ hI
    show f4_keepStory_B18 _ _ _ _ _ _ _ _ = _
    unfold f4_keepStory_B18
    simp (disch := omega) only [q_lit, q_gt, q_bd, q_bxl, q_bxr, q_vib, q_cl, q_pos, q_lt, q_le, q_eq, q_neg, q_neg1, q_negz, q_negeq0, q_neg0le, q_rem, q_div, q_sub, q_if1, q_if0, q_okB0, q_okB1, q_dz, q_dn, q_nb, and_true, true_and, and_false, false_and, nI_add, pk_mul, if_true, if_false, ite_true, ite_false, Nat.add_zero, Nat.zero_add, Nat.reduceAdd]) (by
    intro r j τ hj hI
    obtain ⟨i1, i2, i3⟩ := hI
    have hE' : EdR τ 1 D := hE.congr (fun k k1 k2 => by rw [i1 k (by omega), st_row _ _ _ _ (by omega)])
    refine ⟨st τ 78 (p * 8 + j) (nI (dS D s (j + 1))), ⟨fun k hk => by rw [st_row _ _ _ _ hk]; exact i1 k hk, fun k hk => ?_, fun t ht => ?_⟩, ?_⟩
    · rw [st_get]
      by_cases z : k = j
      · rw [z, if_pos ⟨rfl, rfl⟩]
      · rw [if_neg (by omega)]
        exact i2 k (by omega)
    · rw [st_ne _ _ _ _ (Or.inr (by omega))]
      exact i3 t (by omega)
    · show f4_keepStory_B18 _ _ _ _ _ _ _ _ = _
      unfold f4_keepStory_B18
      simp (disch := omega) only [q_lit, q_gt, q_bd, q_bxl, q_bxr, q_vib, q_cl, q_pos, q_lt, q_le, q_eq, q_neg, q_neg1, q_negz, q_negeq0, q_neg0le, q_rem, q_div, q_sub, q_if1, q_if0, q_okB0, q_okB1, q_dz, q_dn, q_nb, and_true, true_and, and_false, false_and, nI_add, pk_mul, if_true, if_false, ite_true, ite_false, Nat.add_zero, Nat.zero_add, Nat.reduceAdd, s1_sn hE']) 8 0 N (st σ 77 p (nI 1)) (by omega) (by omega) ⟨fun _ _ => rfl, fun k hk => absurd hk (Nat.not_lt_zero k), fun t _ => by rw [st_row _ _ _ _ (by omega)]⟩
  refine ⟨σ', ?_, fun k k1 k2 => by rw [i1 k k2, st_row _ _ _ _ k1], fun t => ?_, i2, i3⟩
  · unfold f4_keepStory f4_isSpot
    simp (disch := omega) only [q_lit, q_gt, q_bd, q_bxl, q_bxr, q_vib, q_cl, q_pos, q_lt, q_le, q_eq, q_neg, q_neg1, q_negz, q_negeq0, q_neg0le, q_rem, q_div, q_sub, q_if1, q_if0, q_okB0, q_okB1, q_dz, q_dn, q_nb, and_true, true_and, and_false, false_and, nI_add, pk_mul, if_true, if_false, ite_true, ite_false, Nat.add_zero, Nat.zero_add, Nat.reduceAdd]
    exact h
  · rw [i1 77 (by omega), st_get]
    exact q_ifc (by omega)
theorem s4_keepAd (N p s : Nat) (hN : 500 ≤ N) (hE : EdR σ 1 D) (hp : p < 12) (hs : s < 8) : ∃ σ', f4_keepAdvertisement N 1 (nI p) (nI s) σ = some ((), σ') ∧ (∀ k, k ≠ 77 → k ≠ 78 → σ' k = σ k) ∧ (∀ t, σ' 77 t = if t = p then nI 2 else σ 77 t) ∧ (∀ k, k < 6 → σ' 78 (p * 8 + k) = nI (dA D s (k + 1))) ∧ (∀ t, t < p * 8 ∨ p * 8 + 8 ≤ t → σ' 78 t = σ 78 t) := by
  obtain ⟨σ', ⟨i1, i2, i3⟩, h⟩ := lpx (fun _ _ => none) (f4_keepAdvertisement_B18 N 1 (nI p) (nI s) (fun σL18 => some ((), σL18))) (fun t j σ => t (nI j) σ) (fun σL18 => some ((), σL18)) 6 (fun m τ => (∀ k, k ≠ 78 → τ k = st σ 77 p (nI 2) k) ∧ (∀ k, k < m → τ 78 (p * 8 + k) = nI (dA D s (k + 1))) ∧ (∀ t, t < p * 8 ∨ p * 8 + 6 ≤ t → τ 78 t = σ 78 t)) (by
    intro r τ hI
    show f4_keepAdvertisement_B18 _ _ _ _ _ _ _ _ = _
    unfold f4_keepAdvertisement_B18
    simp (disch := omega) only [q_lit, q_gt, q_bd, q_bxl, q_bxr, q_vib, q_cl, q_pos, q_lt, q_le, q_eq, q_neg, q_neg1, q_negz, q_negeq0, q_neg0le, q_rem, q_div, q_sub, q_if1, q_if0, q_okB0, q_okB1, q_dz, q_dn, q_nb, and_true, true_and, and_false, false_and, nI_add, pk_mul, if_true, if_false, ite_true, ite_false, Nat.add_zero, Nat.zero_add, Nat.reduceAdd]) (by
    intro r j τ hj hI
    obtain ⟨i1, i2, i3⟩ := hI
    have hE' : EdR τ 1 D := hE.congr (fun k k1 k2 => by rw [i1 k (by omega), st_row _ _ _ _ (by omega)])
    refine ⟨st τ 78 (p * 8 + j) (nI (dA D s (j + 1))), ⟨fun k hk => by rw [st_row _ _ _ _ hk]; exact i1 k hk, fun k hk => ?_, fun t ht => ?_⟩, ?_⟩
    · rw [st_get]
      by_cases z : k = j
      · rw [z, if_pos ⟨rfl, rfl⟩]
      · rw [if_neg (by omega)]
        exact i2 k (by omega)
    · rw [st_ne _ _ _ _ (Or.inr (by omega))]
      exact i3 t (by omega)
    · show f4_keepAdvertisement_B18 _ _ _ _ _ _ _ _ = _
      unfold f4_keepAdvertisement_B18
      simp (disch := omega) only [q_lit, q_gt, q_bd, q_bxl, q_bxr, q_vib, q_cl, q_pos, q_lt, q_le, q_eq, q_neg, q_neg1, q_negz, q_negeq0, q_neg0le, q_rem, q_div, q_sub, q_if1, q_if0, q_okB0, q_okB1, q_dz, q_dn, q_nb, and_true, true_and, and_false, false_and, nI_add, pk_mul, if_true, if_false, ite_true, ite_false, Nat.add_zero, Nat.zero_add, Nat.reduceAdd, s1_an hE']) 6 0 N (st σ 77 p (nI 2)) (by omega) (by omega) ⟨fun _ _ => rfl, fun k hk => absurd hk (Nat.not_lt_zero k), fun t _ => by rw [st_row _ _ _ _ (by omega)]⟩
  refine ⟨σ', ?_, fun k k1 k2 => by rw [i1 k k2, st_row _ _ _ _ k1], fun t => ?_, i2, fun t ht => i3 t (by omega)⟩
  · unfold f4_keepAdvertisement f4_isSpot
    simp (disch := omega) only [q_lit, q_gt, q_bd, q_bxl, q_bxr, q_vib, q_cl, q_pos, q_lt, q_le, q_eq, q_neg, q_neg1, q_negz, q_negeq0, q_neg0le, q_rem, q_div, q_sub, q_if1, q_if0, q_okB0, q_okB1, q_dz, q_dn, q_nb, and_true, true_and, and_false, false_and, nI_add, pk_mul, if_true, if_false, ite_true, ite_false, Nat.add_zero, Nat.zero_add, Nat.reduceAdd]
    exact h
  · rw [i1 77 (by omega), st_get]
    exact q_ifc (by omega)
/-- filled places of a shelf's row -/
def flB (σ : Hp) (r : Nat) (j : Nat) : Bool := decide (σ 77 (r * 4 + j) ≠ nI 0)
theorem s4_filled (N r : Nat) (hN : 500 ≤ N) (hr : r < 3) : f4_filledPlaces N (nI r) σ = some (nI (cntB (flB σ r) 4), σ) := by
  have main := lpc (fun _ _ _ => none) (f4_filledPlaces_B4 N (nI r) (fun x2_4 σL4 => some (x2_4, σL4))) (fun t j => t (nI (cntB (flB σ r) j)) (nI j) σ) (some (nI (cntB (flB σ r) 4), σ)) 4 (by
    intro q
    show f4_filledPlaces_B4 _ _ _ _ _ _ _ = _
    unfold f4_filledPlaces_B4
    simp (disch := omega) only [q_lit, q_gt, q_bd, q_bxl, q_bxr, q_vib, q_cl, q_pos, q_lt, q_le, q_eq, q_neg, q_neg1, q_negz, q_negeq0, q_neg0le, q_rem, q_div, q_sub, q_if1, q_if0, q_okB0, q_okB1, q_dz, q_dn, q_nb, and_true, true_and, and_false, false_and, nI_add, pk_mul, if_true, if_false, ite_true, ite_false, Nat.add_zero, Nat.zero_add, Nat.reduceAdd]) (by
    intro q j hj
    have hc := cntB_le (flB σ r) j
    show f4_filledPlaces_B4 _ _ _ _ _ _ _ = q (nI (cntB (flB σ r) j + if flB σ r j then 1 else 0)) (nI (j + 1)) σ
    have hb : flB σ r j = decide (σ 77 (r * 4 + j) ≠ nI 0) := rfl
    unfold f4_filledPlaces_B4 f4_filledPlaces_J24 f4_isEmptyAt f4_heldAt f4_isSpot
    simp (disch := omega) only [q_lit, q_gt, q_bd, q_bxl, q_bxr, q_vib, q_cl, q_pos, q_lt, q_le, q_eq, q_neg, q_neg1, q_negz, q_negeq0, q_neg0le, q_rem, q_div, q_sub, q_if1, q_if0, q_okB0, q_okB1, q_dz, q_dn, q_nb, and_true, true_and, and_false, false_and, nI_add, pk_mul, if_true, if_false, ite_true, ite_false, Nat.add_zero, Nat.zero_add, Nat.reduceAdd]
    by_cases z : σ 77 (r * 4 + j) = nI 0
    · rw [hb, decide_eq_false (fun h => h z)]
      simp (disch := omega) only [q_lit, q_gt, q_bd, q_bxl, q_bxr, q_vib, q_cl, q_pos, q_lt, q_le, q_eq, q_neg, q_neg1, q_negz, q_negeq0, q_neg0le, q_rem, q_div, q_sub, q_if1, q_if0, q_okB0, q_okB1, q_dz, q_dn, q_nb, and_true, true_and, and_false, false_and, nI_add, pk_mul, if_true, if_false, ite_true, ite_false, Nat.add_zero, Nat.zero_add, Nat.reduceAdd, z]
      rfl
    · rw [hb, decide_eq_true z]
      simp (disch := omega) only [q_lit, q_gt, q_bd, q_bxl, q_bxr, q_vib, q_cl, q_pos, q_lt, q_le, q_eq, q_neg, q_neg1, q_negz, q_negeq0, q_neg0le, q_rem, q_div, q_sub, q_if1, q_if0, q_okB0, q_okB1, q_dz, q_dn, q_nb, and_true, true_and, and_false, false_and, nI_add, pk_mul, if_true, if_false, ite_true, ite_false, Nat.add_zero, Nat.zero_add, Nat.reduceAdd, z]) (i := 0) (n := N) (by omega) (by omega)
  exact main
end SH
