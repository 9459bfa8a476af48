/-! THE PURE PART. The order of the stories: the programs. -/
section R1
variable {σ : Hp} {D : Nat → Nat} {g : Nat}
theorem s3_comesBefore (hE : EdR σ (edOf g) D) (hD : DOk D) (N : Nat) {a b : Nat} (ha : a < 12) (hb : b < 12) : f3_comesBefore N g (nI a) (nI b) σ = some (nI (if kR D a < kR D b then 1 else 0), σ) := by
  obtain ⟨-, -, -, -, -, a5, -, -, a8, -⟩ := hD.2.2.1 a ha
  obtain ⟨-, -, -, -, -, b5, -, -, b8, -⟩ := hD.2.2.1 b hb
  unfold f3_comesBefore
  simp (disch := omega) only [q_lit, q_gt, q_bd, q_bxl, q_bxr, q_vib, q_cl, q_pos, q_lt, q_le, q_eq, q_neg, q_neg1, q_negz, q_negeq0, q_neg0le, q_rem, q_div, q_sub, q_if1, q_if0, q_okB0, q_okB1, q_dz, q_dn, q_nb, and_true, true_and, and_false, false_and, nI_add, pk_mul, if_true, if_false, ite_true, ite_false, Nat.add_zero, Nat.zero_add, Nat.reduceAdd, s1_isLate hE hD, s1_sn hE]
  unfold kR
  rcases bit_cases a8 with e1 | e1
  · rcases bit_cases b8 with e2 | e2
    · rw [e1, e2]
      by_cases z : dS D a 5 = dS D b 5
      · rw [z]
        by_cases z2 : b ≤ a
        · simp (disch := omega) only [q_lit, q_gt, q_bd, q_bxl, q_bxr, q_vib, q_cl, q_pos, q_lt, q_le, q_eq, q_neg, q_neg1, q_negz, q_negeq0, q_neg0le, q_rem, q_div, q_sub, q_if1, q_if0, q_okB0, q_okB1, q_dz, q_dn, q_nb, and_true, true_and, and_false, false_and, nI_add, pk_mul, if_true, if_false, ite_true, ite_false, Nat.add_zero, Nat.zero_add, Nat.reduceAdd]
        · simp (disch := omega) only [q_lit, q_gt, q_bd, q_bxl, q_bxr, q_vib, q_cl, q_pos, q_lt, q_le, q_eq, q_neg, q_neg1, q_negz, q_negeq0, q_neg0le, q_rem, q_div, q_sub, q_if1, q_if0, q_okB0, q_okB1, q_dz, q_dn, q_nb, and_true, true_and, and_false, false_and, nI_add, pk_mul, if_true, if_false, ite_true, ite_false, Nat.add_zero, Nat.zero_add, Nat.reduceAdd]
      · by_cases z2 : dS D a 5 ≤ dS D b 5
        · simp (disch := omega) only [q_lit, q_gt, q_bd, q_bxl, q_bxr, q_vib, q_cl, q_pos, q_lt, q_le, q_eq, q_neg, q_neg1, q_negz, q_negeq0, q_neg0le, q_rem, q_div, q_sub, q_if1, q_if0, q_okB0, q_okB1, q_dz, q_dn, q_nb, and_true, true_and, and_false, false_and, nI_add, pk_mul, if_true, if_false, ite_true, ite_false, Nat.add_zero, Nat.zero_add, Nat.reduceAdd]
        · simp (disch := omega) only [q_lit, q_gt, q_bd, q_bxl, q_bxr, q_vib, q_cl, q_pos, q_lt, q_le, q_eq, q_neg, q_neg1, q_negz, q_negeq0, q_neg0le, q_rem, q_div, q_sub, q_if1, q_if0, q_okB0, q_okB1, q_dz, q_dn, q_nb, and_true, true_and, and_false, false_and, nI_add, pk_mul, if_true, if_false, ite_true, ite_false, Nat.add_zero, Nat.zero_add, Nat.reduceAdd]
    · rw [e1, e2]
      simp (disch := omega) only [q_lit, q_gt, q_bd, q_bxl, q_bxr, q_vib, q_cl, q_pos, q_lt, q_le, q_eq, q_neg, q_neg1, q_negz, q_negeq0, q_neg0le, q_rem, q_div, q_sub, q_if1, q_if0, q_okB0, q_okB1, q_dz, q_dn, q_nb, and_true, true_and, and_false, false_and, nI_add, pk_mul, if_true, if_false, ite_true, ite_false, Nat.add_zero, Nat.zero_add, Nat.reduceAdd]
  · rcases bit_cases b8 with e2 | e2
    · rw [e1, e2]
      simp (disch := omega) only [q_lit, q_gt, q_bd, q_bxl, q_bxr, q_vib, q_cl, q_pos, q_lt, q_le, q_eq, q_neg, q_neg1, q_negz, q_negeq0, q_neg0le, q_rem, q_div, q_sub, q_if1, q_if0, q_okB0, q_okB1, q_dz, q_dn, q_nb, and_true, true_and, and_false, false_and, nI_add, pk_mul, if_true, if_false, ite_true, ite_false, Nat.add_zero, Nat.zero_add, Nat.reduceAdd]
    · rw [e1, e2]
      by_cases z : dS D a 5 = dS D b 5
      · rw [z]
        by_cases z2 : b ≤ a
        · simp (disch := omega) only [q_lit, q_gt, q_bd, q_bxl, q_bxr, q_vib, q_cl, q_pos, q_lt, q_le, q_eq, q_neg, q_neg1, q_negz, q_negeq0, q_neg0le, q_rem, q_div, q_sub, q_if1, q_if0, q_okB0, q_okB1, q_dz, q_dn, q_nb, and_true, true_and, and_false, false_and, nI_add, pk_mul, if_true, if_false, ite_true, ite_false, Nat.add_zero, Nat.zero_add, Nat.reduceAdd]
        · simp (disch := omega) only [q_lit, q_gt, q_bd, q_bxl, q_bxr, q_vib, q_cl, q_pos, q_lt, q_le, q_eq, q_neg, q_neg1, q_negz, q_negeq0, q_neg0le, q_rem, q_div, q_sub, q_if1, q_if0, q_okB0, q_okB1, q_dz, q_dn, q_nb, and_true, true_and, and_false, false_and, nI_add, pk_mul, if_true, if_false, ite_true, ite_false, Nat.add_zero, Nat.zero_add, Nat.reduceAdd]
      · by_cases z2 : dS D a 5 ≤ dS D b 5
        · simp (disch := omega) only [q_lit, q_gt, q_bd, q_bxl, q_bxr, q_vib, q_cl, q_pos, q_lt, q_le, q_eq, q_neg, q_neg1, q_negz, q_negeq0, q_neg0le, q_rem, q_div, q_sub, q_if1, q_if0, q_okB0, q_okB1, q_dz, q_dn, q_nb, and_true, true_and, and_false, false_and, nI_add, pk_mul, if_true, if_false, ite_true, ite_false, Nat.add_zero, Nat.zero_add, Nat.reduceAdd]
        · simp (disch := omega) only [q_lit, q_gt, q_bd, q_bxl, q_bxr, q_vib, q_cl, q_pos, q_lt, q_le, q_eq, q_neg, q_neg1, q_negz, q_negeq0, q_neg0le, q_rem, q_div, q_sub, q_if1, q_if0, q_okB0, q_okB1, q_dz, q_dn, q_nb, and_true, true_and, and_false, false_and, nI_add, pk_mul, if_true, if_false, ite_true, ite_false, Nat.add_zero, Nat.zero_add, Nat.reduceAdd]
theorem s6_isAhead (hN : NwR σ 85 D) (hD : DOk D) (N : Nat) {a b : Nat} (ha : a < 12) (hb : b < 12) : f6_isAhead N (nI a) (nI b) σ = some (nI (if kR D a < kR D b then 1 else 0), σ) := by
  obtain ⟨-, -, -, -, -, a5, -, -, a8, -⟩ := hD.2.2.1 a ha
  obtain ⟨-, -, -, -, -, b5, -, -, b8, -⟩ := hD.2.2.1 b hb
  unfold f6_isAhead
  simp (disch := omega) only [q_lit, q_gt, q_bd, q_bxl, q_bxr, q_vib, q_cl, q_pos, q_lt, q_le, q_eq, q_neg, q_neg1, q_negz, q_negeq0, q_neg0le, q_rem, q_div, q_sub, q_if1, q_if0, q_okB0, q_okB1, q_dz, q_dn, q_nb, and_true, true_and, and_false, false_and, nI_add, pk_mul, if_true, if_false, ite_true, ite_false, Nat.add_zero, Nat.zero_add, Nat.reduceAdd, s6_of hN]
  unfold kR
  rcases bit_cases a8 with e1 | e1
  · rcases bit_cases b8 with e2 | e2
    · rw [e1, e2]
      by_cases z : dS D a 5 = dS D b 5
      · rw [z]
        by_cases z2 : b ≤ a
        · simp (disch := omega) only [q_lit, q_gt, q_bd, q_bxl, q_bxr, q_vib, q_cl, q_pos, q_lt, q_le, q_eq, q_neg, q_neg1, q_negz, q_negeq0, q_neg0le, q_rem, q_div, q_sub, q_if1, q_if0, q_okB0, q_okB1, q_dz, q_dn, q_nb, and_true, true_and, and_false, false_and, nI_add, pk_mul, if_true, if_false, ite_true, ite_false, Nat.add_zero, Nat.zero_add, Nat.reduceAdd]
        · simp (disch := omega) only [q_lit, q_gt, q_bd, q_bxl, q_bxr, q_vib, q_cl, q_pos, q_lt, q_le, q_eq, q_neg, q_neg1, q_negz, q_negeq0, q_neg0le, q_rem, q_div, q_sub, q_if1, q_if0, q_okB0, q_okB1, q_dz, q_dn, q_nb, and_true, true_and, and_false, false_and, nI_add, pk_mul, if_true, if_false, ite_true, ite_false, Nat.add_zero, Nat.zero_add, Nat.reduceAdd]
      · by_cases z2 : dS D a 5 ≤ dS D b 5
        · simp (disch := omega) only [q_lit, q_gt, q_bd, q_bxl, q_bxr, q_vib, q_cl, q_pos, q_lt, q_le, q_eq, q_neg, q_neg1, q_negz, q_negeq0, q_neg0le, q_rem, q_div, q_sub, q_if1, q_if0, q_okB0, q_okB1, q_dz, q_dn, q_nb, and_true, true_and, and_false, false_and, nI_add, pk_mul, if_true, if_false, ite_true, ite_false, Nat.add_zero, Nat.zero_add, Nat.reduceAdd]
        · simp (disch := omega) only [q_lit, q_gt, q_bd, q_bxl, q_bxr, q_vib, q_cl, q_pos, q_lt, q_le, q_eq, q_neg, q_neg1, q_negz, q_negeq0, q_neg0le, q_rem, q_div, q_sub, q_if1, q_if0, q_okB0, q_okB1, q_dz, q_dn, q_nb, and_true, true_and, and_false, false_and, nI_add, pk_mul, if_true, if_false, ite_true, ite_false, Nat.add_zero, Nat.zero_add, Nat.reduceAdd]
    · rw [e1, e2]
      simp (disch := omega) only [q_lit, q_gt, q_bd, q_bxl, q_bxr, q_vib, q_cl, q_pos, q_lt, q_le, q_eq, q_neg, q_neg1, q_negz, q_negeq0, q_neg0le, q_rem, q_div, q_sub, q_if1, q_if0, q_okB0, q_okB1, q_dz, q_dn, q_nb, and_true, true_and, and_false, false_and, nI_add, pk_mul, if_true, if_false, ite_true, ite_false, Nat.add_zero, Nat.zero_add, Nat.reduceAdd]
  · rcases bit_cases b8 with e2 | e2
    · rw [e1, e2]
      simp (disch := omega) only [q_lit, q_gt, q_bd, q_bxl, q_bxr, q_vib, q_cl, q_pos, q_lt, q_le, q_eq, q_neg, q_neg1, q_negz, q_negeq0, q_neg0le, q_rem, q_div, q_sub, q_if1, q_if0, q_okB0, q_okB1, q_dz, q_dn, q_nb, and_true, true_and, and_false, false_and, nI_add, pk_mul, if_true, if_false, ite_true, ite_false, Nat.add_zero, Nat.zero_add, Nat.reduceAdd]
    · rw [e1, e2]
      by_cases z : dS D a 5 = dS D b 5
      · rw [z]
        by_cases z2 : b ≤ a
        · simp (disch := omega) only [q_lit, q_gt, q_bd, q_bxl, q_bxr, q_vib, q_cl, q_pos, q_lt, q_le, q_eq, q_neg, q_neg1, q_negz, q_negeq0, q_neg0le, q_rem, q_div, q_sub, q_if1, q_if0, q_okB0, q_okB1, q_dz, q_dn, q_nb, and_true, true_and, and_false, false_and, nI_add, pk_mul, if_true, if_false, ite_true, ite_false, Nat.add_zero, Nat.zero_add, Nat.reduceAdd]
        · simp (disch := omega) only [q_lit, q_gt, q_bd, q_bxl, q_bxr, q_vib, q_cl, q_pos, q_lt, q_le, q_eq, q_neg, q_neg1, q_negz, q_negeq0, q_neg0le, q_rem, q_div, q_sub, q_if1, q_if0, q_okB0, q_okB1, q_dz, q_dn, q_nb, and_true, true_and, and_false, false_and, nI_add, pk_mul, if_true, if_false, ite_true, ite_false, Nat.add_zero, Nat.zero_add, Nat.reduceAdd]
      · by_cases z2 : dS D a 5 ≤ dS D b 5
        · simp (disch := omega) only [q_lit, q_gt, q_bd, q_bxl, q_bxr, q_vib, q_cl, q_pos, q_lt, q_le, q_eq, q_neg, q_neg1, q_negz, q_negeq0, q_neg0le, q_rem, q_div, q_sub, q_if1, q_if0, q_okB0, q_okB1, q_dz, q_dn, q_nb, and_true, true_and, and_false, false_and, nI_add, pk_mul, if_true, if_false, ite_true, ite_false, Nat.add_zero, Nat.zero_add, Nat.reduceAdd]
        · simp (disch := omega) only [q_lit, q_gt, q_bd, q_bxl, q_bxr, q_vib, q_cl, q_pos, q_lt, q_le, q_eq, q_neg, q_neg1, q_negz, q_negeq0, q_neg0le, q_rem, q_div, q_sub, q_if1, q_if0, q_okB0, q_okB1, q_dz, q_dn, q_nb, and_true, true_and, and_false, false_and, nI_add, pk_mul, if_true, if_false, ite_true, ite_false, Nat.add_zero, Nat.zero_add, Nat.reduceAdd]
theorem s3_countBefore (hE : EdR σ (edOf g) D) (hD : DOk D) (N : Nat) (hN : 500 ≤ N) {s : Nat} (hs : s < 12) : f3_countBefore N g (nI s) σ = some (nI (cnt D s), σ) := by
  have main := lpc (fun _ _ _ => none) (f3_countBefore_B4 N g (nI s) (fun x2_4 σL4 => some (x2_4, σL4))) (fun t j => t (nI (cntB (befB D s) j)) (nI j) σ) (some (nI (cnt D s), σ)) 12 (by
    intro r
    show f3_countBefore_B4 _ _ _ _ _ _ _ _ = _
    unfold f3_countBefore_B4
    simp (disch := omega) only [q_lit, q_gt, q_bd, q_bxl, q_bxr, q_vib, q_cl, q_pos, q_lt, q_le, q_eq, q_neg, q_neg1, q_negz, q_negeq0, q_neg0le, q_rem, q_div, q_sub, q_if1, q_if0, q_okB0, q_okB1, q_dz, q_dn, q_nb, and_true, true_and, and_false, false_and, nI_add, pk_mul, if_true, if_false, ite_true, ite_false, Nat.add_zero, Nat.zero_add, Nat.reduceAdd]
    rfl) (by
    intro r j hj
    have hc := cntB_le (befB D s) j
    show f3_countBefore_B4 _ _ _ _ _ _ _ _ = r (nI (cntB (befB D s) j + if befB D s j then 1 else 0)) (nI (j + 1)) σ
    have hb : befB D s j = decide (dS D j 0 = 1 ∧ kR D j < kR D s) := rfl
    unfold f3_countBefore_B4 f3_countBefore_J33
    simp (disch := omega) only [q_lit, q_gt, q_bd, q_bxl, q_bxr, q_vib, q_cl, q_pos, q_lt, q_le, q_eq, q_neg, q_neg1, q_negz, q_negeq0, q_neg0le, q_rem, q_div, q_sub, q_if1, q_if0, q_okB0, q_okB1, q_dz, q_dn, q_nb, and_true, true_and, and_false, false_and, nI_add, pk_mul, if_true, if_false, ite_true, ite_false, Nat.add_zero, Nat.zero_add, Nat.reduceAdd, s1_hasStory hE hD, s3_comesBefore hE hD]
    rcases bit_cases (hD.2.2.1 j hj).1 with e | e
    · rw [hb, e]
      simp (disch := omega) only [q_lit, q_gt, q_bd, q_bxl, q_bxr, q_vib, q_cl, q_pos, q_lt, q_le, q_eq, q_neg, q_neg1, q_negz, q_negeq0, q_neg0le, q_rem, q_div, q_sub, q_if1, q_if0, q_okB0, q_okB1, q_dz, q_dn, q_nb, and_true, true_and, and_false, false_and, nI_add, pk_mul, if_true, if_false, ite_true, ite_false, Nat.add_zero, Nat.zero_add, Nat.reduceAdd]
      rfl
    · rw [hb, e]
      by_cases z : kR D j < kR D s
      · have : decide ((1 : Nat) = 1 ∧ kR D j < kR D s) = true := decide_eq_true ⟨rfl, z⟩
        rw [this]
        simp (disch := omega) only [q_lit, q_gt, q_bd, q_bxl, q_bxr, q_vib, q_cl, q_pos, q_lt, q_le, q_eq, q_neg, q_neg1, q_negz, q_negeq0, q_neg0le, q_rem, q_div, q_sub, q_if1, q_if0, q_okB0, q_okB1, q_dz, q_dn, q_nb, and_true, true_and, and_false, false_and, nI_add, pk_mul, if_true, if_false, ite_true, ite_false, Nat.add_zero, Nat.zero_add, Nat.reduceAdd]
      · have : decide ((1 : Nat) = 1 ∧ kR D j < kR D s) = false := decide_eq_false (fun h => z h.2)
        rw [this]
        simp (disch := omega) only [q_lit, q_gt, q_bd, q_bxl, q_bxr, q_vib, q_cl, q_pos, q_lt, q_le, q_eq, q_neg, q_neg1, q_negz, q_negeq0, q_neg0le, q_rem, q_div, q_sub, q_if1, q_if0, q_okB0, q_okB1, q_dz, q_dn, q_nb, and_true, true_and, and_false, false_and, nI_add, pk_mul, if_true, if_false, ite_true, ite_false, Nat.add_zero, Nat.zero_add, Nat.reduceAdd]
        rfl) (i := 0) (n := N) (by omega) (by omega)
  exact main
theorem s3_rankStories (hg : isP g) (hE : EdR σ (edOf g) D) (hD : DOk D) (N : Nat) (hN : 500 ≤ N) : ∃ σ', f3_rankStories N g σ = some ((), σ') ∧ (∀ k, k ≠ g + 3 → k ≠ g + 4 → σ' k = σ k) ∧ (∀ s, s < 12 → dS D s 0 = 1 → σ' (g + 4) s = nI (cnt D s)) ∧ (∀ k, k < nS D → σ' (g + 3) k = nI (ordN D k)) := by
  have main := lpx (fun _ _ => none) (f3_rankStories_B2 N g (fun σL2 => some ((), σL2))) (fun t j σ => t (nI j) σ) (fun σL2 => some ((), σL2)) 12 (fun m τ => (∀ k, k ≠ g + 3 → k ≠ g + 4 → τ k = σ k) ∧ (∀ s, s < m → dS D s 0 = 1 → τ (g + 4) s = nI (cnt D s)) ∧ (∀ s, s < m → dS D s 0 = 1 → τ (g + 3) (cnt D s) = nI s)) (by
    intro r τ hI
    show f3_rankStories_B2 _ _ _ _ _ _ = _
    unfold f3_rankStories_B2
    simp (disch := omega) only [q_lit, q_gt, q_bd, q_bxl, q_bxr, q_vib, q_cl, q_pos, q_lt, q_le, q_eq, q_neg, q_neg1, q_negz, q_negeq0, q_neg0le, q_rem, q_div, q_sub, q_if1, q_if0, q_okB0, q_okB1, q_dz, q_dn, q_nb, and_true, true_and, and_false, false_and, nI_add, pk_mul, if_true, if_false, ite_true, ite_false, Nat.add_zero, Nat.zero_add, Nat.reduceAdd]) (by
    intro r j τ hj hI
    obtain ⟨i1, i2, i3⟩ := hI
    show ∃ σ', _ ∧ f3_rankStories_B2 N g _ r (nI j) τ = r (nI (j + 1)) σ'
    have hE' : EdR τ (edOf g) D := ed_fr hg hE (fun k hk => i1 k (by omega) (by omega))
    have c1 := cntB_le (befB D j) 12
    unfold f3_rankStories_B2 f3_rankStories_J46 f5_isStoryIndex
    simp (disch := omega) only [q_lit, q_gt, q_bd, q_bxl, q_bxr, q_vib, q_cl, q_pos, q_lt, q_le, q_eq, q_neg, q_neg1, q_negz, q_negeq0, q_neg0le, q_rem, q_div, q_sub, q_if1, q_if0, q_okB0, q_okB1, q_dz, q_dn, q_nb, and_true, true_and, and_false, false_and, nI_add, pk_mul, if_true, if_false, ite_true, ite_false, Nat.add_zero, Nat.zero_add, Nat.reduceAdd, s1_hasStory hE' hD, s3_countBefore hE' hD N hN]
    rcases bit_cases (hD.2.2.1 j hj).1 with e | e
    · rw [e]
      refine ⟨τ, ⟨i1, ?_, ?_⟩, by simp (disch := omega) only [q_lit, q_gt, q_bd, q_bxl, q_bxr, q_vib, q_cl, q_pos, q_lt, q_le, q_eq, q_neg, q_neg1, q_negz, q_negeq0, q_neg0le, q_rem, q_div, q_sub, q_if1, q_if0, q_okB0, q_okB1, q_dz, q_dn, q_nb, and_true, true_and, and_false, false_and, nI_add, pk_mul, if_true, if_false, ite_true, ite_false, Nat.add_zero, Nat.zero_add, Nat.reduceAdd]⟩
      · intro s hs h0
        exact i2 s (by by_cases z : s = j; · rw [z, e] at h0; omega
                       · omega) h0
      · intro s hs h0
        exact i3 s (by by_cases z : s = j; · rw [z, e] at h0; omega
                       · omega) h0
    · have c2 := cnt_n hj e
      have c3 := nS_le D
      have c4 : cnt D j < 12 := by omega
      rw [e]
      refine ⟨st (st τ (g + 4) j (nI (cnt D j))) (g + 3) (cnt D j) (nI j), ⟨?_, ?_, ?_⟩, by simp (disch := omega) only [q_lit, q_gt, q_bd, q_bxl, q_bxr, q_vib, q_cl, q_pos, q_lt, q_le, q_eq, q_neg, q_neg1, q_negz, q_negeq0, q_neg0le, q_rem, q_div, q_sub, q_if1, q_if0, q_okB0, q_okB1, q_dz, q_dn, q_nb, and_true, true_and, and_false, false_and, nI_add, pk_mul, if_true, if_false, ite_true, ite_false, Nat.add_zero, Nat.zero_add, Nat.reduceAdd]⟩
      · intro k k1 k2
        rw [st_row _ _ _ _ k1, st_row _ _ _ _ k2]
        exact i1 k k1 k2
      · intro s hs h0
        rw [st_row _ _ _ _ (by omega), st_get]
        by_cases z : s = j
        · rw [z, if_pos ⟨rfl, rfl⟩]
        · rw [if_neg (fun h => z h.2)]
          exact i2 s (by omega) h0
      · intro s hs h0
        rw [st_get]
        by_cases z : s = j
        · rw [z, if_pos ⟨rfl, rfl⟩]
        · have : cnt D s ≠ cnt D j := fun h => z (cnt_inj (by omega) hj h0 e h)
          rw [if_neg (fun h => this h.2), st_row _ _ _ _ (by omega)]
          exact i3 s (by omega) h0) 12 0 N σ (by omega) (by omega) ⟨fun _ _ _ => rfl, fun s h => absurd h (Nat.not_lt_zero s), fun s h => absurd h (Nat.not_lt_zero s)⟩
  obtain ⟨σ', ⟨i1, i2, i3⟩, h⟩ := main
  refine ⟨σ', h, i1, i2, fun k hk => ?_⟩
  have hI := ordN_I D
  have := i3 (ordN D k) (hI.1 k hk).1 (hI.1 k hk).2
  rw [ord_cnt hI k hk] at this
  exact this
/-- the reference's insertion: from the end down to its place -/
theorem s6_insLoop (hD : DOk D) (N s n : Nat) (hs : s < 12) (o : Nat → Nat) (ho : ∀ k, k < n → o k < 12) (hn : n < 12) (K7 : Hp → Option (Unit × Hp)) (r7 : Int32 → Hp → Option (Unit × Hp)) (K : Int32 → Hp → Option (Unit × Hp)) (z : Int32 → Hp → Option (Unit × Hp)) : ∀ (t M : Nat) (τ : Hp), t ≤ n → t < M → NwR τ 85 D → (∀ k, k < t → τ 91 k = nI (o k)) → ∃ σ', it z (f6_ranks_B30 N K7 r7 (nI s) K) M (nI t) τ = K (nI (posA (ahB D o s) t)) σ' ∧ (∀ k, k ≠ 91 → σ' k = τ k) ∧ (∀ k, k < posA (ahB D o s) t → σ' 91 k = nI (o k)) ∧ (∀ k, posA (ahB D o s) t < k → k ≤ t → σ' 91 k = nI (o (k - 1))) ∧ (∀ k, t < k → σ' 91 k = τ 91 k) := by
  intro t
  induction t with
  | zero =>
    intro M τ h1 h2 hNw hrow
    obtain ⟨m, rfl⟩ : ∃ m, M = m + 1 := ⟨M - 1, by omega⟩
    refine ⟨τ, ?_, fun _ _ => rfl, fun k hk => absurd hk (Nat.not_lt_zero k), fun k hk hk2 => ?_, fun _ _ => rfl⟩
    · rw [it_s]
      unfold f6_ranks_B30 posA
      simp (disch := omega) only [q_lit, q_gt, q_bd, q_bxl, q_bxr, q_vib, q_cl, q_pos, q_lt, q_le, q_eq, q_neg, q_neg1, q_negz, q_negeq0, q_neg0le, q_rem, q_div, q_sub, q_if1, q_if0, q_okB0, q_okB1, q_dz, q_dn, q_nb, and_true, true_and, and_false, false_and, nI_add, pk_mul, if_true, if_false, ite_true, ite_false, Nat.add_zero, Nat.zero_add, Nat.reduceAdd]
    · unfold posA at hk
      omega
  | succ t ih =>
    intro M τ h1 h2 hNw hrow
    obtain ⟨m, rfl⟩ : ∃ m, M = m + 1 := ⟨M - 1, by omega⟩
    have ht := hrow t (by omega)
    have hot := ho t (by omega)
    have hk := s6_isAhead hNw hD N hs hot
    have e1 : (nI (t + 1) : Int32) + -nI 1 = nI t := by
      have := pk_m1 t
      exact this
    rw [it_s]
    unfold posA
    have hb : ahB D o s t = decide (kR D s < kR D (o t)) := rfl
    by_cases c : kR D s < kR D (o t)
    · rw [hb, decide_eq_true c, if_pos rfl]
      rw [if_pos c] at hk
      obtain ⟨σ', q1, q2, q3, q4, q5⟩ := ih m (st τ 91 (t + 1) (nI (o t))) (by omega) (by omega) (hNw.congr (st_row _ _ _ _ (by omega))) (fun k hk => by
        rw [st_ne _ _ _ _ (Or.inr (by omega))]
        exact hrow k (by omega))
      have hpl := posA_le (ahB D o s) t
      refine ⟨σ', ?_, fun k hk => (q2 k hk).trans (st_row _ _ _ _ hk), q3, fun k hk1 hk2 => ?_, fun k hk => ?_⟩
      · rw [← q1]
        unfold f6_ranks_B30
        simp (disch := omega) only [q_lit, q_gt, q_bd, q_bxl, q_bxr, q_vib, q_cl, q_pos, q_lt, q_le, q_eq, q_neg, q_neg1, q_negz, q_negeq0, q_neg0le, q_rem, q_div, q_sub, q_if1, q_if0, q_okB0, q_okB1, q_dz, q_dn, q_nb, and_true, true_and, and_false, false_and, nI_add, pk_mul, if_true, if_false, ite_true, ite_false, Nat.add_zero, Nat.zero_add, Nat.reduceAdd, Nat.add_sub_cancel, ht, hk, e1]
      · by_cases c2 : k = t + 1
        · rw [c2, q5 (t + 1) (by omega), st_same]
          rfl
        · exact q4 k hk1 (by omega)
      · rw [q5 k (by omega), st_ne _ _ _ _ (Or.inr (by omega))]
    · rw [hb, decide_eq_false c, if_neg (by decide)]
      rw [if_neg c] at hk
      refine ⟨τ, ?_, fun _ _ => rfl, hrow, fun k hk1 hk2 => by omega, fun _ _ => rfl⟩
      unfold f6_ranks_B30
      simp (disch := omega) only [q_lit, q_gt, q_bd, q_bxl, q_bxr, q_vib, q_cl, q_pos, q_lt, q_le, q_eq, q_neg, q_neg1, q_negz, q_negeq0, q_neg0le, q_rem, q_div, q_sub, q_if1, q_if0, q_okB0, q_okB1, q_dz, q_dn, q_nb, and_true, true_and, and_false, false_and, nI_add, pk_mul, if_true, if_false, ite_true, ite_false, Nat.add_zero, Nat.zero_add, Nat.reduceAdd, Nat.add_sub_cancel, ht, hk]
theorem s6_ranks (hNw : NwR σ 85 D) (hD : DOk D) (N : Nat) (hN : 500 ≤ N) : ∃ σ', f6_ranks N σ = some ((), σ') ∧ (∀ k, k ≠ 84 → k ≠ 91 → σ' k = σ k) ∧ (∀ i, i ≠ 14 → σ' 84 i = σ 84 i) ∧ σ' 84 14 = nI (nS D) ∧ (∀ k, k < nS D → σ' 91 k = nI (ordN D k)) := by
  have main := lpx (fun _ _ => none) (f6_ranks_B7 N (fun σL7 => some ((), σL7))) (fun t j σ => t (nI j) σ) (fun σL7 => some ((), σL7)) 12 (fun m τ => (∀ k, k ≠ 84 → k ≠ 91 → τ k = σ k) ∧ (∀ i, i ≠ 14 → τ 84 i = σ 84 i) ∧ τ 84 14 = nI (ordF D m).2 ∧ (∀ k, k < (ordF D m).2 → τ 91 k = nI ((ordF D m).1 k)) ∧ (ordF D m).2 ≤ m) (by
    intro r τ hI
    show f6_ranks_B7 _ _ _ _ _ = _
    unfold f6_ranks_B7
    simp (disch := omega) only [q_lit, q_gt, q_bd, q_bxl, q_bxr, q_vib, q_cl, q_pos, q_lt, q_le, q_eq, q_neg, q_neg1, q_negz, q_negeq0, q_neg0le, q_rem, q_div, q_sub, q_if1, q_if0, q_okB0, q_okB1, q_dz, q_dn, q_nb, and_true, true_and, and_false, false_and, nI_add, pk_mul, if_true, if_false, ite_true, ite_false, Nat.add_zero, Nat.zero_add, Nat.reduceAdd]) (by
    intro r j τ hj hI
    obtain ⟨i1, i2, i3, i4, i5⟩ := hI
    show ∃ σ', _ ∧ f6_ranks_B7 N _ r (nI j) τ = r (nI (j + 1)) σ'
    have hNw' : NwR τ 85 D := hNw.congr (i1 85 (by omega) (by omega))
    unfold f6_ranks_B7
    simp (disch := omega) only [q_lit, q_gt, q_bd, q_bxl, q_bxr, q_vib, q_cl, q_pos, q_lt, q_le, q_eq, q_neg, q_neg1, q_negz, q_negeq0, q_neg0le, q_rem, q_div, q_sub, q_if1, q_if0, q_okB0, q_okB1, q_dz, q_dn, q_nb, and_true, true_and, and_false, false_and, nI_add, pk_mul, if_true, if_false, ite_true, ite_false, Nat.add_zero, Nat.zero_add, Nat.reduceAdd, s6_of hNw']
    have hoI := ordF_I D j (by omega)
    rcases bit_cases (hD.2.2.1 j hj).1 with e | e
    · have hF : ordF D (j + 1) = ordF D j := by
        show (if dS D j 0 = 1 then _ else _) = _
        rw [if_neg (by omega)]
      rw [hF, e]
      unfold f6_ranks_J87
      exact ⟨τ, ⟨i1, i2, i3, i4, by omega⟩, by simp (disch := omega) only [q_lit, q_gt, q_bd, q_bxl, q_bxr, q_vib, q_cl, q_pos, q_lt, q_le, q_eq, q_neg, q_neg1, q_negz, q_negeq0, q_neg0le, q_rem, q_div, q_sub, q_if1, q_if0, q_okB0, q_okB1, q_dz, q_dn, q_nb, and_true, true_and, and_false, false_and, nI_add, pk_mul, if_true, if_false, ite_true, ite_false, Nat.add_zero, Nat.zero_add, Nat.reduceAdd]⟩
    · have hF : ordF D (j + 1) = (insA (ordF D j).1 (posA (ahB D (ordF D j).1 j) (ordF D j).2) j, (ordF D j).2 + 1) := by
        show (if dS D j 0 = 1 then _ else _) = _
        rw [if_pos e]
      rw [hF, e]
      obtain ⟨σ1, q1, q2, q3, q4, q5⟩ := s6_insLoop hD N j (ordF D j).2 hj (ordF D j).1 (fun k hk => by have := (hoI.1 k hk).1; omega) (by omega) (fun σL7 => some ((), σL7)) r (fun x2_30 σL30 => gd (vib x2_30 12) (f6_ranks_J87 N (fun σL7 => some ((), σL7)) r (nI j) (st (st σL30 91 x2_30.toNatClampNeg (nI j)) 84 14 (((st σL30 91 x2_30.toNatClampNeg (nI j)) 84 14) + nI 1)))) (fun _ _ => none) (ordF D j).2 N τ (Nat.le_refl _) (by omega) hNw' i4
      have hpl := posA_le (ahB D (ordF D j).1 j) (ordF D j).2
      have h84 := q2 84 (by omega)
      refine ⟨st (st σ1 91 (posA (ahB D (ordF D j).1 j) (ordF D j).2) (nI j)) 84 14 (nI ((ordF D j).2 + 1)), ⟨?_, ?_, ?_, ?_, ?_⟩, ?_⟩
      · intro k k1 k2
        rw [st_row _ _ _ _ k1, st_row _ _ _ _ k2, q2 k k2]
        exact i1 k k1 k2
      · intro i hi
        rw [st_ne _ _ _ _ (Or.inr hi), st_row _ _ _ _ (by omega), h84]
        exact i2 i hi
      · exact st_same _ _ _ _
      · intro k hk
        rw [st_row _ _ _ _ (by omega), st_get]
        show _ = nI (insA (ordF D j).1 (posA (ahB D (ordF D j).1 j) (ordF D j).2) j k)
        unfold insA
        by_cases c1 : k < posA (ahB D (ordF D j).1 j) (ordF D j).2
        · rw [if_neg (by omega), if_pos c1]
          exact q3 k c1
        · rw [if_neg c1]
          by_cases c2 : k = posA (ahB D (ordF D j).1 j) (ordF D j).2
          · rw [if_pos ⟨rfl, c2⟩, if_pos c2]
          · rw [if_neg (fun h => c2 h.2), if_neg c2]
            exact q4 k (by omega) (by have : k < (ordF D j).2 + 1 := hk; omega)
      · show (ordF D j).2 + 1 ≤ j + 1
        omega
      · simp (disch := omega) only [q_lit, q_gt, q_bd, q_bxl, q_bxr, q_vib, q_cl, q_pos, q_lt, q_le, q_eq, q_neg, q_neg1, q_negz, q_negeq0, q_neg0le, q_rem, q_div, q_sub, q_if1, q_if0, q_okB0, q_okB1, q_dz, q_dn, q_nb, and_true, true_and, and_false, false_and, nI_add, pk_mul, if_true, if_false, ite_true, ite_false, Nat.add_zero, Nat.zero_add, Nat.reduceAdd, i3]
        refine Eq.trans q1 ?_
        unfold f6_ranks_J87
        simp (disch := omega) only [q_lit, q_gt, q_bd, q_bxl, q_bxr, q_vib, q_cl, q_pos, q_lt, q_le, q_eq, q_neg, q_neg1, q_negz, q_negeq0, q_neg0le, q_rem, q_div, q_sub, q_if1, q_if0, q_okB0, q_okB1, q_dz, q_dn, q_nb, and_true, true_and, and_false, false_and, nI_add, pk_mul, if_true, if_false, ite_true, ite_false, Nat.add_zero, Nat.zero_add, Nat.reduceAdd, st_row, h84, i3]) 12 0 N (st σ 84 14 (nI 0)) (by omega) (by omega) ⟨fun k k1 k2 => st_row _ _ _ _ k1, fun i hi => st_ne _ _ _ _ (Or.inr hi), st_same _ _ _ _, fun k hk => absurd hk (Nat.not_lt_zero k), Nat.le_refl 0⟩
  obtain ⟨σ', ⟨i1, i2, i3, i4, i5⟩, h⟩ := main
  rw [ordF_n] at i3 i4
  exact ⟨σ', h, i1, i2, i3, i4⟩
end R1
