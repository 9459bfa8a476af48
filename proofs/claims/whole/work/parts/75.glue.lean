/-! THE PURE PART. The law's cases, from the agreements: the plain ones. -/
theorem ok_case0 {ρ : Type} {σ : Hp} (hI : Inv σ) (N : Nat) (hN : 500 ≤ N) (xs : Nat → Int32) (Ls i : Nat) (hi : i + 7 ≤ Ls) (hL : Ls < 100000) (K : Hp → Option ρ) : ∃ σ', Inv σ' ∧ fL_case0 N xs Ls (nI i) K σ = K σ' := by
  obtain ⟨σ', h1, h2⟩ := agree_tail (case_addAd hI N hN (xs (i + 1)) (xs (i + 2)) (xs (i + 3)) (xs (i + 4)) (xs (i + 5)) (xs (i + 6))) N K
  refine ⟨σ', h1, Eq.trans ?_ h2⟩
  unfold fL_case0
  simp (disch := omega) only [q_lit, q_gt, q_bd, q_bxl, q_bxr, q_vib, q_cl, q_pos, q_lt, q_le, q_eq, q_neg, q_neg1, q_negz, q_negeq0, q_neg0le, q_rem, q_div, q_sub, q_if1, q_if0, q_okB0, q_okB1, q_dz, q_dn, q_nb, and_true, true_and, and_false, false_and, nI_add, pk_mul, if_true, if_false, ite_true, ite_false, Nat.add_zero, Nat.zero_add, Nat.reduceAdd]
theorem ok_case1 {ρ : Type} {σ : Hp} (hI : Inv σ) (N : Nat) (hN : 500 ≤ N) (xs : Nat → Int32) (Ls i : Nat) (hi : i + 7 ≤ Ls) (hL : Ls < 100000) (K : Hp → Option ρ) : ∃ σ', Inv σ' ∧ fL_case1 N xs Ls (nI i) K σ = K σ' := by
  obtain ⟨σ', h1, h2⟩ := agree_tail (case_addStory hI N hN (xs (i + 1)) (xs (i + 2)) (xs (i + 3)) (xs (i + 4)) (xs (i + 5))) N K
  refine ⟨σ', h1, Eq.trans ?_ h2⟩
  unfold fL_case1
  simp (disch := omega) only [q_lit, q_gt, q_bd, q_bxl, q_bxr, q_vib, q_cl, q_pos, q_lt, q_le, q_eq, q_neg, q_neg1, q_negz, q_negeq0, q_neg0le, q_rem, q_div, q_sub, q_if1, q_if0, q_okB0, q_okB1, q_dz, q_dn, q_nb, and_true, true_and, and_false, false_and, nI_add, pk_mul, if_true, if_false, ite_true, ite_false, Nat.add_zero, Nat.zero_add, Nat.reduceAdd]
theorem ok_case2 {ρ : Type} {σ : Hp} (hI : Inv σ) (N : Nat) (hN : 500 ≤ N) (xs : Nat → Int32) (Ls i : Nat) (hi : i + 7 ≤ Ls) (hL : Ls < 100000) (K : Hp → Option ρ) : ∃ σ', Inv σ' ∧ fL_case2 N xs Ls (nI i) K σ = K σ' := by
  obtain ⟨σ', h1, h2⟩ := agree_tail (case_setPhoto hI N hN (xs (i + 1)) (xs (i + 2)) (xs (i + 3))) N K
  refine ⟨σ', h1, Eq.trans ?_ h2⟩
  unfold fL_case2
  simp (disch := omega) only [q_lit, q_gt, q_bd, q_bxl, q_bxr, q_vib, q_cl, q_pos, q_lt, q_le, q_eq, q_neg, q_neg1, q_negz, q_negeq0, q_neg0le, q_rem, q_div, q_sub, q_if1, q_if0, q_okB0, q_okB1, q_dz, q_dn, q_nb, and_true, true_and, and_false, false_and, nI_add, pk_mul, if_true, if_false, ite_true, ite_false, Nat.add_zero, Nat.zero_add, Nat.reduceAdd]
theorem ok_case4 {ρ : Type} {σ : Hp} (hI : Inv σ) (N : Nat) (hN : 500 ≤ N) (xs : Nat → Int32) (Ls i : Nat) (hi : i + 7 ≤ Ls) (hL : Ls < 100000) (K : Hp → Option ρ) : ∃ σ', Inv σ' ∧ fL_case4 N xs Ls (nI i) K σ = K σ' := by
  obtain ⟨σ', h1, h2⟩ := agree_tail (case_change hI N hN (xs (i + 1)) (xs (i + 2)) (xs (i + 3))) N K
  refine ⟨σ', h1, Eq.trans ?_ h2⟩
  unfold fL_case4
  simp (disch := omega) only [q_lit, q_gt, q_bd, q_bxl, q_bxr, q_vib, q_cl, q_pos, q_lt, q_le, q_eq, q_neg, q_neg1, q_negz, q_negeq0, q_neg0le, q_rem, q_div, q_sub, q_if1, q_if0, q_okB0, q_okB1, q_dz, q_dn, q_nb, and_true, true_and, and_false, false_and, nI_add, pk_mul, if_true, if_false, ite_true, ite_false, Nat.add_zero, Nat.zero_add, Nat.reduceAdd]
theorem ok_case6 {ρ : Type} {σ : Hp} (hI : Inv σ) (N : Nat) (hN : 500 ≤ N) (xs : Nat → Int32) (Ls i : Nat) (hi : i + 7 ≤ Ls) (hL : Ls < 100000) (K : Hp → Option ρ) : ∃ σ', Inv σ' ∧ fL_case6 N xs Ls (nI i) K σ = K σ' := by
  obtain ⟨σ', h1, h2⟩ := agree_tail (case_story hI N hN (xs (i + 1)) (xs (i + 2))) N K
  refine ⟨σ', h1, Eq.trans ?_ h2⟩
  unfold fL_case6
  simp (disch := omega) only [q_lit, q_gt, q_bd, q_bxl, q_bxr, q_vib, q_cl, q_pos, q_lt, q_le, q_eq, q_neg, q_neg1, q_negz, q_negeq0, q_neg0le, q_rem, q_div, q_sub, q_if1, q_if0, q_okB0, q_okB1, q_dz, q_dn, q_nb, and_true, true_and, and_false, false_and, nI_add, pk_mul, if_true, if_false, ite_true, ite_false, Nat.add_zero, Nat.zero_add, Nat.reduceAdd]
theorem ok_case7 {ρ : Type} {σ : Hp} (hI : Inv σ) (N : Nat) (hN : 500 ≤ N) (xs : Nat → Int32) (Ls i : Nat) (hi : i + 7 ≤ Ls) (hL : Ls < 100000) (K : Hp → Option ρ) : ∃ σ', Inv σ' ∧ fL_case7 N xs Ls (nI i) K σ = K σ' := by
  obtain ⟨σ', h1, h2⟩ := agree_tail (case_advertisement hI N (xs (i + 1)) (xs (i + 2))) N K
  refine ⟨σ', h1, Eq.trans ?_ h2⟩
  unfold fL_case7
  simp (disch := omega) only [q_lit, q_gt, q_bd, q_bxl, q_bxr, q_vib, q_cl, q_pos, q_lt, q_le, q_eq, q_neg, q_neg1, q_negz, q_negeq0, q_neg0le, q_rem, q_div, q_sub, q_if1, q_if0, q_okB0, q_okB1, q_dz, q_dn, q_nb, and_true, true_and, and_false, false_and, nI_add, pk_mul, if_true, if_false, ite_true, ite_false, Nat.add_zero, Nat.zero_add, Nat.reduceAdd]
theorem ok_case8 {ρ : Type} {σ : Hp} (hI : Inv σ) (N : Nat) (hN : 500 ≤ N) (xs : Nat → Int32) (Ls i : Nat) (hi : i + 7 ≤ Ls) (hL : Ls < 100000) (K : Hp → Option ρ) : ∃ σ', Inv σ' ∧ fL_case8 N xs Ls (nI i) K σ = K σ' := by
  obtain ⟨σ', h1, h2⟩ := agree_tail (case_cell hI N hN (xs (i + 1)) (xs (i + 2)) (xs (i + 3))) N K
  refine ⟨σ', h1, Eq.trans ?_ h2⟩
  unfold fL_case8
  simp (disch := omega) only [q_lit, q_gt, q_bd, q_bxl, q_bxr, q_vib, q_cl, q_pos, q_lt, q_le, q_eq, q_neg, q_neg1, q_negz, q_negeq0, q_neg0le, q_rem, q_div, q_sub, q_if1, q_if0, q_okB0, q_okB1, q_dz, q_dn, q_nb, and_true, true_and, and_false, false_and, nI_add, pk_mul, if_true, if_false, ite_true, ite_false, Nat.add_zero, Nat.zero_add, Nat.reduceAdd]
theorem ok_case9 {ρ : Type} {σ : Hp} (hI : Inv σ) (N : Nat) (hN : 500 ≤ N) (xs : Nat → Int32) (Ls i : Nat) (hi : i + 7 ≤ Ls) (hL : Ls < 100000) (K : Hp → Option ρ) : ∃ σ', Inv σ' ∧ fL_case9 N xs Ls (nI i) K σ = K σ' := by
  obtain ⟨σ', h1, h2⟩ := agree_tail (case_owner hI N hN (xs (i + 1)) (xs (i + 2)) (xs (i + 3))) N K
  refine ⟨σ', h1, Eq.trans ?_ h2⟩
  unfold fL_case9
  simp (disch := omega) only [q_lit, q_gt, q_bd, q_bxl, q_bxr, q_vib, q_cl, q_pos, q_lt, q_le, q_eq, q_neg, q_neg1, q_negz, q_negeq0, q_neg0le, q_rem, q_div, q_sub, q_if1, q_if0, q_okB0, q_okB1, q_dz, q_dn, q_nb, and_true, true_and, and_false, false_and, nI_add, pk_mul, if_true, if_false, ite_true, ite_false, Nat.add_zero, Nat.zero_add, Nat.reduceAdd]
theorem ok_case10 {ρ : Type} {σ : Hp} (hI : Inv σ) (N : Nat) (hN : 500 ≤ N) (xs : Nat → Int32) (Ls i : Nat) (hi : i + 7 ≤ Ls) (hL : Ls < 100000) (K : Hp → Option ρ) : ∃ σ', Inv σ' ∧ fL_case10 N xs Ls (nI i) K σ = K σ' := by
  obtain ⟨σ', h1, h2⟩ := agree_tail (case_part hI N hN (xs (i + 1)) (xs (i + 2)) (xs (i + 3))) N K
  refine ⟨σ', h1, Eq.trans ?_ h2⟩
  unfold fL_case10
  simp (disch := omega) only [q_lit, q_gt, q_bd, q_bxl, q_bxr, q_vib, q_cl, q_pos, q_lt, q_le, q_eq, q_neg, q_neg1, q_negz, q_negeq0, q_neg0le, q_rem, q_div, q_sub, q_if1, q_if0, q_okB0, q_okB1, q_dz, q_dn, q_nb, and_true, true_and, and_false, false_and, nI_add, pk_mul, if_true, if_false, ite_true, ite_false, Nat.add_zero, Nat.zero_add, Nat.reduceAdd]
theorem ok_case12 {ρ : Type} {σ : Hp} (hI : Inv σ) (N : Nat) (hN : 500 ≤ N) (xs : Nat → Int32) (Ls i : Nat) (hi : i + 7 ≤ Ls) (hL : Ls < 100000) (K : Hp → Option ρ) : ∃ σ', Inv σ' ∧ fL_case12 N xs Ls (nI i) K σ = K σ' := by
  obtain ⟨σ', h1, h2⟩ := agree_tail (case_ranked hI N hN (xs (i + 1))) N K
  refine ⟨σ', h1, Eq.trans ?_ h2⟩
  unfold fL_case12
  simp (disch := omega) only [q_lit, q_gt, q_bd, q_bxl, q_bxr, q_vib, q_cl, q_pos, q_lt, q_le, q_eq, q_neg, q_neg1, q_negz, q_negeq0, q_neg0le, q_rem, q_div, q_sub, q_if1, q_if0, q_okB0, q_okB1, q_dz, q_dn, q_nb, and_true, true_and, and_false, false_and, nI_add, pk_mul, if_true, if_false, ite_true, ite_false, Nat.add_zero, Nat.zero_add, Nat.reduceAdd]
theorem ok_case13 {ρ : Type} {σ : Hp} (hI : Inv σ) (N : Nat) (hN : 500 ≤ N) (xs : Nat → Int32) (Ls i : Nat) (hi : i + 7 ≤ Ls) (hL : Ls < 100000) (K : Hp → Option ρ) : ∃ σ', Inv σ' ∧ fL_case13 N xs Ls (nI i) K σ = K σ' := by
  obtain ⟨σ', h1, h2⟩ := agree_tail (case_fate hI N hN (xs (i + 1))) N K
  refine ⟨σ', h1, Eq.trans ?_ h2⟩
  unfold fL_case13
  simp (disch := omega) only [q_lit, q_gt, q_bd, q_bxl, q_bxr, q_vib, q_cl, q_pos, q_lt, q_le, q_eq, q_neg, q_neg1, q_negz, q_negeq0, q_neg0le, q_rem, q_div, q_sub, q_if1, q_if0, q_okB0, q_okB1, q_dz, q_dn, q_nb, and_true, true_and, and_false, false_and, nI_add, pk_mul, if_true, if_false, ite_true, ite_false, Nat.add_zero, Nat.zero_add, Nat.reduceAdd]
theorem ok_case14 {ρ : Type} {σ : Hp} (hI : Inv σ) (N : Nat) (hN : 500 ≤ N) (xs : Nat → Int32) (Ls i : Nat) (hi : i + 7 ≤ Ls) (hL : Ls < 100000) (K : Hp → Option ρ) : ∃ σ', Inv σ' ∧ fL_case14 N xs Ls (nI i) K σ = K σ' := by
  obtain ⟨σ', h1, h2⟩ := agree_tail (case_blamed hI N hN (xs (i + 1))) N K
  refine ⟨σ', h1, Eq.trans ?_ h2⟩
  unfold fL_case14
  simp (disch := omega) only [q_lit, q_gt, q_bd, q_bxl, q_bxr, q_vib, q_cl, q_pos, q_lt, q_le, q_eq, q_neg, q_neg1, q_negz, q_negeq0, q_neg0le, q_rem, q_div, q_sub, q_if1, q_if0, q_okB0, q_okB1, q_dz, q_dn, q_nb, and_true, true_and, and_false, false_and, nI_add, pk_mul, if_true, if_false, ite_true, ite_false, Nat.add_zero, Nat.zero_add, Nat.reduceAdd]
theorem ok_case16 {ρ : Type} {σ : Hp} (hI : Inv σ) (N : Nat) (hN : 500 ≤ N) (xs : Nat → Int32) (Ls i : Nat) (hi : i + 7 ≤ Ls) (hL : Ls < 100000) (K : Hp → Option ρ) : ∃ σ', Inv σ' ∧ fL_case16 N xs Ls (nI i) K σ = K σ' := by
  obtain ⟨σ', h1, h2⟩ := agree_tail (case_trim hI N hN (xs (i + 1))) N K
  refine ⟨σ', h1, Eq.trans ?_ h2⟩
  unfold fL_case16
  simp (disch := omega) only [q_lit, q_gt, q_bd, q_bxl, q_bxr, q_vib, q_cl, q_pos, q_lt, q_le, q_eq, q_neg, q_neg1, q_negz, q_negeq0, q_neg0le, q_rem, q_div, q_sub, q_if1, q_if0, q_okB0, q_okB1, q_dz, q_dn, q_nb, and_true, true_and, and_false, false_and, nI_add, pk_mul, if_true, if_false, ite_true, ite_false, Nat.add_zero, Nat.zero_add, Nat.reduceAdd]
theorem ok_case18 {ρ : Type} {σ : Hp} (hI : Inv σ) (N : Nat) (hN : 500 ≤ N) (xs : Nat → Int32) (Ls i : Nat) (hi : i + 7 ≤ Ls) (hL : Ls < 100000) (K : Hp → Option ρ) : ∃ σ', Inv σ' ∧ fL_case18 N xs Ls (nI i) K σ = K σ' := by
  obtain ⟨σ', h1, h2⟩ := agree_tail (case_cellCount hI N hN (xs (i + 1)) (xs (i + 2))) N K
  refine ⟨σ', h1, Eq.trans ?_ h2⟩
  unfold fL_case18
  simp (disch := omega) only [q_lit, q_gt, q_bd, q_bxl, q_bxr, q_vib, q_cl, q_pos, q_lt, q_le, q_eq, q_neg, q_neg1, q_negz, q_negeq0, q_neg0le, q_rem, q_div, q_sub, q_if1, q_if0, q_okB0, q_okB1, q_dz, q_dn, q_nb, and_true, true_and, and_false, false_and, nI_add, pk_mul, if_true, if_false, ite_true, ite_false, Nat.add_zero, Nat.zero_add, Nat.reduceAdd]
theorem ok_case26 {ρ : Type} {σ : Hp} (hI : Inv σ) (N : Nat) (hN : 500 ≤ N) (xs : Nat → Int32) (Ls i : Nat) (hi : i + 7 ≤ Ls) (hL : Ls < 100000) (K : Hp → Option ρ) : ∃ σ', Inv σ' ∧ fL_case26 N xs Ls (nI i) K σ = K σ' := by
  obtain ⟨σ', h1, h2⟩ := agree_tail (case_report hI N (xs (i + 1)) (xs (i + 2))) N K
  refine ⟨σ', h1, Eq.trans ?_ h2⟩
  unfold fL_case26
  simp (disch := omega) only [q_lit, q_gt, q_bd, q_bxl, q_bxr, q_vib, q_cl, q_pos, q_lt, q_le, q_eq, q_neg, q_neg1, q_negz, q_negeq0, q_neg0le, q_rem, q_div, q_sub, q_if1, q_if0, q_okB0, q_okB1, q_dz, q_dn, q_nb, and_true, true_and, and_false, false_and, nI_add, pk_mul, if_true, if_false, ite_true, ite_false, Nat.add_zero, Nat.zero_add, Nat.reduceAdd]
theorem ok_case27 {ρ : Type} {σ : Hp} (hI : Inv σ) (N : Nat) (hN : 500 ≤ N) (xs : Nat → Int32) (Ls i : Nat) (hi : i + 7 ≤ Ls) (hL : Ls < 100000) (K : Hp → Option ρ) : ∃ σ', Inv σ' ∧ fL_case27 N xs Ls (nI i) K σ = K σ' := by
  obtain ⟨σ', h1, h2⟩ := agree_tail (case_undo hI N hN ) N K
  refine ⟨σ', h1, Eq.trans ?_ h2⟩
  unfold fL_case27
  simp (disch := omega) only [q_lit, q_gt, q_bd, q_bxl, q_bxr, q_vib, q_cl, q_pos, q_lt, q_le, q_eq, q_neg, q_neg1, q_negz, q_negeq0, q_neg0le, q_rem, q_div, q_sub, q_if1, q_if0, q_okB0, q_okB1, q_dz, q_dn, q_nb, and_true, true_and, and_false, false_and, nI_add, pk_mul, if_true, if_false, ite_true, ite_false, Nat.add_zero, Nat.zero_add, Nat.reduceAdd]
theorem ok_case29 {ρ : Type} {σ : Hp} (hI : Inv σ) (N : Nat) (hN : 500 ≤ N) (xs : Nat → Int32) (Ls i : Nat) (hi : i + 7 ≤ Ls) (hL : Ls < 100000) (K : Hp → Option ρ) : ∃ σ', Inv σ' ∧ fL_case29 N xs Ls (nI i) K σ = K σ' := by
  obtain ⟨σ', h1, h2⟩ := agree_tail (case_restore hI N hN ) N K
  refine ⟨σ', h1, Eq.trans ?_ h2⟩
  unfold fL_case29
  simp (disch := omega) only [q_lit, q_gt, q_bd, q_bxl, q_bxr, q_vib, q_cl, q_pos, q_lt, q_le, q_eq, q_neg, q_neg1, q_negz, q_negeq0, q_neg0le, q_rem, q_div, q_sub, q_if1, q_if0, q_okB0, q_okB1, q_dz, q_dn, q_nb, and_true, true_and, and_false, false_and, nI_add, pk_mul, if_true, if_false, ite_true, ite_false, Nat.add_zero, Nat.zero_add, Nat.reduceAdd]
theorem ok_case28 {ρ : Type} {σ : Hp} (hI : Inv σ) (N : Nat) (hN : 500 ≤ N) (xs : Nat → Int32) (Ls i : Nat) (K : Hp → Option ρ) : ∃ σ', Inv σ' ∧ fL_case28 N xs Ls (nI i) K σ = K σ' := by
  obtain ⟨r, σ1, σ2, h1, h2, h3⟩ := case_save hI N hN
  refine ⟨σ2, h3, ?_⟩
  unfold fL_case28
  rw [h1, q_bd, h2, q_bd, if_pos rfl]
theorem ok_case5 {ρ : Type} {σ : Hp} (hI : Inv σ) (N : Nat) (hN : 500 ≤ N) (xs : Nat → Int32) (Ls i : Nat) (hi : i + 7 ≤ Ls) (hL : Ls < 100000) (K : Hp → Option ρ) : ∃ σ', Inv σ' ∧ fL_case5 N xs Ls (nI i) K σ = K σ' := by
  by_cases z : xs (i + 1) = nI 0
  · obtain ⟨σ', h1, h2⟩ := agree_tail (case_remove hI N hN (nI 0) (xs (i + 2))) N K
    refine ⟨σ', h1, Eq.trans ?_ h2⟩
    unfold fL_case5
    simp (disch := omega) only [q_lit, q_gt, q_bd, q_bxl, q_bxr, q_vib, q_cl, q_pos, q_lt, q_le, q_eq, q_neg, q_neg1, q_negz, q_negeq0, q_neg0le, q_rem, q_div, q_sub, q_if1, q_if0, q_okB0, q_okB1, q_dz, q_dn, q_nb, and_true, true_and, and_false, false_and, nI_add, pk_mul, if_true, if_false, ite_true, ite_false, Nat.add_zero, Nat.zero_add, Nat.reduceAdd, z]
  · obtain ⟨σ', h1, h2⟩ := agree_tail (case_remove hI N hN (nI 1) (xs (i + 2))) N K
    refine ⟨σ', h1, Eq.trans ?_ h2⟩
    unfold fL_case5
    simp (disch := omega) only [q_lit, q_gt, q_bd, q_bxl, q_bxr, q_vib, q_cl, q_pos, q_lt, q_le, q_eq, q_neg, q_neg1, q_negz, q_negeq0, q_neg0le, q_rem, q_div, q_sub, q_if1, q_if0, q_okB0, q_okB1, q_dz, q_dn, q_nb, and_true, true_and, and_false, false_and, nI_add, pk_mul, if_true, if_false, ite_true, ite_false, Nat.add_zero, Nat.zero_add, Nat.reduceAdd, z]
theorem ok_case15 {ρ : Type} {σ : Hp} (hI : Inv σ) (N : Nat) (hN : 500 ≤ N) (xs : Nat → Int32) (Ls i : Nat) (hi : i + 7 ≤ Ls) (hL : Ls < 100000) (K : Hp → Option ρ) : ∃ σ', Inv σ' ∧ fL_case15 N xs Ls (nI i) K σ = K σ' := by
  by_cases z : xs (i + 2) = nI 0
  · obtain ⟨σ', h1, h2⟩ := agree_tail (case_linesIf hI N hN (xs (i + 1)) (nI 0)) N K
    refine ⟨σ', h1, Eq.trans ?_ h2⟩
    unfold fL_case15
    simp (disch := omega) only [q_lit, q_gt, q_bd, q_bxl, q_bxr, q_vib, q_cl, q_pos, q_lt, q_le, q_eq, q_neg, q_neg1, q_negz, q_negeq0, q_neg0le, q_rem, q_div, q_sub, q_if1, q_if0, q_okB0, q_okB1, q_dz, q_dn, q_nb, and_true, true_and, and_false, false_and, nI_add, pk_mul, if_true, if_false, ite_true, ite_false, Nat.add_zero, Nat.zero_add, Nat.reduceAdd, z]
  · obtain ⟨σ', h1, h2⟩ := agree_tail (case_linesIf hI N hN (xs (i + 1)) (nI 1)) N K
    refine ⟨σ', h1, Eq.trans ?_ h2⟩
    unfold fL_case15
    simp (disch := omega) only [q_lit, q_gt, q_bd, q_bxl, q_bxr, q_vib, q_cl, q_pos, q_lt, q_le, q_eq, q_neg, q_neg1, q_negz, q_negeq0, q_neg0le, q_rem, q_div, q_sub, q_if1, q_if0, q_okB0, q_okB1, q_dz, q_dn, q_nb, and_true, true_and, and_false, false_and, nI_add, pk_mul, if_true, if_false, ite_true, ite_false, Nat.add_zero, Nat.zero_add, Nat.reduceAdd, z]
theorem ok_case24 {ρ : Type} {σ : Hp} (hI : Inv σ) (N : Nat) (xs : Nat → Int32) (Ls i : Nat) (hi : i + 7 ≤ Ls) (hL : Ls < 100000) (K : Hp → Option ρ) : ∃ σ', Inv σ' ∧ fL_case24 N xs Ls (nI i) K σ = K σ' := by
  obtain ⟨σ', h1, h2⟩ := agree_tail (case_feed hI N (a := (xs (i + 1)).toBitVec.toNat % 65536) (by omega)) N K
  refine ⟨σ', h1, Eq.trans ?_ h2⟩
  unfold fL_case24
  rw [show (nI i : Int32) + 1 = nI (i + 1) from nI_1 i, q_cl (by omega), pk_char]
  simp (disch := omega) only [q_lit, q_gt, q_bd, q_bxl, q_bxr, q_vib, q_cl, q_pos, q_lt, q_le, q_eq, q_neg, q_neg1, q_negz, q_negeq0, q_neg0le, q_rem, q_div, q_sub, q_if1, q_if0, q_okB0, q_okB1, q_dz, q_dn, q_nb, and_true, true_and, and_false, false_and, nI_add, pk_mul, if_true, if_false, ite_true, ite_false, Nat.add_zero, Nat.zero_add, Nat.reduceAdd]
theorem ok_case3 {ρ : Type} {σ : Hp} (hI : Inv σ) (N : Nat) (hN : 500 ≤ N) (xs : Nat → Int32) (Ls i : Nat) (hi : i + 7 ≤ Ls) (hL : Ls < 100000) (K : Hp → Option ρ) : ∃ σ', Inv σ' ∧ fL_case3 N xs Ls (nI i) K σ = K σ' := by
  have tail : ∀ (y : Int32), ∃ σ', Inv σ' ∧ bd (fL_setLate N (xs (i + 1)) y σ) (fun r504 σ504 => bd (f6_setLate N (xs (i + 1)) y σ504) (fun r530 σ530 => bd (f6_thrown N σ530) (fun r536 σ536 => if r536 = r504 then if r504 = 0 then if r530 = 0 then if (σ536 100 0) = (0 : Int32) then K σ536 else none else if (σ536 100 0) = (1 : Int32) then K σ536 else none else K σ536 else none))) = K σ' := by
    intro y
    obtain ⟨f, σ1, r, σ2, hf, h1, h2, h3, h4, h5⟩ := case_setLate hI N hN (xs (i + 1)) y
    refine ⟨σ2, h5, ?_⟩
    rw [h1, q_bd, h2, q_bd]
    unfold f6_thrown
    rw [q_bd, h3, if_pos rfl]
    by_cases z : f = 0
    · have h6 := h4 z
      rw [if_pos (show nI f = 0 by rw [z]; rfl)]
      by_cases w : r = 0
      · rw [if_pos w] at h6
        rw [if_pos w, if_pos (show σ2 100 0 = 0 from h6)]
      · rw [if_neg w] at h6
        rw [if_neg w, if_pos (show σ2 100 0 = 1 from h6)]
    · rw [if_neg (fun q => z (by rw [show (0 : Int32) = nI 0 from rfl, nI_eq (by omega) (by omega)] at q; exact q))]
  by_cases z : xs (i + 2) = nI 0
  · obtain ⟨σ', h1, h2⟩ := tail (nI 0)
    refine ⟨σ', h1, Eq.trans ?_ h2⟩
    unfold fL_case3
    simp (disch := omega) only [q_lit, q_gt, q_bd, q_bxl, q_bxr, q_vib, q_cl, q_pos, q_lt, q_le, q_eq, q_neg, q_neg1, q_negz, q_negeq0, q_neg0le, q_rem, q_div, q_sub, q_if1, q_if0, q_okB0, q_okB1, q_dz, q_dn, q_nb, and_true, true_and, and_false, false_and, nI_add, pk_mul, if_true, if_false, ite_true, ite_false, Nat.add_zero, Nat.zero_add, Nat.reduceAdd, z]
  · obtain ⟨σ', h1, h2⟩ := tail (nI 1)
    refine ⟨σ', h1, Eq.trans ?_ h2⟩
    unfold fL_case3
    simp (disch := omega) only [q_lit, q_gt, q_bd, q_bxl, q_bxr, q_vib, q_cl, q_pos, q_lt, q_le, q_eq, q_neg, q_neg1, q_negz, q_negeq0, q_neg0le, q_rem, q_div, q_sub, q_if1, q_if0, q_okB0, q_okB1, q_dz, q_dn, q_nb, and_true, true_and, and_false, false_and, nI_add, pk_mul, if_true, if_false, ite_true, ite_false, Nat.add_zero, Nat.zero_add, Nat.reduceAdd, z]
theorem ok_case22 {ρ : Type} {σ : Hp} (hI : Inv σ) (N : Nat) (hN : 500 ≤ N) (xs : Nat → Int32) (Ls i : Nat) (hi : i + 7 ≤ Ls) (hL : Ls < 100000) (K : Hp → Option ρ) : ∃ σ', Inv σ' ∧ fL_case22 N xs Ls (nI i) K σ = K σ' := by
  by_cases z : xs (i + 3) = nI 0
  · obtain ⟨σ', h1, h2⟩ := agree_tail (case_layDown hI N hN (xs (i + 1)) (xs (i + 2)) (nI 0) (xs (i + 4)) (Or.inl rfl)) N K
    refine ⟨σ', h1, Eq.trans ?_ h2⟩
    unfold fL_case22
    simp (disch := omega) only [q_lit, q_gt, q_bd, q_bxl, q_bxr, q_vib, q_cl, q_pos, q_lt, q_le, q_eq, q_neg, q_neg1, q_negz, q_negeq0, q_neg0le, q_rem, q_div, q_sub, q_if1, q_if0, q_okB0, q_okB1, q_dz, q_dn, q_nb, and_true, true_and, and_false, false_and, nI_add, pk_mul, if_true, if_false, ite_true, ite_false, Nat.add_zero, Nat.zero_add, Nat.reduceAdd, z]
  · obtain ⟨σ', h1, h2⟩ := agree_tail (case_layDown hI N hN (xs (i + 1)) (xs (i + 2)) (nI 1) (xs (i + 4)) (Or.inr rfl)) N K
    refine ⟨σ', h1, Eq.trans ?_ h2⟩
    unfold fL_case22
    simp (disch := omega) only [q_lit, q_gt, q_bd, q_bxl, q_bxr, q_vib, q_cl, q_pos, q_lt, q_le, q_eq, q_neg, q_neg1, q_negz, q_negeq0, q_neg0le, q_rem, q_div, q_sub, q_if1, q_if0, q_okB0, q_okB1, q_dz, q_dn, q_nb, and_true, true_and, and_false, false_and, nI_add, pk_mul, if_true, if_false, ite_true, ite_false, Nat.add_zero, Nat.zero_add, Nat.reduceAdd, z]
theorem ok_case23 {ρ : Type} {σ : Hp} (hI : Inv σ) (N : Nat) (hN : 500 ≤ N) (xs : Nat → Int32) (Ls i : Nat) (hi : i + 7 ≤ Ls) (hL : Ls < 100000) (K : Hp → Option ρ) : ∃ σ', Inv σ' ∧ fL_case23 N xs Ls (nI i) K σ = K σ' := by
  obtain ⟨σ', h1, h2⟩ := agree_tail (case_takeUp hI N hN (xs (i + 1)) (xs (i + 2))) N K
  refine ⟨σ', h1, Eq.trans ?_ h2⟩
  unfold fL_case23
  simp (disch := omega) only [q_lit, q_gt, q_bd, q_bxl, q_bxr, q_vib, q_cl, q_pos, q_lt, q_le, q_eq, q_neg, q_neg1, q_negz, q_negeq0, q_neg0le, q_rem, q_div, q_sub, q_if1, q_if0, q_okB0, q_okB1, q_dz, q_dn, q_nb, and_true, true_and, and_false, false_and, nI_add, pk_mul, if_true, if_false, ite_true, ite_false, Nat.add_zero, Nat.zero_add, Nat.reduceAdd]
theorem ok_case11 {ρ : Type} {σ : Hp} (hI : Inv σ) (N : Nat) (hN : 500 ≤ N) (xs : Nat → Int32) (Ls i : Nat) (hi : i + 7 ≤ Ls) (hL : Ls < 100000) (K : Hp → Option ρ) : ∃ σ', Inv σ' ∧ fL_case11 N xs Ls (nI i) K σ = K σ' := by
  obtain ⟨σ', h1, h2⟩ := agree_tail (case_locate hI N hN (xs (i + 1)) (xs (i + 2))) N K
  refine ⟨σ', h1, Eq.trans ?_ h2⟩
  unfold fL_case11
  simp (disch := omega) only [q_lit, q_gt, q_bd, q_bxl, q_bxr, q_vib, q_cl, q_pos, q_lt, q_le, q_eq, q_neg, q_neg1, q_negz, q_negeq0, q_neg0le, q_rem, q_div, q_sub, q_if1, q_if0, q_okB0, q_okB1, q_dz, q_dn, q_nb, and_true, true_and, and_false, false_and, nI_add, pk_mul, if_true, if_false, ite_true, ite_false, Nat.add_zero, Nat.zero_add, Nat.reduceAdd]
theorem ok_case17 {ρ : Type} {σ : Hp} (hI : Inv σ) (N : Nat) (hN : 500 ≤ N) (xs : Nat → Int32) (Ls i : Nat) (hi : i + 7 ≤ Ls) (hL : Ls < 100000) (K : Hp → Option ρ) : ∃ σ', Inv σ' ∧ fL_case17 N xs Ls (nI i) K σ = K σ' := by
  obtain ⟨σ', h1, h2⟩ := agree_tail (case_count hI N hN (xs (i + 1))) N K
  refine ⟨σ', h1, Eq.trans ?_ h2⟩
  unfold fL_case17
  simp (disch := omega) only [q_lit, q_gt, q_bd, q_bxl, q_bxr, q_vib, q_cl, q_pos, q_lt, q_le, q_eq, q_neg, q_neg1, q_negz, q_negeq0, q_neg0le, q_rem, q_div, q_sub, q_if1, q_if0, q_okB0, q_okB1, q_dz, q_dn, q_nb, and_true, true_and, and_false, false_and, nI_add, pk_mul, if_true, if_false, ite_true, ite_false, Nat.add_zero, Nat.zero_add, Nat.reduceAdd]
theorem ok_case21 {ρ : Type} {σ : Hp} (hI : Inv σ) (N : Nat) (hN : 500 ≤ N) (xs : Nat → Int32) (Ls i : Nat) (K : Hp → Option ρ) : ∃ σ', Inv σ' ∧ fL_case21 N xs Ls (nI i) K σ = K σ' := by
  obtain ⟨b, τ, h1, h2, h3⟩ := case_isSound hI N hN
  refine ⟨τ, h3, ?_⟩
  unfold fL_case21
  rw [h1, q_bd, h2, q_bd, if_pos rfl]
theorem ok_case25 {ρ : Type} {σ : Hp} (hI : Inv σ) (N : Nat) (hN : 500 ≤ N) (xs : Nat → Int32) (Ls i : Nat) (K : Hp → Option ρ) : ∃ σ', Inv σ' ∧ fL_case25 N xs Ls (nI i) K σ = K σ' := by
  obtain ⟨σ', h1, h2⟩ := agree_tail (case_perform hI N hN) N K
  refine ⟨σ', h1, Eq.trans ?_ h2⟩
  unfold fL_case25
  rfl
theorem ok_case19 {ρ : Type} {σ : Hp} (hI : Inv σ) (N : Nat) (hN : 500 ≤ N) (xs : Nat → Int32) (Ls i : Nat) (hi : i + 7 ≤ Ls) (hL : Ls < 100000) (K : Hp → Option ρ) : ∃ σ', Inv σ' ∧ fL_case19 N xs Ls (nI i) K σ = K σ' := by
  obtain ⟨f, σ1, r, σ2, f10, h1, h2, h3, h4, h5⟩ := case_fill hI N hN (xs (i + 1))
  refine ⟨σ2, h5, ?_⟩
  unfold fL_case19 f6_thrown
  rw [show (nI i : Int32) + 1 = nI (i + 1) from nI_1 i, q_vib (show i + 1 < Ls by omega) (by omega), q_gt, q_cl (by omega), h1, q_bd, q_gt, h2, q_bd, q_bd, h3, if_pos rfl]
  by_cases z : f = 0
  · obtain ⟨h6, h7⟩ := h4 z
    rw [z, if_pos (show nI 0 = 0 from rfl), h7.ok, q_gt, h6, dcmp_np h7]
    rfl
  · rw [if_neg (nI_ne0 (by omega) (by omega))]
theorem ok_case20 {ρ : Type} {σ : Hp} (hI : Inv σ) (N : Nat) (hN : 500 ≤ N) (xs : Nat → Int32) (Ls i : Nat) (hi : i + 7 ≤ Ls) (hL : Ls < 100000) (K : Hp → Option ρ) : ∃ σ', Inv σ' ∧ fL_case20 N xs Ls (nI i) K σ = K σ' := by
  obtain ⟨f, σ1, r, σ2, f10, h1, h2, h3, h4, h5⟩ := case_unevenness hI N hN (xs (i + 1))
  refine ⟨σ2, h5, ?_⟩
  unfold fL_case20 f6_thrown
  rw [show (nI i : Int32) + 1 = nI (i + 1) from nI_1 i, q_vib (show i + 1 < Ls by omega) (by omega), q_gt, q_cl (by omega), h1, q_bd, q_gt, h2, q_bd, q_bd, h3, if_pos rfl]
  by_cases z : f = 0
  · obtain ⟨h6, h7⟩ := h4 z
    rw [z, if_pos (show nI 0 = 0 from rfl), h6, dcmp_np h7]
    rfl
  · rw [if_neg (nI_ne0 (by omega) (by omega))]
