/-! THE PURE PART. The class's layout. -/
theorem om_neg {a : Option Nat} (h : ∀ i, a = some i → i < 480) : (om a (-nI 1) nI = -nI 1) = (a = none) := by
  cases a with
  | none => exact propext ⟨fun _ => rfl, fun _ => rfl⟩
  | some i =>
    apply propext
    constructor
    · intro e
      have := q_neg (a := i) (by have := h i rfl; omega)
      exact (this ▸ (show nI i = -nI 1 from e) : False).elim
    · intro e
      cases e
/-- a search over pages -/
theorem lps (q : Nat → Option Nat) {T R : Type} (z : T) (B : T → T) (A : T → Nat → R) (m : Nat) (G : Nat → R) (E : R) (he : ∀ r, A (B r) m = E) (hb : ∀ r i, i < m → A (B r) i = om (q i) (A r (i + 1)) G) : ∀ i n : Nat, i ≤ m → m < i + n → A (it z B n) i = om (fsN q (m - i) i) E G := by
  intro i n h1 h2
  refine lpg z B A (fun i => om (fsN q (m - i) i) E G) m (fun r => ?_) (fun r j hj hn => ?_) (m - i) i n (by omega) (by omega)
  · rw [he, Nat.sub_self]
    rfl
  · rw [hb r j hj, hn, show m - j = m - (j + 1) + 1 by omega, fsN_s, om_om]
section L1
variable {σ : Hp} {g : Nat} {D : Nat → Nat}
theorem om_map (a : Option Nat) (p : Nat) : om a (-nI 1) (fun x => nI (120 * p + x)) = om (om a none (fun x => some (120 * p + x))) (-nI 1) nI := by
  cases a
  · rfl
  · rfl
theorem s3_findBlock (N p last w h : Nat) (hN : 500 ≤ N) (hp : p ≤ last + 1) (hl : last ≤ 3) (hw : 1 ≤ w) (hw2 : w ≤ 5) (hh : h ≤ 24) (hh1 : 1 ≤ h) : f3_findBlock N g (nI p) (nI last) (nI w) (nI h) σ = some (om (fsN (goF (σ (g + 1)) w h) (last + 1 - p) p) (-nI 1) nI, σ) := by
  have main := lps (goF (σ (g + 1)) w h) (fun _ _ => none) (f3_findBlock_B3 N g (nI p) (nI last) (nI w) (nI h) (fun σL3 => some (-nI 1, σL3))) (fun t j => t (nI j) σ) (last + 1) (fun a => some (nI a, σ)) (some (-nI 1, σ)) (by
    intro r
    show f3_findBlock_B3 _ _ _ _ _ _ _ _ _ _ = _
    unfold f3_findBlock_B3
    simp (disch := omega) only [q_lit, q_gt, q_bd, q_bxl, q_bxr, q_vib, q_cl, q_pos, q_lt, q_le, q_eq, q_neg, q_neg1, q_negz, q_negeq0, q_neg0le, q_rem, q_div, q_sub, q_if1, q_if0, q_okB0, q_okB1, q_dz, q_dn, q_nb, and_true, true_and, and_false, false_and, nI_add, pk_mul, if_true, if_false, ite_true, ite_false, Nat.add_zero, Nat.zero_add, Nat.reduceAdd]) (by
    intro r j hj
    show f3_findBlock_B3 _ _ _ _ _ _ _ _ _ _ = _
    unfold f3_findBlock_B3
    simp (disch := omega) only [q_lit, q_gt, q_bd, q_bxl, q_bxr, q_vib, q_cl, q_pos, q_lt, q_le, q_eq, q_neg, q_neg1, q_negz, q_negeq0, q_neg0le, q_rem, q_div, q_sub, q_if1, q_if0, q_okB0, q_okB1, q_dz, q_dn, q_nb, and_true, true_and, and_false, false_and, nI_add, pk_mul, if_true, if_false, ite_true, ite_false, Nat.add_zero, Nat.zero_add, Nat.reduceAdd, s3_fbPage N g j w h σ hN (by omega) hw hw2 hh hh1]
    unfold goF
    cases bk (σ (g + 1)) j w h
    · rfl
    · rfl) p N hp (by omega)
  unfold f3_findBlock
  simp (disch := omega) only [q_lit, q_gt, q_bd, q_bxl, q_bxr, q_vib, q_cl, q_pos, q_lt, q_le, q_eq, q_neg, q_neg1, q_negz, q_negeq0, q_neg0le, q_rem, q_div, q_sub, q_if1, q_if0, q_okB0, q_okB1, q_dz, q_dn, q_nb, and_true, true_and, and_false, false_and, nI_add, pk_mul, if_true, if_false, ite_true, ite_false, Nat.add_zero, Nat.zero_add, Nat.reduceAdd]
  refine Eq.trans main ?_
  cases fsN (goF (σ (g + 1)) w h) (last + 1 - p) p
  · rfl
  · rfl
theorem s3_findGoOn (N i : Nat) (hN : 500 ≤ N) (hi : i < 480) : f3_findGoOn N g (nI i) σ = some (om (goA (σ (g + 1)) (i / 120 + 1)) (-nI 1) nI, σ) := by
  unfold f3_findGoOn f5_pageOf
  simp (disch := omega) only [q_lit, q_gt, q_bd, q_bxl, q_bxr, q_vib, q_cl, q_pos, q_lt, q_le, q_eq, q_neg, q_neg1, q_negz, q_negeq0, q_neg0le, q_rem, q_div, q_sub, q_if1, q_if0, q_okB0, q_okB1, q_dz, q_dn, q_nb, and_true, true_and, and_false, false_and, nI_add, pk_mul, if_true, if_false, ite_true, ite_false, Nat.add_zero, Nat.zero_add, Nat.reduceAdd, s3_findBlock N (i / 120 + 1) 3 1 3 hN (by omega) (by omega) (by omega) (by omega) (by omega) (by omega)]
  rfl
theorem s3_findStart (N s : Nat) (hN : 500 ≤ N) (hE : EdR σ (edOf g) D) (hD : DOk D) (hs : s < 12) (h0 : dS D s 0 = 1) : f3_findStart N g (nI s) σ = some (om (findSt (σ (g + 1)) D s) (-nI 1) nI, σ) := by
  obtain ⟨a0, a1, a2, a3, a4, a5, a6, a7, a8, a9⟩ := hD.2.2.1 s hs
  have a10 := a9 h0
  have hh : hd D s ≤ 13 := by unfold hd; omega
  have key : ∀ last : Nat, last ≤ 3 → dS D s 1 ≤ last → f3_findStart_J26 N g (nI s) (nI (dS D s 1)) (nI last) σ = some (om (fsN (goF (σ (g + 1)) (dS D s 2) (hd D s + 2)) (last + 1 - dS D s 1) (dS D s 1)) (-nI 1) nI, σ) := by
    intro last hl hl2
    unfold f3_findStart_J26
    simp (disch := omega) only [q_lit, q_gt, q_bd, q_bxl, q_bxr, q_vib, q_cl, q_pos, q_lt, q_le, q_eq, q_neg, q_neg1, q_negz, q_negeq0, q_neg0le, q_rem, q_div, q_sub, q_if1, q_if0, q_okB0, q_okB1, q_dz, q_dn, q_nb, and_true, true_and, and_false, false_and, nI_add, pk_mul, if_true, if_false, ite_true, ite_false, Nat.add_zero, Nat.zero_add, Nat.reduceAdd, s1_sn hE, s1_headRows hE, s3_findBlock N (dS D s 1) last (dS D s 2) (hd D s + 2) hN (by omega) hl (by omega) (by omega) (by omega) (by omega)]
  unfold f3_findStart findSt
  simp (disch := omega) only [q_lit, q_gt, q_bd, q_bxl, q_bxr, q_vib, q_cl, q_pos, q_lt, q_le, q_eq, q_neg, q_neg1, q_negz, q_negeq0, q_neg0le, q_rem, q_div, q_sub, q_if1, q_if0, q_okB0, q_okB1, q_dz, q_dn, q_nb, and_true, true_and, and_false, false_and, nI_add, pk_mul, if_true, if_false, ite_true, ite_false, Nat.add_zero, Nat.zero_add, Nat.reduceAdd, s1_sn hE, s1_isLate hE hD]
  by_cases z : dS D s 8 = 0
  · rw [if_pos z, if_pos z]
    exact key 3 (by omega) a1
  · rw [if_neg z, if_neg z]
    exact key (dS D s 1) a1 (Nat.le_refl _)
theorem s3_loc (N lines w c : Nat) (hw : 1 ≤ w) (hc : c < w) (hl : lines ≤ 10000) (hw2 : w ≤ 5) : f3_linesOfColumn N (nI lines) (nI w) (nI c) σ = some (nI (locN lines w c), σ) := by
  unfold f3_linesOfColumn locN
  simp (disch := omega) only [q_lit, q_gt, q_bd, q_bxl, q_bxr, q_vib, q_cl, q_pos, q_lt, q_le, q_eq, q_neg, q_neg1, q_negz, q_negeq0, q_neg0le, q_rem, q_div, q_sub, q_if1, q_if0, q_okB0, q_okB1, q_dz, q_dn, q_nb, and_true, true_and, and_false, false_and, nI_add, pk_mul, if_true, if_false, ite_true, ite_false, Nat.add_zero, Nat.zero_add, Nat.reduceAdd]
theorem eight (k : Nat) (h : k < 8) : k = 0 ∨ k = 1 ∨ k = 2 ∨ k = 3 ∨ k = 4 ∨ k = 5 ∨ k = 6 ∨ k = 7 := by omega
theorem nine (k : Nat) (h : k < 9) : k = 0 ∨ k = 1 ∨ k = 2 ∨ k = 3 ∨ k = 4 ∨ k = 5 ∨ k = 6 ∨ k = 7 ∨ k = 8 := by omega
theorem edge (g k : Nat) (hg : isP g) : edOf g + k < g ∨ 5 < k := by
  unfold edOf
  rcases hg with rfl | rfl
  · simp; omega
  · simp; omega
theorem ed_fr (hg : isP g) (hE : EdR σ (edOf g) D) {σ' : Hp} (h : ∀ k, k < g → σ' k = σ k) : EdR σ' (edOf g) D :=
  hE.congr (fun k h1 h2 => h k (by have := edge g 4 hg; omega))
theorem s3_addPart (hg : isP g) (hE : EdR σ (edOf g) D) (N s q i w rows lines l j : Nat) (hs : s < 12) (hq : q ≤ 3) (h5 : σ (g + 5) s = nI q) (h7 : σ (g + 7) s = nI l) (hi : i < 480) (hj : j ≤ 1) : ∃ σ', f3_addPart N g (nI s) (nI i) (nI w) (nI rows) (nI lines) (nI j) σ = some ((), σ') ∧ (∀ k, k ≠ g + 5 → k ≠ g + 6 → k ≠ g + 7 → σ' k = σ k) ∧ (∀ t, σ' (g + 5) t = if t = s then nI (q + 1) else σ (g + 5) t) ∧ (∀ t, σ' (g + 7) t = if t = s then nI (l + lines) else σ (g + 7) t) ∧ (∀ k, k < 9 → σ' (g + 6) ((s * 4 + q) * 9 + k) = nI (pVal i w rows lines l j (abv D s q) k)) ∧ (∀ t, t < (s * 4 + q) * 9 ∨ (s * 4 + q) * 9 + 9 ≤ t → σ' (g + 6) t = σ (g + 6) t) := by
  have e1 : i - i / 5 * 5 = i % 5 := by omega
  have e2 : (i - i / 120 * 120) / 5 = i % 120 / 5 := by omega
  have eb := edge g 2 hg
  have h3 : σ (edOf g + 2) (s * 8 + 2) = nI (dS D s 3) := hE.2.2.2.1 s 2 hs (by omega)
  have h6 : σ (edOf g + 2) (s * 8 + 5) = nI (dS D s 6) := hE.2.2.2.1 s 5 hs (by omega)
  have h7' : σ (edOf g + 2) (s * 8 + 6) = nI (dS D s 7) := hE.2.2.2.1 s 6 hs (by omega)
  by_cases z : q = 0
  · have hab : abv D s q = hd D s := if_pos z
    rcases bit_cases hj with rfl | rfl
    · rw [hab]
      unfold f3_addPart f3_addPart_J143 f3_addPart_J170 f3_partCountOf f5_pageOf f5_columnOf f5_rowOf f1_headRows f1_storyNumber hd
      simp (disch := omega) only [q_lit, q_gt, q_bd, q_bxl, q_bxr, q_vib, q_cl, q_pos, q_lt, q_le, q_eq, q_neg, q_neg1, q_negz, q_negeq0, q_neg0le, q_rem, q_div, q_sub, q_if1, q_if0, q_okB0, q_okB1, q_dz, q_dn, q_nb, and_true, true_and, and_false, false_and, nI_add, pk_mul, if_true, if_false, ite_true, ite_false, Nat.add_zero, Nat.zero_add, Nat.reduceAdd, s5_isStoryIndex, h5, st_row, h7, e1, e2, h3, h6, h7']
      refine ⟨_, rfl, ?_, ?_, ?_, ?_, ?_⟩
      · intro k k1 k2 k3
        simp (disch := omega) only [q_lit, q_gt, q_bd, q_bxl, q_bxr, q_vib, q_cl, q_pos, q_lt, q_le, q_eq, q_neg, q_neg1, q_negz, q_negeq0, q_neg0le, q_rem, q_div, q_sub, q_if1, q_if0, q_okB0, q_okB1, q_dz, q_dn, q_nb, and_true, true_and, and_false, false_and, nI_add, pk_mul, if_true, if_false, ite_true, ite_false, Nat.add_zero, Nat.zero_add, Nat.reduceAdd, st_row]
      · intro t
        simp (disch := omega) only [q_lit, q_gt, q_bd, q_bxl, q_bxr, q_vib, q_cl, q_pos, q_lt, q_le, q_eq, q_neg, q_neg1, q_negz, q_negeq0, q_neg0le, q_rem, q_div, q_sub, q_if1, q_if0, q_okB0, q_okB1, q_dz, q_dn, q_nb, and_true, true_and, and_false, false_and, nI_add, pk_mul, if_true, if_false, ite_true, ite_false, Nat.add_zero, Nat.zero_add, Nat.reduceAdd, st_row, st_get]
      · intro t
        simp (disch := omega) only [q_lit, q_gt, q_bd, q_bxl, q_bxr, q_vib, q_cl, q_pos, q_lt, q_le, q_eq, q_neg, q_neg1, q_negz, q_negeq0, q_neg0le, q_rem, q_div, q_sub, q_if1, q_if0, q_okB0, q_okB1, q_dz, q_dn, q_nb, and_true, true_and, and_false, false_and, nI_add, pk_mul, if_true, if_false, ite_true, ite_false, Nat.add_zero, Nat.zero_add, Nat.reduceAdd, st_row, st_get]
      · intro k hk
        rcases nine k hk with rfl | rfl | rfl | rfl | rfl | rfl | rfl | rfl | rfl
        all_goals
          simp (disch := omega) only [q_lit, q_gt, q_bd, q_bxl, q_bxr, q_vib, q_cl, q_pos, q_lt, q_le, q_eq, q_neg, q_neg1, q_negz, q_negeq0, q_neg0le, q_rem, q_div, q_sub, q_if1, q_if0, q_okB0, q_okB1, q_dz, q_dn, q_nb, and_true, true_and, and_false, false_and, nI_add, pk_mul, if_true, if_false, ite_true, ite_false, Nat.add_zero, Nat.zero_add, Nat.reduceAdd, st_get, pVal]
      · intro t ht
        simp (disch := omega) only [q_lit, q_gt, q_bd, q_bxl, q_bxr, q_vib, q_cl, q_pos, q_lt, q_le, q_eq, q_neg, q_neg1, q_negz, q_negeq0, q_neg0le, q_rem, q_div, q_sub, q_if1, q_if0, q_okB0, q_okB1, q_dz, q_dn, q_nb, and_true, true_and, and_false, false_and, nI_add, pk_mul, if_true, if_false, ite_true, ite_false, Nat.add_zero, Nat.zero_add, Nat.reduceAdd, st_get]
    · rw [hab]
      unfold f3_addPart f3_addPart_J143 f3_addPart_J170 f3_partCountOf f5_pageOf f5_columnOf f5_rowOf f1_headRows f1_storyNumber hd
      simp (disch := omega) only [q_lit, q_gt, q_bd, q_bxl, q_bxr, q_vib, q_cl, q_pos, q_lt, q_le, q_eq, q_neg, q_neg1, q_negz, q_negeq0, q_neg0le, q_rem, q_div, q_sub, q_if1, q_if0, q_okB0, q_okB1, q_dz, q_dn, q_nb, and_true, true_and, and_false, false_and, nI_add, pk_mul, if_true, if_false, ite_true, ite_false, Nat.add_zero, Nat.zero_add, Nat.reduceAdd, s5_isStoryIndex, h5, st_row, h7, e1, e2, h3, h6, h7']
      refine ⟨_, rfl, ?_, ?_, ?_, ?_, ?_⟩
      · intro k k1 k2 k3
        simp (disch := omega) only [q_lit, q_gt, q_bd, q_bxl, q_bxr, q_vib, q_cl, q_pos, q_lt, q_le, q_eq, q_neg, q_neg1, q_negz, q_negeq0, q_neg0le, q_rem, q_div, q_sub, q_if1, q_if0, q_okB0, q_okB1, q_dz, q_dn, q_nb, and_true, true_and, and_false, false_and, nI_add, pk_mul, if_true, if_false, ite_true, ite_false, Nat.add_zero, Nat.zero_add, Nat.reduceAdd, st_row]
      · intro t
        simp (disch := omega) only [q_lit, q_gt, q_bd, q_bxl, q_bxr, q_vib, q_cl, q_pos, q_lt, q_le, q_eq, q_neg, q_neg1, q_negz, q_negeq0, q_neg0le, q_rem, q_div, q_sub, q_if1, q_if0, q_okB0, q_okB1, q_dz, q_dn, q_nb, and_true, true_and, and_false, false_and, nI_add, pk_mul, if_true, if_false, ite_true, ite_false, Nat.add_zero, Nat.zero_add, Nat.reduceAdd, st_row, st_get]
      · intro t
        simp (disch := omega) only [q_lit, q_gt, q_bd, q_bxl, q_bxr, q_vib, q_cl, q_pos, q_lt, q_le, q_eq, q_neg, q_neg1, q_negz, q_negeq0, q_neg0le, q_rem, q_div, q_sub, q_if1, q_if0, q_okB0, q_okB1, q_dz, q_dn, q_nb, and_true, true_and, and_false, false_and, nI_add, pk_mul, if_true, if_false, ite_true, ite_false, Nat.add_zero, Nat.zero_add, Nat.reduceAdd, st_row, st_get]
      · intro k hk
        rcases nine k hk with rfl | rfl | rfl | rfl | rfl | rfl | rfl | rfl | rfl
        all_goals
          simp (disch := omega) only [q_lit, q_gt, q_bd, q_bxl, q_bxr, q_vib, q_cl, q_pos, q_lt, q_le, q_eq, q_neg, q_neg1, q_negz, q_negeq0, q_neg0le, q_rem, q_div, q_sub, q_if1, q_if0, q_okB0, q_okB1, q_dz, q_dn, q_nb, and_true, true_and, and_false, false_and, nI_add, pk_mul, if_true, if_false, ite_true, ite_false, Nat.add_zero, Nat.zero_add, Nat.reduceAdd, st_get, pVal]
      · intro t ht
        simp (disch := omega) only [q_lit, q_gt, q_bd, q_bxl, q_bxr, q_vib, q_cl, q_pos, q_lt, q_le, q_eq, q_neg, q_neg1, q_negz, q_negeq0, q_neg0le, q_rem, q_div, q_sub, q_if1, q_if0, q_okB0, q_okB1, q_dz, q_dn, q_nb, and_true, true_and, and_false, false_and, nI_add, pk_mul, if_true, if_false, ite_true, ite_false, Nat.add_zero, Nat.zero_add, Nat.reduceAdd, st_get]
  · have hab : abv D s q = 1 := if_neg z
    rcases bit_cases hj with rfl | rfl
    · rw [hab]
      unfold f3_addPart f3_addPart_J143 f3_addPart_J170 f3_partCountOf f5_pageOf f5_columnOf f5_rowOf f1_headRows f1_storyNumber
      simp (disch := omega) only [q_lit, q_gt, q_bd, q_bxl, q_bxr, q_vib, q_cl, q_pos, q_lt, q_le, q_eq, q_neg, q_neg1, q_negz, q_negeq0, q_neg0le, q_rem, q_div, q_sub, q_if1, q_if0, q_okB0, q_okB1, q_dz, q_dn, q_nb, and_true, true_and, and_false, false_and, nI_add, pk_mul, if_true, if_false, ite_true, ite_false, Nat.add_zero, Nat.zero_add, Nat.reduceAdd, s5_isStoryIndex, h5, st_row, h7, e1, e2, h3, h6, h7']
      refine ⟨_, rfl, ?_, ?_, ?_, ?_, ?_⟩
      · intro k k1 k2 k3
        simp (disch := omega) only [q_lit, q_gt, q_bd, q_bxl, q_bxr, q_vib, q_cl, q_pos, q_lt, q_le, q_eq, q_neg, q_neg1, q_negz, q_negeq0, q_neg0le, q_rem, q_div, q_sub, q_if1, q_if0, q_okB0, q_okB1, q_dz, q_dn, q_nb, and_true, true_and, and_false, false_and, nI_add, pk_mul, if_true, if_false, ite_true, ite_false, Nat.add_zero, Nat.zero_add, Nat.reduceAdd, st_row]
      · intro t
        simp (disch := omega) only [q_lit, q_gt, q_bd, q_bxl, q_bxr, q_vib, q_cl, q_pos, q_lt, q_le, q_eq, q_neg, q_neg1, q_negz, q_negeq0, q_neg0le, q_rem, q_div, q_sub, q_if1, q_if0, q_okB0, q_okB1, q_dz, q_dn, q_nb, and_true, true_and, and_false, false_and, nI_add, pk_mul, if_true, if_false, ite_true, ite_false, Nat.add_zero, Nat.zero_add, Nat.reduceAdd, st_row, st_get]
      · intro t
        simp (disch := omega) only [q_lit, q_gt, q_bd, q_bxl, q_bxr, q_vib, q_cl, q_pos, q_lt, q_le, q_eq, q_neg, q_neg1, q_negz, q_negeq0, q_neg0le, q_rem, q_div, q_sub, q_if1, q_if0, q_okB0, q_okB1, q_dz, q_dn, q_nb, and_true, true_and, and_false, false_and, nI_add, pk_mul, if_true, if_false, ite_true, ite_false, Nat.add_zero, Nat.zero_add, Nat.reduceAdd, st_row, st_get]
      · intro k hk
        rcases nine k hk with rfl | rfl | rfl | rfl | rfl | rfl | rfl | rfl | rfl
        all_goals
          simp (disch := omega) only [q_lit, q_gt, q_bd, q_bxl, q_bxr, q_vib, q_cl, q_pos, q_lt, q_le, q_eq, q_neg, q_neg1, q_negz, q_negeq0, q_neg0le, q_rem, q_div, q_sub, q_if1, q_if0, q_okB0, q_okB1, q_dz, q_dn, q_nb, and_true, true_and, and_false, false_and, nI_add, pk_mul, if_true, if_false, ite_true, ite_false, Nat.add_zero, Nat.zero_add, Nat.reduceAdd, st_get, pVal]
      · intro t ht
        simp (disch := omega) only [q_lit, q_gt, q_bd, q_bxl, q_bxr, q_vib, q_cl, q_pos, q_lt, q_le, q_eq, q_neg, q_neg1, q_negz, q_negeq0, q_neg0le, q_rem, q_div, q_sub, q_if1, q_if0, q_okB0, q_okB1, q_dz, q_dn, q_nb, and_true, true_and, and_false, false_and, nI_add, pk_mul, if_true, if_false, ite_true, ite_false, Nat.add_zero, Nat.zero_add, Nat.reduceAdd, st_get]
    · rw [hab]
      unfold f3_addPart f3_addPart_J143 f3_addPart_J170 f3_partCountOf f5_pageOf f5_columnOf f5_rowOf f1_headRows f1_storyNumber
      simp (disch := omega) only [q_lit, q_gt, q_bd, q_bxl, q_bxr, q_vib, q_cl, q_pos, q_lt, q_le, q_eq, q_neg, q_neg1, q_negz, q_negeq0, q_neg0le, q_rem, q_div, q_sub, q_if1, q_if0, q_okB0, q_okB1, q_dz, q_dn, q_nb, and_true, true_and, and_false, false_and, nI_add, pk_mul, if_true, if_false, ite_true, ite_false, Nat.add_zero, Nat.zero_add, Nat.reduceAdd, s5_isStoryIndex, h5, st_row, h7, e1, e2, h3, h6, h7']
      refine ⟨_, rfl, ?_, ?_, ?_, ?_, ?_⟩
      · intro k k1 k2 k3
        simp (disch := omega) only [q_lit, q_gt, q_bd, q_bxl, q_bxr, q_vib, q_cl, q_pos, q_lt, q_le, q_eq, q_neg, q_neg1, q_negz, q_negeq0, q_neg0le, q_rem, q_div, q_sub, q_if1, q_if0, q_okB0, q_okB1, q_dz, q_dn, q_nb, and_true, true_and, and_false, false_and, nI_add, pk_mul, if_true, if_false, ite_true, ite_false, Nat.add_zero, Nat.zero_add, Nat.reduceAdd, st_row]
      · intro t
        simp (disch := omega) only [q_lit, q_gt, q_bd, q_bxl, q_bxr, q_vib, q_cl, q_pos, q_lt, q_le, q_eq, q_neg, q_neg1, q_negz, q_negeq0, q_neg0le, q_rem, q_div, q_sub, q_if1, q_if0, q_okB0, q_okB1, q_dz, q_dn, q_nb, and_true, true_and, and_false, false_and, nI_add, pk_mul, if_true, if_false, ite_true, ite_false, Nat.add_zero, Nat.zero_add, Nat.reduceAdd, st_row, st_get]
      · intro t
        simp (disch := omega) only [q_lit, q_gt, q_bd, q_bxl, q_bxr, q_vib, q_cl, q_pos, q_lt, q_le, q_eq, q_neg, q_neg1, q_negz, q_negeq0, q_neg0le, q_rem, q_div, q_sub, q_if1, q_if0, q_okB0, q_okB1, q_dz, q_dn, q_nb, and_true, true_and, and_false, false_and, nI_add, pk_mul, if_true, if_false, ite_true, ite_false, Nat.add_zero, Nat.zero_add, Nat.reduceAdd, st_row, st_get]
      · intro k hk
        rcases nine k hk with rfl | rfl | rfl | rfl | rfl | rfl | rfl | rfl | rfl
        all_goals
          simp (disch := omega) only [q_lit, q_gt, q_bd, q_bxl, q_bxr, q_vib, q_cl, q_pos, q_lt, q_le, q_eq, q_neg, q_neg1, q_negz, q_negeq0, q_neg0le, q_rem, q_div, q_sub, q_if1, q_if0, q_okB0, q_okB1, q_dz, q_dn, q_nb, and_true, true_and, and_false, false_and, nI_add, pk_mul, if_true, if_false, ite_true, ite_false, Nat.add_zero, Nat.zero_add, Nat.reduceAdd, st_get, pVal]
      · intro t ht
        simp (disch := omega) only [q_lit, q_gt, q_bd, q_bxl, q_bxr, q_vib, q_cl, q_pos, q_lt, q_le, q_eq, q_neg, q_neg1, q_negz, q_negeq0, q_neg0le, q_rem, q_div, q_sub, q_if1, q_if0, q_okB0, q_okB1, q_dz, q_dn, q_nb, and_true, true_and, and_false, false_and, nI_add, pk_mul, if_true, if_false, ite_true, ite_false, Nat.add_zero, Nat.zero_add, Nat.reduceAdd, st_get]
end L1
