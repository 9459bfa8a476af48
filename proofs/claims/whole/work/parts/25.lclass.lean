/-! THE PURE PART. The class's layout. -/
theorem om_neg {a : Option Nat} (h : ∀ i, a = some i → i < 480) : (om a (-nI 1) nI = -nI 1) = (a = none) := by
  cases a with
  | none => exact propext ⟨fun _ => rfl, fun _ => rfl⟩
  | some i =>
    apply propext
    constructor
    · intro e
      have := q_neg (a := i) (by have := h i rfl; omega)
      exact (this ▸ (show nI i = -nI 1 from e) : False).elim
    · intro e
      cases e
/-- a search over pages -/
theorem lps (q : Nat → Option Nat) {T R : Type} (z : T) (B : T → T) (A : T → Nat → R) (m : Nat) (G : Nat → R) (E : R) (he : ∀ r, A (B r) m = E) (hb : ∀ r i, i < m → A (B r) i = om (q i) (A r (i + 1)) G) : ∀ i n : Nat, i ≤ m → m < i + n → A (it z B n) i = om (fsN q (m - i) i) E G := by
  intro i n h1 h2
  refine lpg z B A (fun i => om (fsN q (m - i) i) E G) m (fun r => ?_) (fun r j hj hn => ?_) (m - i) i n (by omega) (by omega)
  · rw [he, Nat.sub_self]
    rfl
  · rw [hb r j hj, hn, show m - j = m - (j + 1) + 1 by omega, fsN_s, om_om]
section L1
variable {σ : Hp} {g : Nat} {D : Nat → Nat}
theorem om_map (a : Option Nat) (p : Nat) : om a (-nI 1) (fun x => nI (120 * p + x)) = om (om a none (fun x => some (120 * p + x))) (-nI 1) nI := by
  cases a
  · rfl
  · rfl
theorem s3_findGoOn (N p : Nat) (hN : 500 ≤ N) (hp : p ≤ 4) : f3_findGoOn N g (nI p) σ = some (om (goA (σ (g + 1)) p) (-nI 1) nI, σ) := by
  have main := lps (goF (σ (g + 1)) 1 3) (fun _ _ => none) (f3_findGoOn_B2 N g (nI p) (fun σL2 => some (-nI 1, σL2))) (fun t j => t (nI j) σ) 4 (fun a => some (nI a, σ)) (some (-nI 1, σ)) (by
    intro r
    show f3_findGoOn_B2 _ _ _ _ _ _ _ = _
    unfold f3_findGoOn_B2
    simp (disch := omega) only [q_lit, q_gt, q_bd, q_bxl, q_bxr, q_vib, q_cl, q_pos, q_lt, q_le, q_eq, q_neg, q_neg1, q_negz, q_negeq0, q_neg0le, q_rem, q_div, q_sub, q_if1, q_if0, q_okB0, q_okB1, q_dz, q_dn, q_nb, and_true, true_and, and_false, false_and, nI_add, pk_mul, if_true, if_false, ite_true, ite_false, Nat.add_zero, Nat.zero_add, Nat.reduceAdd]) (by
    intro r j hj
    show f3_findGoOn_B2 _ _ _ _ _ _ _ = _
    unfold f3_findGoOn_B2
    simp (disch := omega) only [q_lit, q_gt, q_bd, q_bxl, q_bxr, q_vib, q_cl, q_pos, q_lt, q_le, q_eq, q_neg, q_neg1, q_negz, q_negeq0, q_neg0le, q_rem, q_div, q_sub, q_if1, q_if0, q_okB0, q_okB1, q_dz, q_dn, q_nb, and_true, true_and, and_false, false_and, nI_add, pk_mul, if_true, if_false, ite_true, ite_false, Nat.add_zero, Nat.zero_add, Nat.reduceAdd, s3_findBlock N g j 1 3 σ hN (by omega) (by omega) (by omega) (by omega) (by omega)]
    unfold goF
    cases e : bk (σ (g + 1)) j 1 3 with
    | none =>
      show (if (-nI 1 : Int32) = -nI 1 then _ else _) = _
      rw [if_pos rfl]
      rfl
    | some a =>
      have q := bk_some e (by omega) (by omega) (by omega) (by omega)
      show (if nI (120 * j + a) = -nI 1 then _ else _) = some (nI (120 * j + a), σ)
      rw [if_neg (fun z => by rw [q_neg (by omega)] at z; exact z)]
      rfl) p N hp (by omega)
  unfold f3_findGoOn
  simp (disch := omega) only [q_lit, q_gt, q_bd, q_bxl, q_bxr, q_vib, q_cl, q_pos, q_lt, q_le, q_eq, q_neg, q_neg1, q_negz, q_negeq0, q_neg0le, q_rem, q_div, q_sub, q_if1, q_if0, q_okB0, q_okB1, q_dz, q_dn, q_nb, and_true, true_and, and_false, false_and, nI_add, pk_mul, if_true, if_false, ite_true, ite_false, Nat.add_zero, Nat.zero_add, Nat.reduceAdd]
  refine Eq.trans main ?_
  unfold goA
  cases fsN (goF (σ (g + 1)) 1 3) (4 - p) p
  · rfl
  · rfl
theorem s3_findStart (N s : Nat) (hN : 500 ≤ N) (hE : EdR σ (edOf g) D) (hD : DOk D) (hs : s < 12) (h0 : dS D s 0 = 1) : f3_findStart N g (nI s) σ = some (om (findSt (σ (g + 1)) D s) (-nI 1) nI, σ) := by
  obtain ⟨a0, a1, a2, a3, a4, a5, a6, a7, a8, a9⟩ := hD.2.2.1 s hs
  have a10 := a9 h0
  have hh : hd D s ≤ 13 := by unfold hd; omega
  have key : ∀ last : Nat, last ≤ 3 → dS D s 1 ≤ last → f3_findStart_J26 N g (nI s) (nI (dS D s 1)) (nI last) σ = some (om (fsN (goF (σ (g + 1)) (dS D s 2) (hd D s + 2)) (last + 1 - dS D s 1) (dS D s 1)) (-nI 1) nI, σ) := by
    intro last hl hl2
    have main := lps (goF (σ (g + 1)) (dS D s 2) (hd D s + 2)) (fun _ _ => none) (f3_findStart_B53 N g (nI s) (nI last) (nI (dS D s 2)) (nI (hd D s + 2)) (fun σL53 => some (-nI 1, σL53))) (fun t j => t (nI j) σ) (last + 1) (fun a => some (nI a, σ)) (some (-nI 1, σ)) (by
      intro r
      show f3_findStart_B53 _ _ _ _ _ _ _ _ _ _ = _
      unfold f3_findStart_B53
      simp (disch := omega) only [q_lit, q_gt, q_bd, q_bxl, q_bxr, q_vib, q_cl, q_pos, q_lt, q_le, q_eq, q_neg, q_neg1, q_negz, q_negeq0, q_neg0le, q_rem, q_div, q_sub, q_if1, q_if0, q_okB0, q_okB1, q_dz, q_dn, q_nb, and_true, true_and, and_false, false_and, nI_add, pk_mul, if_true, if_false, ite_true, ite_false, Nat.add_zero, Nat.zero_add, Nat.reduceAdd]) (by
      intro r j hj
      show f3_findStart_B53 _ _ _ _ _ _ _ _ _ _ = _
      unfold f3_findStart_B53
      simp (disch := omega) only [q_lit, q_gt, q_bd, q_bxl, q_bxr, q_vib, q_cl, q_pos, q_lt, q_le, q_eq, q_neg, q_neg1, q_negz, q_negeq0, q_neg0le, q_rem, q_div, q_sub, q_if1, q_if0, q_okB0, q_okB1, q_dz, q_dn, q_nb, and_true, true_and, and_false, false_and, nI_add, pk_mul, if_true, if_false, ite_true, ite_false, Nat.add_zero, Nat.zero_add, Nat.reduceAdd, s3_findBlock N g j (dS D s 2) (hd D s + 2) σ hN (by omega) (by omega) (by omega) (by omega) (by omega)]
      unfold goF
      cases e : bk (σ (g + 1)) j (dS D s 2) (hd D s + 2) with
      | none =>
        show (if (-nI 1 : Int32) = -nI 1 then _ else _) = _
        rw [if_pos rfl]
        rfl
      | some a =>
        have q := bk_some e (by omega) (by omega) (by omega) (by omega)
        show (if nI (120 * j + a) = -nI 1 then _ else _) = some (nI (120 * j + a), σ)
        rw [if_neg (fun z => by rw [q_neg (by omega)] at z; exact z)]
        rfl) (dS D s 1) N (by omega) (by omega)
    unfold f3_findStart_J26
    simp (disch := omega) only [q_lit, q_gt, q_bd, q_bxl, q_bxr, q_vib, q_cl, q_pos, q_lt, q_le, q_eq, q_neg, q_neg1, q_negz, q_negeq0, q_neg0le, q_rem, q_div, q_sub, q_if1, q_if0, q_okB0, q_okB1, q_dz, q_dn, q_nb, and_true, true_and, and_false, false_and, nI_add, pk_mul, if_true, if_false, ite_true, ite_false, Nat.add_zero, Nat.zero_add, Nat.reduceAdd, s1_sn hE, s1_headRows hE]
    refine Eq.trans main ?_
    cases fsN (goF (σ (g + 1)) (dS D s 2) (hd D s + 2)) (last + 1 - dS D s 1) (dS D s 1)
    · rfl
    · rfl
  unfold f3_findStart findSt
  simp (disch := omega) only [q_lit, q_gt, q_bd, q_bxl, q_bxr, q_vib, q_cl, q_pos, q_lt, q_le, q_eq, q_neg, q_neg1, q_negz, q_negeq0, q_neg0le, q_rem, q_div, q_sub, q_if1, q_if0, q_okB0, q_okB1, q_dz, q_dn, q_nb, and_true, true_and, and_false, false_and, nI_add, pk_mul, if_true, if_false, ite_true, ite_false, Nat.add_zero, Nat.zero_add, Nat.reduceAdd, s1_sn hE, s1_isLate hE hD]
  by_cases z : dS D s 8 = 0
  · rw [if_pos z, if_pos z]
    exact key 3 (by omega) a1
  · rw [if_neg z, if_neg z]
    exact key (dS D s 1) a1 (Nat.le_refl _)
theorem s3_loc (N lines w c : Nat) (hw : 1 ≤ w) (hc : c < w) (hl : lines ≤ 10000) (hw2 : w ≤ 5) : f3_linesOfColumn N (nI lines) (nI w) (nI c) σ = some (nI (locN lines w c), σ) := by
  unfold f3_linesOfColumn locN
  simp (disch := omega) only [q_lit, q_gt, q_bd, q_bxl, q_bxr, q_vib, q_cl, q_pos, q_lt, q_le, q_eq, q_neg, q_neg1, q_negz, q_negeq0, q_neg0le, q_rem, q_div, q_sub, q_if1, q_if0, q_okB0, q_okB1, q_dz, q_dn, q_nb, and_true, true_and, and_false, false_and, nI_add, pk_mul, if_true, if_false, ite_true, ite_false, Nat.add_zero, Nat.zero_add, Nat.reduceAdd]
theorem eight (k : Nat) (h : k < 8) : k = 0 ∨ k = 1 ∨ k = 2 ∨ k = 3 ∨ k = 4 ∨ k = 5 ∨ k = 6 ∨ k = 7 := by omega
theorem s3_addPart (N s q i w rows lines l j : Nat) (hs : s < 12) (hq : q ≤ 3) (h5 : σ (g + 5) s = nI q) (h7 : σ (g + 7) s = nI l) (hi : i < 480) (hj : j ≤ 1) : ∃ σ', f3_addPart N g (nI s) (nI i) (nI w) (nI rows) (nI lines) (nI j) σ = some ((), σ') ∧ (∀ k, k ≠ g + 5 → k ≠ g + 6 → k ≠ g + 7 → σ' k = σ k) ∧ (∀ t, σ' (g + 5) t = if t = s then nI (q + 1) else σ (g + 5) t) ∧ (∀ t, σ' (g + 7) t = if t = s then nI (l + lines) else σ (g + 7) t) ∧ (∀ k, k < 8 → σ' (g + 6) ((s * 4 + q) * 8 + k) = nI (pVal i w rows lines l j k)) ∧ (∀ t, t < (s * 4 + q) * 8 ∨ (s * 4 + q) * 8 + 8 ≤ t → σ' (g + 6) t = σ (g + 6) t) := by
  have e1 : i - i / 5 * 5 = i % 5 := by omega
  have e2 : (i - i / 120 * 120) / 5 = i % 120 / 5 := by omega
  rcases bit_cases hj with rfl | rfl
  · unfold f3_addPart f3_addPart_J143 f3_partCountOf f5_pageOf f5_columnOf f5_rowOf
    simp (disch := omega) only [q_lit, q_gt, q_bd, q_bxl, q_bxr, q_vib, q_cl, q_pos, q_lt, q_le, q_eq, q_neg, q_neg1, q_negz, q_negeq0, q_neg0le, q_rem, q_div, q_sub, q_if1, q_if0, q_okB0, q_okB1, q_dz, q_dn, q_nb, and_true, true_and, and_false, false_and, nI_add, pk_mul, if_true, if_false, ite_true, ite_false, Nat.add_zero, Nat.zero_add, Nat.reduceAdd, s5_isStoryIndex, h5, st_row, h7, e1, e2]
    refine ⟨_, rfl, ?_, ?_, ?_, ?_, ?_⟩
    · intro k k1 k2 k3
      simp (disch := omega) only [q_lit, q_gt, q_bd, q_bxl, q_bxr, q_vib, q_cl, q_pos, q_lt, q_le, q_eq, q_neg, q_neg1, q_negz, q_negeq0, q_neg0le, q_rem, q_div, q_sub, q_if1, q_if0, q_okB0, q_okB1, q_dz, q_dn, q_nb, and_true, true_and, and_false, false_and, nI_add, pk_mul, if_true, if_false, ite_true, ite_false, Nat.add_zero, Nat.zero_add, Nat.reduceAdd, st_row]
    · intro t
      simp (disch := omega) only [q_lit, q_gt, q_bd, q_bxl, q_bxr, q_vib, q_cl, q_pos, q_lt, q_le, q_eq, q_neg, q_neg1, q_negz, q_negeq0, q_neg0le, q_rem, q_div, q_sub, q_if1, q_if0, q_okB0, q_okB1, q_dz, q_dn, q_nb, and_true, true_and, and_false, false_and, nI_add, pk_mul, if_true, if_false, ite_true, ite_false, Nat.add_zero, Nat.zero_add, Nat.reduceAdd, st_row, st_get]
    · intro t
      simp (disch := omega) only [q_lit, q_gt, q_bd, q_bxl, q_bxr, q_vib, q_cl, q_pos, q_lt, q_le, q_eq, q_neg, q_neg1, q_negz, q_negeq0, q_neg0le, q_rem, q_div, q_sub, q_if1, q_if0, q_okB0, q_okB1, q_dz, q_dn, q_nb, and_true, true_and, and_false, false_and, nI_add, pk_mul, if_true, if_false, ite_true, ite_false, Nat.add_zero, Nat.zero_add, Nat.reduceAdd, st_row, st_get]
    · intro k hk
      rcases eight k hk with rfl | rfl | rfl | rfl | rfl | rfl | rfl | rfl
      all_goals
        simp (disch := omega) only [q_lit, q_gt, q_bd, q_bxl, q_bxr, q_vib, q_cl, q_pos, q_lt, q_le, q_eq, q_neg, q_neg1, q_negz, q_negeq0, q_neg0le, q_rem, q_div, q_sub, q_if1, q_if0, q_okB0, q_okB1, q_dz, q_dn, q_nb, and_true, true_and, and_false, false_and, nI_add, pk_mul, if_true, if_false, ite_true, ite_false, Nat.add_zero, Nat.zero_add, Nat.reduceAdd, st_get, pVal]
    · intro t ht
      simp (disch := omega) only [q_lit, q_gt, q_bd, q_bxl, q_bxr, q_vib, q_cl, q_pos, q_lt, q_le, q_eq, q_neg, q_neg1, q_negz, q_negeq0, q_neg0le, q_rem, q_div, q_sub, q_if1, q_if0, q_okB0, q_okB1, q_dz, q_dn, q_nb, and_true, true_and, and_false, false_and, nI_add, pk_mul, if_true, if_false, ite_true, ite_false, Nat.add_zero, Nat.zero_add, Nat.reduceAdd, st_get]
  · unfold f3_addPart f3_addPart_J143 f3_partCountOf f5_pageOf f5_columnOf f5_rowOf
    simp (disch := omega) only [q_lit, q_gt, q_bd, q_bxl, q_bxr, q_vib, q_cl, q_pos, q_lt, q_le, q_eq, q_neg, q_neg1, q_negz, q_negeq0, q_neg0le, q_rem, q_div, q_sub, q_if1, q_if0, q_okB0, q_okB1, q_dz, q_dn, q_nb, and_true, true_and, and_false, false_and, nI_add, pk_mul, if_true, if_false, ite_true, ite_false, Nat.add_zero, Nat.zero_add, Nat.reduceAdd, s5_isStoryIndex, h5, st_row, h7, e1, e2]
    refine ⟨_, rfl, ?_, ?_, ?_, ?_, ?_⟩
    · intro k k1 k2 k3
      simp (disch := omega) only [q_lit, q_gt, q_bd, q_bxl, q_bxr, q_vib, q_cl, q_pos, q_lt, q_le, q_eq, q_neg, q_neg1, q_negz, q_negeq0, q_neg0le, q_rem, q_div, q_sub, q_if1, q_if0, q_okB0, q_okB1, q_dz, q_dn, q_nb, and_true, true_and, and_false, false_and, nI_add, pk_mul, if_true, if_false, ite_true, ite_false, Nat.add_zero, Nat.zero_add, Nat.reduceAdd, st_row]
    · intro t
      simp (disch := omega) only [q_lit, q_gt, q_bd, q_bxl, q_bxr, q_vib, q_cl, q_pos, q_lt, q_le, q_eq, q_neg, q_neg1, q_negz, q_negeq0, q_neg0le, q_rem, q_div, q_sub, q_if1, q_if0, q_okB0, q_okB1, q_dz, q_dn, q_nb, and_true, true_and, and_false, false_and, nI_add, pk_mul, if_true, if_false, ite_true, ite_false, Nat.add_zero, Nat.zero_add, Nat.reduceAdd, st_row, st_get]
    · intro t
      simp (disch := omega) only [q_lit, q_gt, q_bd, q_bxl, q_bxr, q_vib, q_cl, q_pos, q_lt, q_le, q_eq, q_neg, q_neg1, q_negz, q_negeq0, q_neg0le, q_rem, q_div, q_sub, q_if1, q_if0, q_okB0, q_okB1, q_dz, q_dn, q_nb, and_true, true_and, and_false, false_and, nI_add, pk_mul, if_true, if_false, ite_true, ite_false, Nat.add_zero, Nat.zero_add, Nat.reduceAdd, st_row, st_get]
    · intro k hk
      rcases eight k hk with rfl | rfl | rfl | rfl | rfl | rfl | rfl | rfl
      all_goals
        simp (disch := omega) only [q_lit, q_gt, q_bd, q_bxl, q_bxr, q_vib, q_cl, q_pos, q_lt, q_le, q_eq, q_neg, q_neg1, q_negz, q_negeq0, q_neg0le, q_rem, q_div, q_sub, q_if1, q_if0, q_okB0, q_okB1, q_dz, q_dn, q_nb, and_true, true_and, and_false, false_and, nI_add, pk_mul, if_true, if_false, ite_true, ite_false, Nat.add_zero, Nat.zero_add, Nat.reduceAdd, st_get, pVal]
    · intro t ht
      simp (disch := omega) only [q_lit, q_gt, q_bd, q_bxl, q_bxr, q_vib, q_cl, q_pos, q_lt, q_le, q_eq, q_neg, q_neg1, q_negz, q_negeq0, q_neg0le, q_rem, q_div, q_sub, q_if1, q_if0, q_okB0, q_okB1, q_dz, q_dn, q_nb, and_true, true_and, and_false, false_and, nI_add, pk_mul, if_true, if_false, ite_true, ite_false, Nat.add_zero, Nat.zero_add, Nat.reduceAdd, st_get]
end L1
