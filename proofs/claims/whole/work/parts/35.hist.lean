/-! THE PURE PART. Copies of editions, the history, on both sides. -/
section H1
variable {σ : Hp} {D : Nat → Nat}
theorem s1_copyFrom (N b o : Nat) (hN : 500 ≤ N) (hE : EdR σ o D) (hD : DOk D) (hbo : b + 4 < o ∨ o + 4 < b) : ∃ σ', f1_copyFrom N b o σ = some ((), σ') ∧ EdR σ' b D ∧ ∀ k, k < b ∨ b + 4 < k → σ' k = σ k := by
  obtain ⟨o1, o2, o3, o4, o5, o6⟩ := hE
  obtain ⟨σ1, ⟨a1, a2⟩, a3⟩ := lpx (fun _ _ => none) (f1_copyFrom_B2 N b o (fun σL2 => f1_copyFrom_L28 N b o (fun σL28 => f1_copyFrom_L54 N b o (fun σL54 => f1_copyFrom_L80 N b o (fun σL80 => some ((), (st (st σL80 b 4 (σL80 o 4)) b 5 ((st σL80 b 4 (σL80 o 4)) o 5)))) N (nI 0) σL54) N (nI 0) σL28) N (nI 0) σL2)) (fun t j σ => t (nI j) σ) (fun σL2 => f1_copyFrom_L28 N b o (fun σL28 => f1_copyFrom_L54 N b o (fun σL54 => f1_copyFrom_L80 N b o (fun σL80 => some ((), (st (st σL80 b 4 (σL80 o 4)) b 5 ((st σL80 b 4 (σL80 o 4)) o 5)))) N (nI 0) σL54) N (nI 0) σL28) N (nI 0) σL2) 12 (fun m τ => (∀ k, k ≠ b + 1 → τ k = σ k) ∧ (∀ s, s < m → τ (b + 1) s = nI (dS D s 0))) (by
    intro r τ hI
    show f1_copyFrom_B2 _ _ _ _ _ _ _ = _
    unfold f1_copyFrom_B2
    simp (disch := omega) only [q_lit, q_gt, q_bd, q_bxl, q_bxr, q_vib, q_cl, q_pos, q_lt, q_le, q_eq, q_neg, q_neg1, q_negz, q_negeq0, q_neg0le, q_rem, q_div, q_sub, q_if1, q_if0, q_okB0, q_okB1, q_dz, q_dn, q_nb, and_true, true_and, and_false, false_and, nI_add, pk_mul, if_true, if_false, ite_true, ite_false, Nat.add_zero, Nat.zero_add, Nat.reduceAdd]) (by
    intro r j τ hj hI
    obtain ⟨i1, i2⟩ := hI
    have := (hD.2.2.1 j hj).1
    refine ⟨st τ (b + 1) j (nI (dS D j 0)), ⟨?_, ?_⟩, ?_⟩
    · intro k k1
      rw [st_row _ _ _ _ k1]
      exact i1 k k1
    · intro s hs
      rw [st_get]
      by_cases z : s = j
      · rw [if_pos ⟨rfl, z⟩, z]
      · rw [if_neg (fun h => z h.2)]
        exact i2 s (by omega)
    · show f1_copyFrom_B2 _ _ _ _ _ _ _ = _
      unfold f1_copyFrom_B2
      simp (disch := omega) only [q_lit, q_gt, q_bd, q_bxl, q_bxr, q_vib, q_cl, q_pos, q_lt, q_le, q_eq, q_neg, q_neg1, q_negz, q_negeq0, q_neg0le, q_rem, q_div, q_sub, q_if1, q_if0, q_okB0, q_okB1, q_dz, q_dn, q_nb, and_true, true_and, and_false, false_and, nI_add, pk_mul, if_true, if_false, ite_true, ite_false, Nat.add_zero, Nat.zero_add, Nat.reduceAdd, i1 (o + 1) (by omega), o3 j hj]) 12 0 N σ (by omega) (by omega) ⟨fun _ _ => rfl, fun s h => absurd h (Nat.not_lt_zero s)⟩
  obtain ⟨σ2, ⟨b1, b2⟩, b3⟩ := lpx (fun _ _ => none) (f1_copyFrom_B28 N b o (fun σL28 => f1_copyFrom_L54 N b o (fun σL54 => f1_copyFrom_L80 N b o (fun σL80 => some ((), (st (st σL80 b 4 (σL80 o 4)) b 5 ((st σL80 b 4 (σL80 o 4)) o 5)))) N (nI 0) σL54) N (nI 0) σL28)) (fun t j σ => t (nI j) σ) (fun σL28 => f1_copyFrom_L54 N b o (fun σL54 => f1_copyFrom_L80 N b o (fun σL80 => some ((), (st (st σL80 b 4 (σL80 o 4)) b 5 ((st σL80 b 4 (σL80 o 4)) o 5)))) N (nI 0) σL54) N (nI 0) σL28) 96 (fun m τ => (∀ k, k ≠ b + 2 → τ k = σ1 k) ∧ (∀ t, t < m → τ (b + 2) t = σ (o + 2) t)) (by
    intro r τ hI
    show f1_copyFrom_B28 _ _ _ _ _ _ _ = _
    unfold f1_copyFrom_B28
    simp (disch := omega) only [q_lit, q_gt, q_bd, q_bxl, q_bxr, q_vib, q_cl, q_pos, q_lt, q_le, q_eq, q_neg, q_neg1, q_negz, q_negeq0, q_neg0le, q_rem, q_div, q_sub, q_if1, q_if0, q_okB0, q_okB1, q_dz, q_dn, q_nb, and_true, true_and, and_false, false_and, nI_add, pk_mul, if_true, if_false, ite_true, ite_false, Nat.add_zero, Nat.zero_add, Nat.reduceAdd]) (by
    intro r j τ hj hI
    obtain ⟨i1, i2⟩ := hI
    refine ⟨st τ (b + 2) j (σ (o + 2) j), ⟨?_, ?_⟩, ?_⟩
    · intro k k1
      rw [st_row _ _ _ _ k1]
      exact i1 k k1
    · intro s hs
      rw [st_get]
      by_cases z : s = j
      · rw [if_pos ⟨rfl, z⟩, z]
      · rw [if_neg (fun h => z h.2)]
        exact i2 s (by omega)
    · show f1_copyFrom_B28 _ _ _ _ _ _ _ = _
      unfold f1_copyFrom_B28
      simp (disch := omega) only [q_lit, q_gt, q_bd, q_bxl, q_bxr, q_vib, q_cl, q_pos, q_lt, q_le, q_eq, q_neg, q_neg1, q_negz, q_negeq0, q_neg0le, q_rem, q_div, q_sub, q_if1, q_if0, q_okB0, q_okB1, q_dz, q_dn, q_nb, and_true, true_and, and_false, false_and, nI_add, pk_mul, if_true, if_false, ite_true, ite_false, Nat.add_zero, Nat.zero_add, Nat.reduceAdd, i1 (o + 2) (by omega), a1 (o + 2) (by omega)]) 96 0 N σ1 (by omega) (by omega) ⟨fun _ _ => rfl, fun s h => absurd h (Nat.not_lt_zero s)⟩
  obtain ⟨σ3, ⟨c1, c2⟩, c3⟩ := lpx (fun _ _ => none) (f1_copyFrom_B54 N b o (fun σL54 => f1_copyFrom_L80 N b o (fun σL80 => some ((), (st (st σL80 b 4 (σL80 o 4)) b 5 ((st σL80 b 4 (σL80 o 4)) o 5)))) N (nI 0) σL54)) (fun t j σ => t (nI j) σ) (fun σL54 => f1_copyFrom_L80 N b o (fun σL80 => some ((), (st (st σL80 b 4 (σL80 o 4)) b 5 ((st σL80 b 4 (σL80 o 4)) o 5)))) N (nI 0) σL54) 8 (fun m τ => (∀ k, k ≠ b + 3 → τ k = σ2 k) ∧ (∀ s, s < m → τ (b + 3) s = nI (dA D s 0))) (by
    intro r τ hI
    show f1_copyFrom_B54 _ _ _ _ _ _ _ = _
    unfold f1_copyFrom_B54
    simp (disch := omega) only [q_lit, q_gt, q_bd, q_bxl, q_bxr, q_vib, q_cl, q_pos, q_lt, q_le, q_eq, q_neg, q_neg1, q_negz, q_negeq0, q_neg0le, q_rem, q_div, q_sub, q_if1, q_if0, q_okB0, q_okB1, q_dz, q_dn, q_nb, and_true, true_and, and_false, false_and, nI_add, pk_mul, if_true, if_false, ite_true, ite_false, Nat.add_zero, Nat.zero_add, Nat.reduceAdd]) (by
    intro r j τ hj hI
    obtain ⟨i1, i2⟩ := hI
    have := (hD.2.2.2 j hj).1
    refine ⟨st τ (b + 3) j (nI (dA D j 0)), ⟨?_, ?_⟩, ?_⟩
    · intro k k1
      rw [st_row _ _ _ _ k1]
      exact i1 k k1
    · intro s hs
      rw [st_get]
      by_cases z : s = j
      · rw [if_pos ⟨rfl, z⟩, z]
      · rw [if_neg (fun h => z h.2)]
        exact i2 s (by omega)
    · show f1_copyFrom_B54 _ _ _ _ _ _ _ = _
      unfold f1_copyFrom_B54
      simp (disch := omega) only [q_lit, q_gt, q_bd, q_bxl, q_bxr, q_vib, q_cl, q_pos, q_lt, q_le, q_eq, q_neg, q_neg1, q_negz, q_negeq0, q_neg0le, q_rem, q_div, q_sub, q_if1, q_if0, q_okB0, q_okB1, q_dz, q_dn, q_nb, and_true, true_and, and_false, false_and, nI_add, pk_mul, if_true, if_false, ite_true, ite_false, Nat.add_zero, Nat.zero_add, Nat.reduceAdd, i1 (o + 3) (by omega), b1 (o + 3) (by omega), a1 (o + 3) (by omega), o5 j hj]) 8 0 N σ2 (by omega) (by omega) ⟨fun _ _ => rfl, fun s h => absurd h (Nat.not_lt_zero s)⟩
  obtain ⟨σ4, ⟨d1, d2⟩, d3⟩ := lpx (fun _ _ => none) (f1_copyFrom_B80 N b o (fun σL80 => some ((), (st (st σL80 b 4 (σL80 o 4)) b 5 ((st σL80 b 4 (σL80 o 4)) o 5))))) (fun t j σ => t (nI j) σ) (fun σL80 => some ((), (st (st σL80 b 4 (σL80 o 4)) b 5 ((st σL80 b 4 (σL80 o 4)) o 5)))) 48 (fun m τ => (∀ k, k ≠ b + 4 → τ k = σ3 k) ∧ (∀ t, t < m → τ (b + 4) t = σ (o + 4) t)) (by
    intro r τ hI
    show f1_copyFrom_B80 _ _ _ _ _ _ _ = _
    unfold f1_copyFrom_B80
    simp (disch := omega) only [q_lit, q_gt, q_bd, q_bxl, q_bxr, q_vib, q_cl, q_pos, q_lt, q_le, q_eq, q_neg, q_neg1, q_negz, q_negeq0, q_neg0le, q_rem, q_div, q_sub, q_if1, q_if0, q_okB0, q_okB1, q_dz, q_dn, q_nb, and_true, true_and, and_false, false_and, nI_add, pk_mul, if_true, if_false, ite_true, ite_false, Nat.add_zero, Nat.zero_add, Nat.reduceAdd]) (by
    intro r j τ hj hI
    obtain ⟨i1, i2⟩ := hI
    refine ⟨st τ (b + 4) j (σ (o + 4) j), ⟨?_, ?_⟩, ?_⟩
    · intro k k1
      rw [st_row _ _ _ _ k1]
      exact i1 k k1
    · intro s hs
      rw [st_get]
      by_cases z : s = j
      · rw [if_pos ⟨rfl, z⟩, z]
      · rw [if_neg (fun h => z h.2)]
        exact i2 s (by omega)
    · show f1_copyFrom_B80 _ _ _ _ _ _ _ = _
      unfold f1_copyFrom_B80
      simp (disch := omega) only [q_lit, q_gt, q_bd, q_bxl, q_bxr, q_vib, q_cl, q_pos, q_lt, q_le, q_eq, q_neg, q_neg1, q_negz, q_negeq0, q_neg0le, q_rem, q_div, q_sub, q_if1, q_if0, q_okB0, q_okB1, q_dz, q_dn, q_nb, and_true, true_and, and_false, false_and, nI_add, pk_mul, if_true, if_false, ite_true, ite_false, Nat.add_zero, Nat.zero_add, Nat.reduceAdd, i1 (o + 4) (by omega), c1 (o + 4) (by omega), b1 (o + 4) (by omega), a1 (o + 4) (by omega)]) 48 0 N σ3 (by omega) (by omega) ⟨fun _ _ => rfl, fun s h => absurd h (Nat.not_lt_zero s)⟩
  have fr : ∀ k, k < b + 1 ∨ b + 4 < k → σ4 k = σ k := fun k hk => by
    rw [d1 k (by omega), c1 k (by omega), b1 k (by omega), a1 k (by omega)]
  refine ⟨st (st σ4 b 4 (σ4 o 4)) b 5 ((st σ4 b 4 (σ4 o 4)) o 5), ?_, ?_, ?_⟩
  · exact Eq.trans (show f1_copyFrom N b o σ = _ from a3) (Eq.trans b3 (Eq.trans c3 d3))
  · refine ⟨?_, ?_, ?_, ?_, ?_, ?_⟩
    · rw [st_ne _ _ _ _ (Or.inr (by omega)), st_same, fr o (by omega)]
      exact o1
    · rw [st_same, st_row _ _ _ _ (by omega), fr o (by omega)]
      exact o2
    · intro s hs
      rw [st_row _ _ _ _ (by omega), st_row _ _ _ _ (by omega), d1 _ (by omega), c1 _ (by omega), b1 _ (by omega)]
      exact a2 s hs
    · intro s k hs hk
      rw [st_row _ _ _ _ (by omega), st_row _ _ _ _ (by omega), d1 _ (by omega), c1 _ (by omega), b2 _ (by omega)]
      exact o4 s k hs hk
    · intro s hs
      rw [st_row _ _ _ _ (by omega), st_row _ _ _ _ (by omega), d1 _ (by omega)]
      exact c2 s hs
    · intro s k hs hk
      rw [st_row _ _ _ _ (by omega), st_row _ _ _ _ (by omega), d2 _ (by omega)]
      exact o6 s k hs hk
  · intro k hk
    rw [st_row _ _ _ _ (by omega), st_row _ _ _ _ (by omega)]
    exact fr k (by omega)
theorem s6_copies (N a0 n0 a1 n1 x y : Nat) (hN : 500 ≤ N) (hx : x + 166 ≤ n0) (hy : y + 166 ≤ n1) (h0 : n0 < 5000) (h1 : n1 < 5000) (hd : a0 ≠ a1 ∨ y + 166 ≤ x) : ∃ σ', f6_copies N a0 n0 a1 n1 (nI x) (nI y) σ = some ((), σ') ∧ (∀ k, k ≠ a1 → σ' k = σ k) ∧ (∀ i, i < 166 → σ' a1 (y + i) = σ a0 (x + i)) ∧ (∀ t, t < y ∨ y + 166 ≤ t → σ' a1 t = σ a1 t) := by
  obtain ⟨σ', ⟨i1, i2, i3⟩, h⟩ := lpx (fun _ _ => none) (f6_copies_B3 N a0 n0 a1 n1 (nI x) (nI y) (fun σL3 => some ((), σL3))) (fun t j σ => t (nI j) σ) (fun σL3 => some ((), σL3)) 166 (fun m τ => (∀ k, k ≠ a1 → τ k = σ k) ∧ (∀ i, i < m → τ a1 (y + i) = σ a0 (x + i)) ∧ (∀ t, t < y ∨ y + m ≤ t → τ a1 t = σ a1 t)) (by
    intro r τ hI
    show f6_copies_B3 _ _ _ _ _ _ _ _ _ _ _ = _
    unfold f6_copies_B3
    simp (disch := omega) only [q_lit, q_gt, q_bd, q_bxl, q_bxr, q_vib, q_cl, q_pos, q_lt, q_le, q_eq, q_neg, q_neg1, q_negz, q_negeq0, q_neg0le, q_rem, q_div, q_sub, q_if1, q_if0, q_okB0, q_okB1, q_dz, q_dn, q_nb, and_true, true_and, and_false, false_and, nI_add, pk_mul, if_true, if_false, ite_true, ite_false, Nat.add_zero, Nat.zero_add, Nat.reduceAdd]) (by
    intro r j τ hj hI
    obtain ⟨i1, i2, i3⟩ := hI
    have rd : τ a0 (x + j) = σ a0 (x + j) := by
      by_cases z : a0 = a1
      · rw [z]
        exact i3 _ (by omega)
      · rw [i1 a0 z]
    refine ⟨st τ a1 (y + j) (σ a0 (x + j)), ⟨?_, ?_, ?_⟩, ?_⟩
    · intro k k1
      rw [st_row _ _ _ _ k1]
      exact i1 k k1
    · intro i hi
      rw [st_get]
      by_cases z : i = j
      · rw [if_pos ⟨rfl, by omega⟩, z]
      · rw [if_neg (by omega)]
        exact i2 i (by omega)
    · intro t ht
      rw [st_ne _ _ _ _ (Or.inr (by omega))]
      exact i3 t (by omega)
    · show f6_copies_B3 _ _ _ _ _ _ _ _ _ _ _ = _
      unfold f6_copies_B3
      simp (disch := omega) only [q_lit, q_gt, q_bd, q_bxl, q_bxr, q_vib, q_cl, q_pos, q_lt, q_le, q_eq, q_neg, q_neg1, q_negz, q_negeq0, q_neg0le, q_rem, q_div, q_sub, q_if1, q_if0, q_okB0, q_okB1, q_dz, q_dn, q_nb, and_true, true_and, and_false, false_and, nI_add, pk_mul, if_true, if_false, ite_true, ite_false, Nat.add_zero, Nat.zero_add, Nat.reduceAdd, rd]) 166 0 N σ (by omega) (by omega) ⟨fun _ _ => rfl, fun s h => absurd h (Nat.not_lt_zero s), fun _ _ => rfl⟩
  exact ⟨σ', h, i1, i2, i3⟩
/-- the history: the class's ring, the reference's block -/
def HiC (σ : Hp) (c n : Nat) (Es : Nat → Nat → Nat) : Prop := σ 74 2 = nI c ∧ σ 74 1 = nI n ∧ c ≤ 8 ∧ n < 8 ∧ ∀ k, k < c → DOk (Es k) ∧ EdR σ (16 + 5 * ((n + 8 - c + k) % 8)) (Es k)
def HiM (σ : Hp) (c : Nat) (Es : Nat → Nat → Nat) : Prop := σ 84 5 = nI c ∧ ∀ k, k < c → ∀ i, i < 166 → σ 88 (166 * k + i) = nI (Es k i)
def pushE (c : Nat) (Es : Nat → Nat → Nat) (D : Nat → Nat) : Nat → Nat → Nat := fun k => if c < 8 then (if k < c then Es k else D) else (if k < 7 then Es (k + 1) else D)
def pushC (c : Nat) : Nat := if c < 8 then c + 1 else 8
theorem s2_remember (N c n : Nat) (hN : 500 ≤ N) (Es : Nat → Nat → Nat) (hE : EdR σ 1 D) (hD : DOk D) (hH : HiC σ c n Es) : ∃ σ', f2_remember N 1 σ = some ((), σ') ∧ HiC σ' (pushC c) ((n + 1) % 8) (pushE c Es D) ∧ ∀ k, k < 16 ∨ (55 < k ∧ k ≠ 74) → σ' k = σ k := by
  obtain ⟨h1, h2, h3, h4, h5⟩ := hH
  obtain ⟨σ1, c1, c2, c3⟩ := s1_copyFrom (σ := σ) N (16 + 5 * n) 1 hN hE hD (by omega)
  have hb : isEb (16 + 5 * n) = true := by
    unfold isEb
    rw [decide_eq_true (by omega), decide_eq_true (by omega)]
    rfl
  have hm : n + 1 - (n + 1) / 8 * 8 = (n + 1) % 8 := by omega
  have e1 : σ1 74 1 = nI n := by rw [c3 74 (by omega)]; exact h2
  have e2 : σ1 74 2 = nI c := by rw [c3 74 (by omega)]; exact h1
  refine ⟨st (st σ1 74 1 (nI ((n + 1) % 8))) 74 2 (nI (pushC c)), ?_, ?_, ?_⟩
  · unfold f2_remember f2_editionAt f2_remember_J18
    simp (disch := omega) only [q_lit, q_gt, q_bd, q_bxl, q_bxr, q_vib, q_cl, q_pos, q_lt, q_le, q_eq, q_neg, q_neg1, q_negz, q_negeq0, q_neg0le, q_rem, q_div, q_sub, q_if1, q_if0, q_okB0, q_okB1, q_dz, q_dn, q_nb, and_true, true_and, and_false, false_and, nI_add, pk_mul, if_true, if_false, ite_true, ite_false, Nat.add_zero, Nat.zero_add, Nat.reduceAdd, h2]
    show gd (isEb (16 + 5 * n)) _ = _
    rw [hb]
    simp (disch := omega) only [q_lit, q_gt, q_bd, q_bxl, q_bxr, q_vib, q_cl, q_pos, q_lt, q_le, q_eq, q_neg, q_neg1, q_negz, q_negeq0, q_neg0le, q_rem, q_div, q_sub, q_if1, q_if0, q_okB0, q_okB1, q_dz, q_dn, q_nb, and_true, true_and, and_false, false_and, nI_add, pk_mul, if_true, if_false, ite_true, ite_false, Nat.add_zero, Nat.zero_add, Nat.reduceAdd, c1, e1, hm, st_get, e2]
    unfold pushC
    by_cases z : c < 8
    · rw [if_pos z]
      simp (disch := omega) only [q_lit, q_gt, q_bd, q_bxl, q_bxr, q_vib, q_cl, q_pos, q_lt, q_le, q_eq, q_neg, q_neg1, q_negz, q_negeq0, q_neg0le, q_rem, q_div, q_sub, q_if1, q_if0, q_okB0, q_okB1, q_dz, q_dn, q_nb, and_true, true_and, and_false, false_and, nI_add, pk_mul, if_true, if_false, ite_true, ite_false, Nat.add_zero, Nat.zero_add, Nat.reduceAdd]
    · rw [if_neg z]
      simp (disch := omega) only [q_lit, q_gt, q_bd, q_bxl, q_bxr, q_vib, q_cl, q_pos, q_lt, q_le, q_eq, q_neg, q_neg1, q_negz, q_negeq0, q_neg0le, q_rem, q_div, q_sub, q_if1, q_if0, q_okB0, q_okB1, q_dz, q_dn, q_nb, and_true, true_and, and_false, false_and, nI_add, pk_mul, if_true, if_false, ite_true, ite_false, Nat.add_zero, Nat.zero_add, Nat.reduceAdd]
  · refine ⟨st_same _ _ _ _, ?_, ?_, by omega, ?_⟩
    · rw [st_ne _ _ _ _ (Or.inr (by omega)), st_same]
    · unfold pushC
      split
      · omega
      · omega
    · intro k hk
      unfold pushC at hk ⊢
      unfold pushE
      by_cases z : c < 8
      · rw [if_pos z] at hk ⊢
        rw [if_pos z]
        have er : ((n + 1) % 8 + 8 - (c + 1) + k) % 8 = (n + 8 - c + k) % 8 := by omega
        rw [er]
        by_cases z2 : k < c
        · rw [if_pos z2]
          obtain ⟨g1, g2⟩ := h5 k z2
          refine ⟨g1, g2.congr (fun q q1 q2 => ?_)⟩
          rw [st_row _ _ _ _ (by omega), st_row _ _ _ _ (by omega)]
          exact c3 q (by omega)
        · rw [if_neg z2]
          have en : (n + 8 - c + k) % 8 = n := by omega
          rw [en]
          refine ⟨hD, c2.congr (fun q q1 q2 => ?_)⟩
          rw [st_row _ _ _ _ (by omega), st_row _ _ _ _ (by omega)]
      · rw [if_neg z] at hk ⊢
        rw [if_neg z]
        have hc8 : c = 8 := by omega
        by_cases z2 : k < 7
        · rw [if_pos z2]
          obtain ⟨g1, g2⟩ := h5 (k + 1) (by omega)
          have er : ((n + 1) % 8 + 8 - 8 + k) % 8 = (n + 8 - c + (k + 1)) % 8 := by omega
          rw [er]
          refine ⟨g1, g2.congr (fun q q1 q2 => ?_)⟩
          rw [st_row _ _ _ _ (by omega), st_row _ _ _ _ (by omega)]
          exact c3 q (by omega)
        · rw [if_neg z2]
          have en : ((n + 1) % 8 + 8 - 8 + k) % 8 = n := by omega
          rw [en]
          refine ⟨hD, c2.congr (fun q q1 q2 => ?_)⟩
          rw [st_row _ _ _ _ (by omega), st_row _ _ _ _ (by omega)]
  · intro k hk
    rw [st_row _ _ _ _ (by omega), st_row _ _ _ _ (by omega)]
    exact c3 k (by omega)
theorem s2_takeBack (N c n : Nat) (hN : 500 ≤ N) (Es : Nat → Nat → Nat) (hc : 0 < c) (hH : HiC σ c n Es) : ∃ σ', f2_takeBack N 1 σ = some (nI (c - 1), σ') ∧ HiC σ' (c - 1) ((n + 7) % 8) Es ∧ EdR σ' 1 (Es (c - 1)) ∧ ∀ k, k = 0 ∨ (5 < k ∧ k ≠ 74) → σ' k = σ k := by
  obtain ⟨h1, h2, h3, h4, h5⟩ := hH
  have hm : n + 8 - 1 - (n + 8 - 1) / 8 * 8 = (n + 7) % 8 := by omega
  obtain ⟨g1, g2⟩ := h5 (c - 1) (by omega)
  have er : (n + 8 - c + (c - 1)) % 8 = (n + 7) % 8 := by omega
  rw [er] at g2
  have g3 : EdR (st (st σ 74 1 (nI ((n + 7) % 8))) 74 2 (nI (c - 1))) (16 + 5 * ((n + 7) % 8)) (Es (c - 1)) := g2.congr (fun q q1 q2 => by rw [st_row _ _ _ _ (by omega), st_row _ _ _ _ (by omega)])
  obtain ⟨σ1, c1, c2, c3⟩ := s1_copyFrom N 1 (16 + 5 * ((n + 7) % 8)) hN g3 g1 (by omega)
  have hb : isEb (16 + 5 * ((n + 7) % 8)) = true := by
    unfold isEb
    rw [decide_eq_true (by omega), decide_eq_true (by omega)]
    rfl
  refine ⟨σ1, ?_, ⟨?_, ?_, by omega, by omega, ?_⟩, c2, ?_⟩
  · unfold f2_takeBack f2_editionAt
    simp (disch := omega) only [q_lit, q_gt, q_bd, q_bxl, q_bxr, q_vib, q_cl, q_pos, q_lt, q_le, q_eq, q_neg, q_neg1, q_negz, q_negeq0, q_neg0le, q_rem, q_div, q_sub, q_if1, q_if0, q_okB0, q_okB1, q_dz, q_dn, q_nb, and_true, true_and, and_false, false_and, nI_add, pk_mul, if_true, if_false, ite_true, ite_false, Nat.add_zero, Nat.zero_add, Nat.reduceAdd, h2, hm, st_get, h1]
    show gd (isEb (16 + 5 * ((n + 7) % 8))) _ = _
    rw [hb]
    simp (disch := omega) only [q_lit, q_gt, q_bd, q_bxl, q_bxr, q_vib, q_cl, q_pos, q_lt, q_le, q_eq, q_neg, q_neg1, q_negz, q_negeq0, q_neg0le, q_rem, q_div, q_sub, q_if1, q_if0, q_okB0, q_okB1, q_dz, q_dn, q_nb, and_true, true_and, and_false, false_and, nI_add, pk_mul, if_true, if_false, ite_true, ite_false, Nat.add_zero, Nat.zero_add, Nat.reduceAdd, c1, c3 74 (by omega), st_get]
  · rw [c3 74 (by omega), st_same]
  · rw [c3 74 (by omega), st_ne _ _ _ _ (Or.inr (by omega)), st_same]
  · intro k hk
    obtain ⟨f1, f2⟩ := h5 k (by omega)
    have er2 : ((n + 7) % 8 + 8 - (c - 1) + k) % 8 = (n + 8 - c + k) % 8 := by omega
    rw [er2]
    refine ⟨f1, f2.congr (fun q q1 q2 => ?_)⟩
    rw [c3 q (by omega), st_row _ _ _ _ (by omega), st_row _ _ _ _ (by omega)]
  · intro k hk
    rw [c3 k (by omega), st_row _ _ _ _ (by omega), st_row _ _ _ _ (by omega)]
theorem s6_begins (N : Nat) (hN : 500 ≤ N) (hNw : NwR σ 85 D) : ∃ σ', f6_begins N σ = some ((), σ') ∧ NwR σ' 86 D ∧ σ' 84 0 = nI 0 ∧ (∀ i, i ≠ 0 → σ' 84 i = σ 84 i) ∧ ∀ k, k ≠ 84 → k ≠ 86 → σ' k = σ k := by
  obtain ⟨σ1, c1, c2, c3, c4⟩ := s6_copies (σ := st σ 84 0 (nI 0)) N 85 166 86 166 0 0 hN (by omega) (by omega) (by omega) (by omega) (by omega)
  refine ⟨σ1, ?_, ?_, ?_, ?_, ?_⟩
  · unfold f6_begins f6_keeps
    simp (disch := omega) only [q_lit, q_gt, q_bd, q_bxl, q_bxr, q_vib, q_cl, q_pos, q_lt, q_le, q_eq, q_neg, q_neg1, q_negz, q_negeq0, q_neg0le, q_rem, q_div, q_sub, q_if1, q_if0, q_okB0, q_okB1, q_dz, q_dn, q_nb, and_true, true_and, and_false, false_and, nI_add, pk_mul, if_true, if_false, ite_true, ite_false, Nat.add_zero, Nat.zero_add, Nat.reduceAdd, c1]
  · intro i hi
    have := c3 i hi
    rw [Nat.zero_add] at this
    rw [this, st_row _ _ _ _ (by omega)]
    exact hNw i hi
  · rw [c2 84 (by omega), st_same]
  · intro i hi
    rw [c2 84 (by omega), st_ne _ _ _ _ (Or.inr hi)]
  · intro k k1 k2
    rw [c2 k k2, st_row _ _ _ _ k1]
theorem s6_changes (N c : Nat) (hN : 500 ≤ N) (Es : Nat → Nat → Nat) (hB : NwR σ 86 D) (hc : c ≤ 8) (hH : HiM σ c Es) : ∃ σ', f6_changes N σ = some ((), σ') ∧ HiM σ' (pushC c) (pushE c Es D) ∧ (∀ i, i ≠ 5 → σ' 84 i = σ 84 i) ∧ ∀ k, k ≠ 84 → k ≠ 88 → σ' k = σ k := by
  have tail : ∀ (τ : Hp) (m : Nat), m < 8 → τ 84 5 = nI m → (∀ i, i ≠ 5 → τ 84 i = σ 84 i) → (∀ k, k ≠ 84 → k ≠ 88 → τ k = σ k) → (∀ k, k < m → ∀ i, i < 166 → τ 88 (166 * k + i) = nI (pushE c Es D k i)) → (pushC c = m + 1) → (pushE c Es D m = D) → ∃ σ', f6_changes_J56 N τ = some ((), σ') ∧ HiM σ' (pushC c) (pushE c Es D) ∧ (∀ i, i ≠ 5 → σ' 84 i = σ 84 i) ∧ ∀ k, k ≠ 84 → k ≠ 88 → σ' k = σ k := by
    intro τ m hm e5 f84 fr hE hc1 hD1
    obtain ⟨σ1, c1, c2, c3, c4⟩ := s6_copies (σ := τ) N 86 166 88 1328 0 (166 * m) hN (by omega) (by omega) (by omega) (by omega) (by omega)
    refine ⟨st σ1 84 5 (nI (m + 1)), ?_, ⟨?_, ?_⟩, ?_, ?_⟩
    · unfold f6_changes_J56
      simp (disch := omega) only [q_lit, q_gt, q_bd, q_bxl, q_bxr, q_vib, q_cl, q_pos, q_lt, q_le, q_eq, q_neg, q_neg1, q_negz, q_negeq0, q_neg0le, q_rem, q_div, q_sub, q_if1, q_if0, q_okB0, q_okB1, q_dz, q_dn, q_nb, and_true, true_and, and_false, false_and, nI_add, pk_mul, if_true, if_false, ite_true, ite_false, Nat.add_zero, Nat.zero_add, Nat.reduceAdd, e5, c1, c2 84 (by omega)]
    · rw [hc1, st_same]
    · intro k hk i hi
      rw [st_row _ _ _ _ (by omega)]
      by_cases z : k < m
      · rw [c4 _ (by omega)]
        exact hE k z i hi
      · obtain rfl : k = m := by omega
        rw [c3 i hi, hD1, Nat.zero_add, fr 86 (by omega) (by omega)]
        exact hB i hi
    · intro i hi
      rw [st_ne _ _ _ _ (Or.inr hi), c2 84 (by omega)]
      exact f84 i hi
    · intro k k1 k2
      rw [st_row _ _ _ _ k1, c2 k k2]
      exact fr k k1 k2
  obtain ⟨h1, h2⟩ := hH
  unfold f6_changes
  simp (disch := omega) only [q_lit, q_gt, q_bd, q_bxl, q_bxr, q_vib, q_cl, q_pos, q_lt, q_le, q_eq, q_neg, q_neg1, q_negz, q_negeq0, q_neg0le, q_rem, q_div, q_sub, q_if1, q_if0, q_okB0, q_okB1, q_dz, q_dn, q_nb, and_true, true_and, and_false, false_and, nI_add, pk_mul, if_true, if_false, ite_true, ite_false, Nat.add_zero, Nat.zero_add, Nat.reduceAdd, h1]
  by_cases z : c < 8
  · rw [if_neg (by omega)]
    refine tail σ c z h1 (fun _ _ => rfl) (fun _ _ _ => rfl) (fun k hk i hi => ?_) (by unfold pushC; rw [if_pos z]) (by unfold pushE; rw [if_pos z, if_neg (by omega)])
    rw [h2 k hk i hi]
    unfold pushE
    rw [if_pos z, if_pos hk]
  · obtain rfl : c = 8 := by omega
    rw [if_pos rfl]
    obtain ⟨σ1, ⟨⟨i0, i1⟩, i2, i3⟩, h⟩ := lpx (fun _ _ => none) (f6_changes_B11 N (fun σL11 => f6_changes_J56 N (st σL11 84 5 ((σL11 84 5) - nI 1)))) (fun t j σ => t (nI j) σ) (fun σL11 => f6_changes_J56 N (st σL11 84 5 ((σL11 84 5) - nI 1))) 8 (fun m τ => (1 ≤ m ∧ ∀ k, k ≠ 88 → τ k = σ k) ∧ (∀ k, k + 1 < m → ∀ i, i < 166 → τ 88 (166 * k + i) = nI (Es (k + 1) i)) ∧ (∀ k, m ≤ k → k < 8 → ∀ i, i < 166 → τ 88 (166 * k + i) = nI (Es k i))) (by
      intro r τ hI
      show f6_changes_B11 _ _ _ _ _ = _
      unfold f6_changes_B11
      simp (disch := omega) only [q_lit, q_gt, q_bd, q_bxl, q_bxr, q_vib, q_cl, q_pos, q_lt, q_le, q_eq, q_neg, q_neg1, q_negz, q_negeq0, q_neg0le, q_rem, q_div, q_sub, q_if1, q_if0, q_okB0, q_okB1, q_dz, q_dn, q_nb, and_true, true_and, and_false, false_and, nI_add, pk_mul, if_true, if_false, ite_true, ite_false, Nat.add_zero, Nat.zero_add, Nat.reduceAdd]) (by
      intro r j τ hj hI
      obtain ⟨⟨j0, i1⟩, i2, i3⟩ := hI
      · obtain ⟨τ', c1, c2, c3, c4⟩ := s6_copies (σ := τ) N 88 1328 88 1328 (166 * j) (166 * (j - 1)) hN (by omega) (by omega) (by omega) (by omega) (by omega)
        refine ⟨τ', ⟨⟨by omega, ?_⟩, ?_, ?_⟩, ?_⟩
        · intro k hk
          rw [c2 k hk]
          exact i1 k hk
        · intro k hk i hi
          by_cases e : k = j - 1
          · rw [e, c3 i hi, i3 j (by omega) hj i hi, show j - 1 + 1 = j by omega]
          · rw [c4 _ (by omega)]
            exact i2 k (by omega) i hi
        · intro k hk hk8 i hi
          rw [c4 _ (by omega)]
          exact i3 k (by omega) hk8 i hi
        · show f6_changes_B11 _ _ _ _ _ = _
          unfold f6_changes_B11
          simp (disch := omega) only [q_lit, q_gt, q_bd, q_bxl, q_bxr, q_vib, q_cl, q_pos, q_lt, q_le, q_eq, q_neg, q_neg1, q_negz, q_negeq0, q_neg0le, q_rem, q_div, q_sub, q_if1, q_if0, q_okB0, q_okB1, q_dz, q_dn, q_nb, and_true, true_and, and_false, false_and, nI_add, pk_mul, if_true, if_false, ite_true, ite_false, Nat.add_zero, Nat.zero_add, Nat.reduceAdd, c1]) 7 1 N σ (by omega) (by omega) ⟨⟨Nat.le_refl 1, fun _ _ => rfl⟩, fun k hk => by omega, fun k hk hk8 i hi => h2 k hk8 i hi⟩
    obtain ⟨σ', t1, t2⟩ := tail (st σ1 84 5 (nI 7)) 7 (by omega) (st_same _ _ _ _) (fun i hi => by rw [st_ne _ _ _ _ (Or.inr hi), i1 84 (by omega)]) (fun k k1 k2 => by rw [st_row _ _ _ _ k1]; exact i1 k k2) (fun k hk i hi => by
      rw [st_row _ _ _ _ (by omega), i2 k (by omega) i hi]
      unfold pushE
      rw [if_neg (by omega), if_pos hk]) rfl rfl
    refine ⟨σ', ?_, t2⟩
    rw [← t1]
    refine Eq.trans (show f6_changes_L11 N _ N (nI 1) σ = _ from h) ?_
    simp (disch := omega) only [q_lit, q_gt, q_bd, q_bxl, q_bxr, q_vib, q_cl, q_pos, q_lt, q_le, q_eq, q_neg, q_neg1, q_negz, q_negeq0, q_neg0le, q_rem, q_div, q_sub, q_if1, q_if0, q_okB0, q_okB1, q_dz, q_dn, q_nb, and_true, true_and, and_false, false_and, nI_add, pk_mul, if_true, if_false, ite_true, ite_false, Nat.add_zero, Nat.zero_add, Nat.reduceAdd, i1 84 (by omega), h1]
theorem s6_ends (N c : Nat) (hN : 500 ≤ N) (x : Int32) (Es : Nat → Nat → Nat) (hB : NwR σ 86 D) (hc : c ≤ 8) (hH : HiM σ c Es) (h0 : σ 84 0 = nI 0) : ∃ σ', f6_ends N x σ = some (x, σ') ∧ HiM σ' (pushC c) (pushE c Es D) ∧ (∀ i, i ≠ 5 → σ' 84 i = σ 84 i) ∧ ∀ k, k ≠ 84 → k ≠ 88 → σ' k = σ k := by
  obtain ⟨σ', c1, c2⟩ := s6_changes N c hN Es hB hc hH
  refine ⟨σ', ?_, c2⟩
  unfold f6_ends
  simp (disch := omega) only [q_lit, q_gt, q_bd, q_bxl, q_bxr, q_vib, q_cl, q_pos, q_lt, q_le, q_eq, q_neg, q_neg1, q_negz, q_negeq0, q_neg0le, q_rem, q_div, q_sub, q_if1, q_if0, q_okB0, q_okB1, q_dz, q_dn, q_nb, and_true, true_and, and_false, false_and, nI_add, pk_mul, if_true, if_false, ite_true, ite_false, Nat.add_zero, Nat.zero_add, Nat.reduceAdd, h0, c1]
theorem s6_ends1 (N e : Nat) (x : Int32) (h0 : σ 84 0 = nI e) (he : 0 < e) (he2 : e < 10) : f6_ends N x σ = some (x, σ) := by
  unfold f6_ends
  simp (disch := omega) only [q_lit, q_gt, q_bd, q_bxl, q_bxr, q_vib, q_cl, q_pos, q_lt, q_le, q_eq, q_neg, q_neg1, q_negz, q_negeq0, q_neg0le, q_rem, q_div, q_sub, q_if1, q_if0, q_okB0, q_okB1, q_dz, q_dn, q_nb, and_true, true_and, and_false, false_and, nI_add, pk_mul, if_true, if_false, ite_true, ite_false, Nat.add_zero, Nat.zero_add, Nat.reduceAdd, h0]
end H1
