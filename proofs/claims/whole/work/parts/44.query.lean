/-! THE PURE PART. Queries: cell, owner, ranked, part, story, fate, trim. -/
/-- the reference's state once it has laid out -/
def Asked (τ : Hp) (D : Nat → Nat) (Y : Ly) : Prop := NwR τ 85 D ∧ RfR (fun s => dS D s 0 = 1) τ Y ∧ τ 84 14 = nI (nS D) ∧ (∀ k, k < nS D → τ 91 k = nI (ordN D k))
/-- the class's side of the same -/
def Cls (σ : Hp) (D : Nat → Nat) (Y : Ly) : Prop := DOk D ∧ EdR σ 1 D ∧ PgW 56 σ Y ∧ (∀ s, s < 12 → dS D s 0 = 1 → σ 60 s = nI (cnt D s)) ∧ (∀ k, k < nS D → σ 59 k = nI (ordN D k)) ∧ (∀ s, s < 12 → GoodS D Y s) ∧ (∀ t, t < 480 → CO (lc Y) (lo Y) t)
theorem qryX {σ : Hp} (hI : Inv σ) (N : Nat) (hN : 500 ≤ N) (A B2 : Hp → Option (Int32 × Hp)) (h : ∀ D Y, Cls σ D Y → (∀ s, s < 12 → dS D s 0 ≠ 1 → ln Y s = 0) → ∃ f r, f < 10 ∧ A σ = some (nI f, if f = 0 then st σ 100 0 r else σ) ∧ ∀ τ, Asked τ D Y → B2 τ = if f = 0 then some (r, τ) else some (nI 0, st τ 84 0 (nI f))) : Agree A (fun σ => bd (f6_asks N σ) (fun _ τ => B2 τ)) σ := by
  obtain ⟨D, ⟨h1, h2, h3⟩, ⟨Y0, y1, y2, y3, y4⟩, h5, h7⟩ := id hI
  have hC : Cls σ D (layN D 99 Y0 (nS D)) := ⟨h1, h2, y2, y3, y4, fun s hs => good_lay h1 y1 (nS D) (Nat.le_refl _) s hs, fun t ht => co_lay y1 ht (nS D) (Nat.le_refl _)⟩
  obtain ⟨f, r, hf, hA, hB⟩ := h D _ hC (fun s _ q => (layN_fresh (D := D) (w := 99) y1 (nS D) s (fun j hj => Or.inr (fun e => q (by have := ((ordN_I D).1 j hj).2; rw [e] at this; exact this)))).1)
  have go : ∀ σ1, (∀ k, k ≠ 100 → σ1 k = σ k) → ∃ τ, f6_asks N σ1 = some ((), τ) ∧ Asked τ D (layN D 99 Y0 (nS D)) ∧ τ 84 0 = nI 0 ∧ (∀ k, k < 84 ∨ (84 < k ∧ k < 89) ∨ 95 < k → τ k = σ1 k) ∧ (∀ i, i ≠ 0 → i ≠ 14 → τ 84 i = σ 84 i) := by
    intro σ1 e
    have hN1 : NwR (st σ1 84 0 (nI 0)) 85 D := h3.congr (by rw [st_row _ _ _ _ (by omega)]; exact e 85 (by omega))
    obtain ⟨τ, a1, a2, a3, a4, a5, a6⟩ := s6_lays hN1 h1 N 99 (-nI 1) (fun s hs => ⟨fun q => by rw [q_neg (by omega)] at q; exact q.elim, fun q => by omega⟩) hN Y0 y1
    refine ⟨τ, ?_, ⟨hN1.congr (a2 85 (by omega)), ⟨a6.1, a6.2.1, fun s hs hp => a6.2.2 s hs ⟨by omega, hp⟩⟩, a4, a5⟩, ?_, fun k hk => ?_, fun i i1 i2 => ?_⟩
    · unfold f6_asks
      rw [show f6_lays N (-1) (st σ1 84 0 0) = some ((), τ) from a1, q_bd]
    · rw [a3 0 (by omega), st_same]
    · rw [a2 k hk, st_row _ _ _ _ (by omega)]
    · rw [a3 i i2, st_ne _ _ _ _ (Or.inr i1), e 84 (by omega)]
  by_cases z : f = 0
  · rw [if_pos z] at hA
    obtain ⟨τ, t1, t2, t3, t4, t5⟩ := go (st σ 100 0 r) (fun k hk => st_row _ _ _ _ hk)
    have hb := hB τ t2
    rw [if_pos z] at hb
    refine ⟨f, _, r, τ, hf, hA, ?_, by rw [t3, z], fun _ => by rw [t4 100 (by omega), st_same], inv_keep hI (fun k hk => by rw [t4 k (by omega), st_row _ _ _ _ (by omega)]) t5⟩
    show bd (f6_asks N (st σ 100 0 r)) _ = _
    rw [t1, q_bd]
    exact hb
  · rw [if_neg z] at hA
    obtain ⟨τ, t1, t2, t3, t4, t5⟩ := go σ (fun _ _ => rfl)
    have hb := hB τ t2
    rw [if_neg z] at hb
    refine ⟨f, _, nI 0, st τ 84 0 (nI f), hf, hA, ?_, st_same _ _ _ _, fun q => absurd q z, inv_keep hI (fun k hk => by rw [st_row _ _ _ _ (by omega), t4 k (by omega)]) (fun i i1 i2 => by rw [st_ne _ _ _ _ (Or.inr i1)]; exact t5 i i1 i2)⟩
    show bd (f6_asks N σ) _ = _
    rw [t1, q_bd]
    exact hb
theorem qry {σ : Hp} (hI : Inv σ) (N : Nat) (hN : 500 ≤ N) (A B2 : Hp → Option (Int32 × Hp)) (h : ∀ D Y, Cls σ D Y → ∃ f r, f < 10 ∧ A σ = some (nI f, if f = 0 then st σ 100 0 r else σ) ∧ ∀ τ, Asked τ D Y → B2 τ = if f = 0 then some (r, τ) else some (nI 0, st τ 84 0 (nI f))) : Agree A (fun σ => bd (f6_asks N σ) (fun _ τ => B2 τ)) σ :=
  qryX hI N hN A B2 (fun D Y hC _ => h D Y hC)
section Q1
variable {σ : Hp}
def cellOk (x1 x2 x3 : Int32) : Bool := inB x1 0 3 && (inB x2 0 4 && inB x3 0 23)
theorem s6_isCell (N : Nat) (x1 x2 x3 : Int32) : f6_isCell N x1 x2 x3 σ = some (nI (b2 (cellOk x1 x2 x3)), σ) := by
  unfold f6_isCell cellOk
  rw [show f6_in N x1 0 3 σ = some (nI (b2 (inB x1 0 3)), σ) from s6_in N x1 0 3, q_bd]
  cases inB x1 0 3
  · rfl
  · rw [if_neg (show ¬ nI (b2 true) = 0 by decide), show f6_in N x2 0 4 σ = some (nI (b2 (inB x2 0 4)), σ) from s6_in N x2 0 4, q_bd]
    cases inB x2 0 4
    · rfl
    · rw [if_neg (show ¬ nI (b2 true) = 0 by decide), show f6_in N x3 0 23 σ = some (nI (b2 (inB x3 0 23)), σ) from s6_in N x3 0 23, q_bd]
      cases inB x3 0 23
      · rfl
      · rfl
theorem in_cls5 {α : Type} (x : Int32) {b : Nat} (hb : b + 1 < 2 ^ 31) (y z : α) : (if x < nI 0 then y else if x ≤ nI b then z else y) = if inB x 0 b then z else y := by
  rw [← in_cls x hb]
  by_cases h : x < nI 0
  · rw [if_pos h, if_pos h]
  · rw [if_neg h, if_neg h]
    have t1 := nI_toInt (n := b) (by omega)
    have t2 := nI_toInt (n := b + 1) (by omega)
    have iff : nI (b + 1) ≤ x ↔ ¬ x ≤ nI b := by
      rw [Int32.le_iff_toInt_le, Int32.le_iff_toInt_le, t1, t2]
      omega
    by_cases h2 : x ≤ nI b
    · rw [if_pos h2, if_neg (fun q => iff.mp q h2)]
    · rw [if_neg h2, if_pos (iff.mpr h2)]
theorem in_cls4 {α : Type} (x : Int32) {b : Nat} (hb : b + 1 < 2 ^ 31) (y z : α) : (if x < nI 0 then y else if x < nI (b + 1) then z else y) = if inB x 0 b then z else y := by
  rw [← in_cls x hb]
  by_cases h : x < nI 0
  · rw [if_pos h, if_pos h]
  · rw [if_neg h, if_neg h]
    by_cases h2 : x < nI (b + 1)
    · rw [if_pos h2, if_neg (fun q => (not_lt_le x (nI (b + 1))).mpr q h2)]
    · rw [if_neg h2, if_pos ((not_lt_le x (nI (b + 1))).mp h2)]
theorem s5_needCell (N : Nat) (x1 x2 x3 : Int32) : f5_needCell N x1 x2 x3 σ = if cellOk x1 x2 x3 then some (.inl (), σ) else some (.inr 1, σ) := by
  unfold f5_needCell cellOk
  rw [s5_isPage, q_bd]
  cases inB x1 0 3
  · rfl
  · rw [if_neg (show ¬ nI (b2 true) = 0 by decide)]
    refine Eq.trans (show _ = _ from in_cls x2 (b := 4) (by omega) _ _) ?_
    cases inB x2 0 4
    · rfl
    · refine Eq.trans (show _ = _ from in_cls4 x3 (b := 23) (by omega) _ _) ?_
      cases inB x3 0 23
      · rfl
      · rfl
theorem cellOk_some {x1 x2 x3 : Int32} (h : cellOk x1 x2 x3 = true) : ∃ p c r : Nat, p ≤ 3 ∧ c ≤ 4 ∧ r ≤ 23 ∧ x1 = nI p ∧ x2 = nI c ∧ x3 = nI r := by
  unfold cellOk at h
  rw [Bool.and_eq_true, Bool.and_eq_true] at h
  obtain ⟨p, p1, p2, p3⟩ := inB_some h.1 (by decide) (by decide)
  obtain ⟨c, c1, c2, c3⟩ := inB_some h.2.1 (by decide) (by decide)
  obtain ⟨r, r1, r2, r3⟩ := inB_some h.2.2 (by decide) (by decide)
  exact ⟨p, c, r, p2, c2, r2, p3, c3, r3⟩
theorem s3_kindAt {g : Nat} {Y : Ly} (hP : PgW g σ Y) (N : Nat) {i : Nat} (hi : i < 480) : f3_kindAt N g (nI i) σ = some (lc Y i, σ) := by
  unfold f3_kindAt f5_isCellIndex
  simp (disch := omega) only [q_lit, q_gt, q_bd, q_bxl, q_bxr, q_vib, q_cl, q_pos, q_lt, q_le, q_eq, q_neg, q_neg1, q_negz, q_negeq0, q_neg0le, q_rem, q_div, q_sub, q_if1, q_if0, q_okB0, q_okB1, q_dz, q_dn, q_nb, and_true, true_and, and_false, false_and, nI_add, pk_mul, if_true, if_false, ite_true, ite_false, Nat.add_zero, Nat.zero_add, Nat.reduceAdd]
  rw [hP.1]
theorem s3_ownerAt {g : Nat} {Y : Ly} (hP : PgW g σ Y) (N : Nat) {i : Nat} (hi : i < 480) (hz : lc Y i ≠ nI 0) : f3_ownerAt N g (nI i) σ = some (lo Y i, σ) := by
  unfold f3_ownerAt f5_isCellIndex
  simp (disch := omega) only [q_lit, q_gt, q_bd, q_bxl, q_bxr, q_vib, q_cl, q_pos, q_lt, q_le, q_eq, q_neg, q_neg1, q_negz, q_negeq0, q_neg0le, q_rem, q_div, q_sub, q_if1, q_if0, q_okB0, q_okB1, q_dz, q_dn, q_nb, and_true, true_and, and_false, false_and, nI_add, pk_mul, if_true, if_false, ite_true, ite_false, Nat.add_zero, Nat.zero_add, Nat.reduceAdd]
  rw [hP.2.1 i hz]
theorem case_cell (hI : Inv σ) (N : Nat) (hN : 500 ≤ N) (x1 x2 x3 : Int32) : Agree (fL_cell N x1 x2 x3) (f6_cell N x1 x2 x3) σ := by
  refine qry hI N hN (fL_cell N x1 x2 x3) (fun σ1 => bd (f6_isCell N x1 x2 x3 σ1) (fun r7 σ7 => if r7 = 0 then bd (f6_fails N 1 σ7) (fun r29 σ29 => some (r29, σ29)) else bd (f6_at N x1 x2 x3 σ7) (fun r20 σ20 => gd (vib r20 480) (some (σ20 89 r20.toNatClampNeg, σ20))))) (fun D Y hC => ?_)
  cases e : cellOk x1 x2 x3
  · refine ⟨1, 0, by omega, ?_, fun τ hτ => ?_⟩
    · unfold fL_cell f5_cell
      rw [s5_needCell, e]
      rfl
    · rw [s6_isCell, q_bd, e]
      rfl
  · obtain ⟨p, c, r, hp, hc, hr, rfl, rfl, rfl⟩ := cellOk_some e
    refine ⟨0, lc Y (p * 120 + r * 5 + c), by omega, ?_, fun τ hτ => ?_⟩
    · unfold fL_cell f5_cell f5_cellIndex
      rw [s5_needCell, e, if_pos rfl]
      simp (disch := omega) only [q_lit, q_gt, q_bd, q_bxl, q_bxr, q_vib, q_cl, q_pos, q_lt, q_le, q_eq, q_neg, q_neg1, q_negz, q_negeq0, q_neg0le, q_rem, q_div, q_sub, q_if1, q_if0, q_okB0, q_okB1, q_dz, q_dn, q_nb, and_true, true_and, and_false, false_and, nI_add, pk_mul, if_true, if_false, ite_true, ite_false, Nat.add_zero, Nat.zero_add, Nat.reduceAdd, s3_kindAt hC.2.2.1]
      rfl
    · rw [s6_isCell, q_bd, e]
      unfold f6_at
      simp (disch := omega) only [q_lit, q_gt, q_bd, q_bxl, q_bxr, q_vib, q_cl, q_pos, q_lt, q_le, q_eq, q_neg, q_neg1, q_negz, q_negeq0, q_neg0le, q_rem, q_div, q_sub, q_if1, q_if0, q_okB0, q_okB1, q_dz, q_dn, q_nb, and_true, true_and, and_false, false_and, nI_add, pk_mul, if_true, if_false, ite_true, ite_false, Nat.add_zero, Nat.zero_add, Nat.reduceAdd, b2]
      rw [show (24 * p + r) * 5 + c = p * 120 + r * 5 + c by omega, hτ.2.1.1 _ (by omega)]
theorem case_owner (hI : Inv σ) (N : Nat) (hN : 500 ≤ N) (x1 x2 x3 : Int32) : Agree (fL_owner N x1 x2 x3) (f6_owner N x1 x2 x3) σ := by
  refine qry hI N hN (fL_owner N x1 x2 x3) (fun σ1 => bd (f6_isCell N x1 x2 x3 σ1) (fun r7 σ7 => if r7 = 0 then bd (f6_fails N 1 σ7) (fun r15 σ15 => some (r15, σ15)) else bd (f6_at N x1 x2 x3 σ7) (fun r26 σ26 => gd (vib r26 480) (if 0 ≤ (σ26 90 r26.toNatClampNeg) then some (σ26 90 r26.toNatClampNeg, σ26) else bd (f6_fails N 2 σ26) (fun r39 σ39 => some (r39, σ39)))))) (fun D Y hC => ?_)
  cases e : cellOk x1 x2 x3
  · refine ⟨1, 0, by omega, ?_, fun τ hτ => ?_⟩
    · unfold fL_owner f5_owner
      rw [s5_needCell, e]
      rfl
    · rw [s6_isCell, q_bd, e]
      rfl
  · obtain ⟨p, c, r, hp, hc, hr, rfl, rfl, rfl⟩ := cellOk_some e
    have hco := hC.2.2.2.2.2.2 (p * 120 + r * 5 + c) (by omega)
    rcases hco with ⟨k0, o0⟩ | ⟨⟨k, hk, hk9, k0⟩, a, ha, o0⟩
    · refine ⟨2, 0, by omega, ?_, fun τ hτ => ?_⟩
      · unfold fL_owner f5_owner f5_cellIndex
        rw [s5_needCell, e, if_pos rfl]
        simp (disch := omega) only [q_lit, q_gt, q_bd, q_bxl, q_bxr, q_vib, q_cl, q_pos, q_lt, q_le, q_eq, q_neg, q_neg1, q_negz, q_negeq0, q_neg0le, q_rem, q_div, q_sub, q_if1, q_if0, q_okB0, q_okB1, q_dz, q_dn, q_nb, and_true, true_and, and_false, false_and, nI_add, pk_mul, if_true, if_false, ite_true, ite_false, Nat.add_zero, Nat.zero_add, Nat.reduceAdd, s3_kindAt hC.2.2.1, k0]
        rfl
      · rw [s6_isCell, q_bd, e]
        unfold f6_at f6_fails
        simp (disch := omega) only [q_lit, q_gt, q_bd, q_bxl, q_bxr, q_vib, q_cl, q_pos, q_lt, q_le, q_eq, q_neg, q_neg1, q_negz, q_negeq0, q_neg0le, q_rem, q_div, q_sub, q_if1, q_if0, q_okB0, q_okB1, q_dz, q_dn, q_nb, and_true, true_and, and_false, false_and, nI_add, pk_mul, if_true, if_false, ite_true, ite_false, Nat.add_zero, Nat.zero_add, Nat.reduceAdd, b2]
        rw [show (24 * p + r) * 5 + c = p * 120 + r * 5 + c by omega, hτ.2.1.2.1 _ (by omega), o0]
        simp (disch := omega) only [q_lit, q_gt, q_bd, q_bxl, q_bxr, q_vib, q_cl, q_pos, q_lt, q_le, q_eq, q_neg, q_neg1, q_negz, q_negeq0, q_neg0le, q_rem, q_div, q_sub, q_if1, q_if0, q_okB0, q_okB1, q_dz, q_dn, q_nb, and_true, true_and, and_false, false_and, nI_add, pk_mul, if_true, if_false, ite_true, ite_false, Nat.add_zero, Nat.zero_add, Nat.reduceAdd]
    · refine ⟨0, nI a, by omega, ?_, fun τ hτ => ?_⟩
      · unfold fL_owner f5_owner f5_cellIndex
        rw [s5_needCell, e, if_pos rfl]
        have hz : lc Y (p * 120 + r * 5 + c) ≠ nI 0 := by
          rw [k0]
          exact nI_ne0 hk (by omega)
        simp (disch := omega) only [q_lit, q_gt, q_bd, q_bxl, q_bxr, q_vib, q_cl, q_pos, q_lt, q_le, q_eq, q_neg, q_neg1, q_negz, q_negeq0, q_neg0le, q_rem, q_div, q_sub, q_if1, q_if0, q_okB0, q_okB1, q_dz, q_dn, q_nb, and_true, true_and, and_false, false_and, nI_add, pk_mul, if_true, if_false, ite_true, ite_false, Nat.add_zero, Nat.zero_add, Nat.reduceAdd, s3_kindAt hC.2.2.1, s3_ownerAt hC.2.2.1 N (i := p * 120 + r * 5 + c) (by omega) hz, k0, o0]
        rfl
      · rw [s6_isCell, q_bd, e]
        unfold f6_at
        simp (disch := omega) only [q_lit, q_gt, q_bd, q_bxl, q_bxr, q_vib, q_cl, q_pos, q_lt, q_le, q_eq, q_neg, q_neg1, q_negz, q_negeq0, q_neg0le, q_rem, q_div, q_sub, q_if1, q_if0, q_okB0, q_okB1, q_dz, q_dn, q_nb, and_true, true_and, and_false, false_and, nI_add, pk_mul, if_true, if_false, ite_true, ite_false, Nat.add_zero, Nat.zero_add, Nat.reduceAdd, b2]
        rw [show (24 * p + r) * 5 + c = p * 120 + r * 5 + c by omega, hτ.2.1.2.1 _ (by omega), o0]
        simp (disch := omega) only [q_lit, q_gt, q_bd, q_bxl, q_bxr, q_vib, q_cl, q_pos, q_lt, q_le, q_eq, q_neg, q_neg1, q_negz, q_negeq0, q_neg0le, q_rem, q_div, q_sub, q_if1, q_if0, q_okB0, q_okB1, q_dz, q_dn, q_nb, and_true, true_and, and_false, false_and, nI_add, pk_mul, if_true, if_false, ite_true, ite_false, Nat.add_zero, Nat.zero_add, Nat.reduceAdd]
theorem case_ranked (hI : Inv σ) (N : Nat) (hN : 500 ≤ N) (x1 : Int32) : Agree (fL_ranked N x1) (f6_ranked N x1) σ := by
  refine qry hI N hN (fL_ranked N x1) (fun σ1 => bd (f6_in N x1 0 ((σ1 84 14) - 1) σ1) (fun r12 σ12 => if r12 = 0 then bd (f6_fails N 1 σ12) (fun r29 σ29 => some (r29, σ29)) else gd (vib x1 12) (some (σ12 91 x1.toNatClampNeg, σ12)))) (fun D Y hC => ?_)
  have hle := nS_le D
  have cls : ∀ (o : Int32), (inB x1 0 11 = true → ∀ k, x1 = nI k → k < nS D → o = nI (ordN D k)) → True := fun _ _ => trivial
  by_cases z : ∃ k, k < nS D ∧ x1 = nI k
  · obtain ⟨k, hk, rfl⟩ := z
    refine ⟨0, nI (ordN D k), by omega, ?_, fun τ hτ => ?_⟩
    · unfold fL_ranked f5_ranked f3_storyOfRank
      simp (disch := omega) only [q_lit, q_gt, q_bd, q_bxl, q_bxr, q_vib, q_cl, q_pos, q_lt, q_le, q_eq, q_neg, q_neg1, q_negz, q_negeq0, q_neg0le, q_rem, q_div, q_sub, q_if1, q_if0, q_okB0, q_okB1, q_dz, q_dn, q_nb, and_true, true_and, and_false, false_and, nI_add, pk_mul, if_true, if_false, ite_true, ite_false, Nat.add_zero, Nat.zero_add, Nat.reduceAdd, s1_storyCount 1 hC.2.1 hC.1 N hN, s5_isStoryIndex, hC.2.2.2.2.1 k hk]
      rfl
    · have e1 : inB (nI k) 0 (nS D - 1) = true := by rw [inB_nI (by omega) (by omega) (by omega)]; exact decide_eq_true (by omega)
      rw [hτ.2.2.1, show nI (nS D) - 1 = nI (nS D - 1) from q_sub (a := nS D) (b := 1) (by omega), show f6_in N (nI k) 0 (nI (nS D - 1)) τ = some (nI (b2 (inB (nI k) 0 (nS D - 1))), τ) from s6_in N (nI k) 0 (nS D - 1), q_bd, e1]
      simp (disch := omega) only [q_lit, q_gt, q_bd, q_bxl, q_bxr, q_vib, q_cl, q_pos, q_lt, q_le, q_eq, q_neg, q_neg1, q_negz, q_negeq0, q_neg0le, q_rem, q_div, q_sub, q_if1, q_if0, q_okB0, q_okB1, q_dz, q_dn, q_nb, and_true, true_and, and_false, false_and, nI_add, pk_mul, if_true, if_false, ite_true, ite_false, Nat.add_zero, Nat.zero_add, Nat.reduceAdd, b2, hτ.2.2.2 k hk]
  · refine ⟨1, 0, by omega, ?_, fun τ hτ => ?_⟩
    · unfold fL_ranked f5_ranked
      rw [s1_storyCount 1 hC.2.1 hC.1 N hN]
      by_cases q : x1 < 0
      · rw [if_pos q]
        rfl
      · obtain ⟨k, hk, rfl⟩ := nI_of q
        rw [if_neg q, q_bd, if_neg (fun q2 => z ⟨k, by rw [nI_ltI hk (by omega)] at q2; exact q2, rfl⟩)]
        rfl
    · have e1 : ∀ (y : Int32), f6_in N x1 0 y τ = some (0, τ) ∨ (∃ k, x1 = nI k ∧ k < 2 ^ 31 ∧ ¬ y < nI k) := by
        intro y
        unfold f6_in
        by_cases q : x1 < 0
        · exact Or.inl (if_pos q)
        · obtain ⟨k, hk, rfl⟩ := nI_of q
          by_cases q2 : y < nI k
          · left
            rw [if_neg q, if_pos q2]
          · exact Or.inr ⟨k, rfl, hk, q2⟩
      rcases e1 (nI (nS D) - 1) with w | ⟨k, rfl, hk, w⟩
      · rw [hτ.2.2.1, w, q_bd]
        rfl
      · exfalso
        by_cases n0 : nS D = 0
        · rw [n0] at w
          apply w
          rw [Int32.lt_iff_toInt_lt, nI_toInt hk]
          have : (nI 0 - 1 : Int32).toInt = -1 := by decide
          omega
        · rw [show nI (nS D) - 1 = nI (nS D - 1) from q_sub (a := nS D) (b := 1) (by omega), nI_ltI (by omega) hk] at w
          exact z ⟨k, by omega, rfl⟩
theorem s3_partCount {g : Nat} {Y : Ly} (hP : PgW g σ Y) (N : Nat) {s : Nat} (hs : s < 12) : f3_partCountOf N g (nI s) σ = some (nI (ln Y s), σ) := by
  unfold f3_partCountOf
  simp (disch := omega) only [q_lit, q_gt, q_bd, q_bxl, q_bxr, q_vib, q_cl, q_pos, q_lt, q_le, q_eq, q_neg, q_neg1, q_negz, q_negeq0, q_neg0le, q_rem, q_div, q_sub, q_if1, q_if0, q_okB0, q_okB1, q_dz, q_dn, q_nb, and_true, true_and, and_false, false_and, nI_add, pk_mul, if_true, if_false, ite_true, ite_false, Nat.add_zero, Nat.zero_add, Nat.reduceAdd, s5_isStoryIndex, (hP.2.2.1 s hs).1]
theorem s3_partNoY {g : Nat} {Y : Ly} (hP : PgW g σ Y) (N : Nat) {s q k : Nat} (hs : s < 12) (hq : q < ln Y s) (hk : k < 9) : f3_partNumber N g (nI s) (nI q) (nI k) σ = some (nI (lp Y s q k), σ) :=
  s3_partNo N s q k _ hs (by have := (hP.2.2.1 s hs).2.2.2; omega) hk (hP.2.2.2 s q k hs hq hk)
theorem case_part (hI : Inv σ) (N : Nat) (hN : 500 ≤ N) (x1 x2 x3 : Int32) : Agree (fL_part N x1 x2 x3) (f6_part N x1 x2 x3) σ := by
  refine qry hI N hN (fL_part N x1 x2 x3) (fun σ1 => bd (f6_isStory N x1 σ1) (fun r6 σ6 => if r6 = 0 then f6_part_J28 N x1 x2 x3 σ6 else gd (vib x1 12) (bd (f6_in N x2 0 ((σ6 93 x1.toNatClampNeg) - 1) σ6) (fun r22 σ22 => if r22 = 0 then f6_part_J28 N x1 x2 x3 σ22 else bd (f6_in N x3 0 7 σ22) (fun r38 σ38 => if r38 = 0 then bd (f6_fails N 2 σ38) (fun r64 σ64 => some (r64, σ64)) else gd (vib ((8 * ((4 * x1) + x2)) + x3) 384) (some (σ38 94 ((8 * ((4 * x1) + x2)) + x3).toNatClampNeg, σ38))))))) (fun D Y hC => ?_)
  rcases isS_cases hC.1 x1 with q | ⟨q, s, hs, rfl, h0⟩
  · refine ⟨1, 0, by omega, ?_, fun τ hτ => ?_⟩
    · unfold fL_part f5_part
      rw [s5_needStory hC.2.1 hC.1, q]
      rfl
    · rw [s6_isStory hτ.1 hC.1, q_bd, q]
      rfl
  · have ref : ∀ τ, Asked τ D Y → τ 93 s = nI (ln Y s) := fun τ hτ => (hτ.2.1.2.2 s hs h0).1
    have l4 := (hC.2.2.1.2.2.1 s hs).2.2.2
    by_cases z : ∃ k, k < ln Y s ∧ x2 = nI k
    · obtain ⟨k, hk, rfl⟩ := z
      have e1 : inB (nI k) 0 (ln Y s - 1) = true := by rw [inB_nI (by omega) (by omega) (by omega)]; exact decide_eq_true (by omega)
      have refl : ∀ τ, Asked τ D Y → bd (f6_isStory N (nI s) τ) (fun r6 σ6 => if r6 = 0 then f6_part_J28 N (nI s) (nI k) x3 σ6 else gd (vib (nI s) 12) (bd (f6_in N (nI k) 0 ((σ6 93 (nI s).toNatClampNeg) - 1) σ6) (fun r22 σ22 => if r22 = 0 then f6_part_J28 N (nI s) (nI k) x3 σ22 else bd (f6_in N x3 0 7 σ22) (fun r38 σ38 => if r38 = 0 then bd (f6_fails N 2 σ38) (fun r64 σ64 => some (r64, σ64)) else gd (vib ((8 * ((4 * (nI s)) + (nI k))) + x3) 384) (some (σ38 94 ((8 * ((4 * (nI s)) + (nI k))) + x3).toNatClampNeg, σ38)))))) = bd (f6_in N x3 0 7 τ) (fun r38 σ38 => if r38 = 0 then bd (f6_fails N 2 σ38) (fun r64 σ64 => some (r64, σ64)) else gd (vib ((8 * ((4 * (nI s)) + (nI k))) + x3) 384) (some (σ38 94 ((8 * ((4 * (nI s)) + (nI k))) + x3).toNatClampNeg, σ38))) := by
        intro τ hτ
        rw [s6_isStory hτ.1 hC.1, q_bd, q, if_neg (show ¬ nI 1 = 0 by decide), q_vib hs (by omega), q_gt, q_cl (by omega), ref τ hτ, show nI (ln Y s) - 1 = nI (ln Y s - 1) from q_sub (a := ln Y s) (b := 1) (by omega), show f6_in N (nI k) 0 (nI (ln Y s - 1)) τ = some (nI (b2 (inB (nI k) 0 (ln Y s - 1))), τ) from s6_in N (nI k) 0 (ln Y s - 1), q_bd, e1, if_neg (show ¬ nI (b2 true) = 0 by decide)]
      cases e3 : inB x3 0 7
      · refine ⟨2, 0, by omega, ?_, fun τ hτ => ?_⟩
        · unfold fL_part f5_part
          rw [s5_needStory hC.2.1 hC.1, q, if_neg (show ¬ (1 : Nat) = 0 by decide), q_bxl]
          simp (disch := omega) only [q_lit, q_gt, q_bd, q_bxl, q_bxr, q_vib, q_cl, q_pos, q_lt, q_le, q_eq, q_neg, q_neg1, q_negz, q_negeq0, q_neg0le, q_rem, q_div, q_sub, q_if1, q_if0, q_okB0, q_okB1, q_dz, q_dn, q_nb, and_true, true_and, and_false, false_and, nI_add, pk_mul, if_true, if_false, ite_true, ite_false, Nat.add_zero, Nat.zero_add, Nat.reduceAdd, s3_partCount hC.2.2.1]
          have := in_cls5 (α := Option ((Int32 ⊕ Nat) × Hp)) x3 (b := 7) (by omega) (some (.inr 2, σ)) (bd (f3_partNumber N 56 (nI s) (nI k) x3 σ) (fun r54 σ54 => some (.inl r54, σ54)))
          rw [e3] at this
          refine Eq.trans (congrArg (fun x => bh x _ _) (show _ = _ from this)) ?_
          rfl
        · refine Eq.trans (refl τ hτ) ?_
          rw [show f6_in N x3 0 7 τ = some (nI (b2 (inB x3 0 7)), τ) from s6_in N x3 0 7, q_bd, e3]
          rfl
      · obtain ⟨v, v1, v2, rfl⟩ := inB_some e3 (by decide) (by decide)
        refine ⟨0, nI (lp Y s k v), by omega, ?_, fun τ hτ => ?_⟩
        · unfold fL_part f5_part
          rw [s5_needStory hC.2.1 hC.1, q, if_neg (show ¬ (1 : Nat) = 0 by decide), q_bxl]
          simp (disch := omega) only [q_lit, q_gt, q_bd, q_bxl, q_bxr, q_vib, q_cl, q_pos, q_lt, q_le, q_eq, q_neg, q_neg1, q_negz, q_negeq0, q_neg0le, q_rem, q_div, q_sub, q_if1, q_if0, q_okB0, q_okB1, q_dz, q_dn, q_nb, and_true, true_and, and_false, false_and, nI_add, pk_mul, if_true, if_false, ite_true, ite_false, Nat.add_zero, Nat.zero_add, Nat.reduceAdd, s3_partCount hC.2.2.1, s3_partNoY hC.2.2.1]
          rfl
        · refine Eq.trans (refl τ hτ) ?_
          rw [show f6_in N (nI v) 0 7 τ = some (nI (b2 (inB (nI v) 0 7)), τ) from s6_in N (nI v) 0 7, q_bd, e3]
          have := (hτ.2.1.2.2 s hs h0).2.2.2.2 k v hk (by omega)
          simp (disch := omega) only [q_lit, q_gt, q_bd, q_bxl, q_bxr, q_vib, q_cl, q_pos, q_lt, q_le, q_eq, q_neg, q_neg1, q_negz, q_negeq0, q_neg0le, q_rem, q_div, q_sub, q_if1, q_if0, q_okB0, q_okB1, q_dz, q_dn, q_nb, and_true, true_and, and_false, false_and, nI_add, pk_mul, if_true, if_false, ite_true, ite_false, Nat.add_zero, Nat.zero_add, Nat.reduceAdd, b2, this]
    · refine ⟨1, 0, by omega, ?_, fun τ hτ => ?_⟩
      · unfold fL_part f5_part
        rw [s5_needStory hC.2.1 hC.1, q, if_neg (show ¬ (1 : Nat) = 0 by decide), q_bxl]
        by_cases w : x2 < 0
        · rw [if_pos w]
          rfl
        · obtain ⟨k, hk, rfl⟩ := nI_of w
          rw [if_neg w, s3_partCount hC.2.2.1 N hs, q_bd, if_neg (fun q2 => z ⟨k, by rw [nI_ltI hk (by omega)] at q2; exact q2, rfl⟩)]
          rfl
      · rw [s6_isStory hτ.1 hC.1, q_bd, q, if_neg (show ¬ nI 1 = 0 by decide), q_vib hs (by omega), q_gt, q_cl (by omega), ref τ hτ]
        have e1 : f6_in N x2 0 (nI (ln Y s) - 1) τ = some (0, τ) := by
          unfold f6_in
          by_cases w : x2 < 0
          · exact if_pos w
          · obtain ⟨k, hk, rfl⟩ := nI_of w
            rw [if_neg w]
            by_cases n0 : ln Y s = 0
            · rw [n0]
              apply if_pos
              rw [Int32.lt_iff_toInt_lt, nI_toInt hk]
              have : (nI 0 - 1 : Int32).toInt = -1 := by decide
              omega
            · apply if_pos
              rw [show nI (ln Y s) - 1 = nI (ln Y s - 1) from q_sub (a := ln Y s) (b := 1) (by omega), nI_ltI (by omega) hk]
              have : ¬ k < ln Y s := fun h => z ⟨k, h, rfl⟩
              omega
        rw [e1, q_bd]
        rfl
end Q1
