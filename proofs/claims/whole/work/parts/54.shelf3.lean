/-! THE PURE PART. layDown: both sides agree. -/
theorem inv_shelf {σ σ' : Hp} (h : Inv σ) (e : ∀ k, k ≤ 64 ∨ (74 ≤ k ∧ k ≤ 76) ∨ (79 ≤ k ∧ k ≤ 83) ∨ k = 85 ∨ k = 87 ∨ k = 88 ∨ k = 98 → σ' k = σ k) (e84 : ∀ i, i ≠ 0 → i ≠ 14 → σ' 84 i = σ 84 i) (hS : Shf σ') : Inv σ' := by
  obtain ⟨D, ⟨h1, h2, h3⟩, h4, ⟨c, n, Es, h5, h6⟩, hSav, -, hInp, hRep⟩ := h
  refine ⟨D, ⟨h1, h2.congr (fun k k1 k2 => e k (by omega)), h3.congr (e 85 (by omega))⟩, h4.congr (fun k k1 k2 => e k (by omega)), ⟨c, n, Es, h5.congr (fun k hk => e k (by omega)), h6.congr (e 88 (by omega)) (e84 5 (by omega) (by omega))⟩, ?_, hS, ?_, ?_⟩
  · unfold Sav at hSav ⊢
    rw [e 0 (by omega), e84 6 (by omega) (by omega)]
    rcases hSav with h1 | ⟨a, b, E, e1, e2, e3⟩
    · exact Or.inl h1
    · exact Or.inr ⟨a, b, E, e1, e2.congr (fun k k1 k2 => e k (by omega)), e3.congr (e 87 (by omega))⟩
  · unfold Inp at hInp ⊢
    rw [e 79 (by omega), e84 19 (by omega) (by omega), e 80 (by omega), e 98 (by omega)]
    exact hInp
  · unfold Rep at hRep ⊢
    rw [e 0 (by omega), e84 21 (by omega) (by omega), e84 22 (by omega) (by omega)]
    exact hRep
theorem shf_h {σ : Hp} (h : Shf σ) (p : Nat) (hp : p < 12) : ∃ v, v ≤ 2 ∧ σ 77 p = nI v ∧ σ 96 p = nI v := by
  rcases h p hp with ⟨a, b⟩ | ⟨a, b, -⟩ | ⟨a, b, -⟩
  · exact ⟨0, by omega, a, b⟩
  · exact ⟨1, by omega, a, b⟩
  · exact ⟨2, by omega, a, b⟩
section SH3
variable {σ : Hp}
theorem s5_needShelf (N : Nat) (x1 x2 : Int32) : f5_needShelfPlace N x1 x2 σ = if inB x1 0 2 then (if inB x2 0 3 then some (.inl (), σ) else some (.inr 1, σ)) else some (.inr 1, σ) := by
  unfold f5_needShelfPlace
  refine Eq.trans (show _ = _ from in_cls x1 (b := 2) (by omega) _ _) ?_
  cases inB x1 0 2
  · rfl
  · exact in_cls4 x2 (b := 3) (by omega) _ _
/-- behind a story or an advertisement laid at spot p -/
theorem shf_new {D : Nat → Nat} {σ σ' : Hp} (hSh : Shf σ) (p : Nat) (w : Nat) (v : Nat → Nat) (n : Nat) (hp : p < 12) (hn : n ≤ 8) (hw : (w = 1 ∧ ShS v ∧ n = 8) ∨ (w = 2 ∧ ShA v ∧ n = 6)) (h77 : ∀ t, σ' 77 t = if t = p then nI w else σ 77 t) (h96 : ∀ t, σ' 96 t = if t = p then nI w else σ 96 t) (h78 : ∀ k, k < n → σ' 78 (p * 8 + k) = nI (v k)) (h78' : ∀ t, t < p * 8 ∨ p * 8 + 8 ≤ t → σ' 78 t = σ 78 t) (h97 : ∀ k, k < n → σ' 97 (9 * p + 1 + k) = nI (v k)) (h97' : ∀ t, t < 9 * p ∨ 9 * p + 9 ≤ t → σ' 97 t = σ 97 t) : Shf σ' := by
  intro q hq
  rw [h77, h96]
  by_cases z : q = p
  · subst z
    rw [if_pos rfl, if_pos rfl]
    rcases hw with ⟨rfl, a, rfl⟩ | ⟨rfl, a, rfl⟩
    · exact Or.inr (Or.inl ⟨rfl, rfl, v, a, fun k hk => ⟨h78 k hk, h97 k hk⟩⟩)
    · exact Or.inr (Or.inr ⟨rfl, rfl, v, a, fun k hk => ⟨h78 k hk, h97 k hk⟩⟩)
  · rw [if_neg z, if_neg z]
    rcases hSh q hq with a | ⟨a, b, u, u1, u2⟩ | ⟨a, b, u, u1, u2⟩
    · exact Or.inl a
    · refine Or.inr (Or.inl ⟨a, b, u, u1, fun k hk => ?_⟩)
      rw [h78' _ (by omega), h97' _ (by omega)]
      exact u2 k hk
    · refine Or.inr (Or.inr ⟨a, b, u, u1, fun k hk => ?_⟩)
      rw [h78' _ (by omega), h97' _ (by omega)]
      exact u2 k hk
end SH3
