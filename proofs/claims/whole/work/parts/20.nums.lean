/-! THE PURE PART. Numbers: literals as nI, and a tactic that evaluates plain programs over them. -/
theorem q_lit (n : Nat) : (OfNat.ofNat n : Int32) = nI (OfNat.ofNat n) := rfl
theorem q_gt {α : Type} (x : Option α) : gd true x = x := rfl
theorem q_bd {α β : Type} (a : α) (σ : Hp) (f : α → Hp → Option β) : bd (some (a, σ)) f = f a σ := rfl
theorem q_bxl {α β : Type} (a : α) (σ : Hp) (f : α → Hp → Option ((β ⊕ Nat) × Hp)) : bx (some (.inl a, σ)) f = f a σ := rfl
theorem q_bxr {α β : Type} (n : Nat) (σ : Hp) (f : α → Hp → Option ((β ⊕ Nat) × Hp)) : bx (some (.inr n, σ)) f = some (.inr n, σ) := rfl
theorem q_vib {i n : Nat} (h : i < n) (h2 : n < 2 ^ 31) : vib (nI i) n = true := by
  have h1 : (nI i).toNatClampNeg = i := nI_clamp (by omega)
  have h3 : ¬ nI i < 0 := nI_pos (by omega)
  simp only [vib, h1, h3, decide_false, Bool.false_or, Bool.not_eq_true', decide_eq_false_iff_not]
  omega
theorem q_cl {n : Nat} (h : n < 2 ^ 31) : (nI n).toNatClampNeg = n := nI_clamp h
theorem q_pos {n : Nat} (h : n < 2 ^ 31) : (nI n < nI 0) = False := eq_false (nI_pos h)
theorem q_lt {a b : Nat} (ha : a < 2 ^ 31) (hb : b < 2 ^ 31) : (nI a < nI b) = (a < b) := propext (nI_ltI ha hb)
theorem q_le {a b : Nat} (ha : a < 2 ^ 31) (hb : b < 2 ^ 31) : (nI a ≤ nI b) = (a ≤ b) := propext (nI_leI ha hb)
theorem q_eq {a b : Nat} (ha : a < 2 ^ 31) (hb : b < 2 ^ 31) : (nI a = nI b) = (a = b) := propext (nI_eq ha hb)
theorem q_neg {a : Nat} (ha : a < 2 ^ 31) : (nI a = -nI 1) = False := by
  apply eq_false
  intro h
  have h1 := congrArg Int32.toInt h
  rw [nI_toInt ha] at h1
  have h2 : (-nI 1).toInt = -1 := by decide
  omega
theorem q_neg1 : (-nI 1 = -nI 1) = True := eq_true rfl
theorem q_negz : (-nI 1 < nI 0) = True := eq_true (by decide)
theorem q_neg0le : (nI 0 ≤ -nI 1) = False := eq_false (by decide)
theorem q_negeq0 : (-nI 1 = nI 0) = False := eq_false (by decide)
theorem q_rem {a d : Nat} (ha : a < 2 ^ 31) (h0 : 0 < d) (hd : d < 2 ^ 31) : nI a - nI a / nI d * nI d = nI (a % d) := pk_rem ha h0 hd
theorem q_div {a d : Nat} (ha : a < 2 ^ 31) (h0 : 0 < d) (hd : d < 2 ^ 31) : nI a / nI d = nI (a / d) := pk_div ha h0 hd
theorem q_sub {a b : Nat} (h : b ≤ a) : nI a - nI b = nI (a - b) := pk_sub h
theorem q_if1 {α : Sort _} {c : Prop} [Decidable c] {a b : α} (h : c) : (if c then a else b) = a := if_pos h
theorem q_if0 {α : Sort _} {c : Prop} [Decidable c] {a b : α} (h : ¬ c) : (if c then a else b) = b := if_neg h
theorem q_okB0 : okB (nI 0) = true := by decide
theorem q_okB1 : okB (nI 1) = true := by decide
theorem q_dz {d : Nat} (h : 0 < d) (h2 : d < 2 ^ 31) : (!decide (nI d = nI 0)) = true := by
  have h3 : ¬ nI d = nI 0 := by
    rw [nI_eq h2 (by decide)]
    omega
  simp [h3]
theorem q_dn {a b : Nat} (h : a ≠ b) : (!decide (a = b)) = true := by simp [h]
theorem q_ifc {α : Sort _} {c d : Prop} [Decidable c] [Decidable d] {a b : α} (h : c ↔ d) : (if c then a else b) = (if d then a else b) := by
  by_cases e : c
  · rw [if_pos e, if_pos (h.mp e)]
  · rw [if_neg e, if_neg (fun z => e (h.mpr z))]
theorem q_nb0 : vp_nar .boolean (nI 0) = nI 0 := by decide
theorem q_nb1 : vp_nar .boolean (nI 1) = nI 1 := by decide
theorem q_nb {n : Nat} (h : n < 2) : vp_nar .boolean (nI n) = nI n := by
  rcases Nat.lt_or_ge n 1 with h1 | h1
  · obtain rfl : n = 0 := by omega
    exact q_nb0
  · obtain rfl : n = 1 := by omega
    exact q_nb1
theorem st_get (σ : Hp) (k i : Nat) (v : Int32) (k' i' : Nat) : st σ k i v k' i' = if k' = k ∧ i' = i then v else σ k' i' := by
  unfold st sr
  by_cases h : k' = k
  · subst h
    rw [if_pos rfl]
    by_cases e : i' = i
    · subst e
      rw [pk_us, if_pos ⟨rfl, rfl⟩]
    · rw [pk_un e, if_neg (fun q => e q.2)]
  · rw [if_neg h, if_neg (fun q => h q.1)]
theorem st_same (σ : Hp) (k i : Nat) (v : Int32) : st σ k i v k i = v := by rw [st_get, if_pos ⟨rfl, rfl⟩]
theorem st_row (σ : Hp) (k i : Nat) (v : Int32) {k' : Nat} (h : k' ≠ k) : st σ k i v k' = σ k' := by
  unfold st sr
  rw [if_neg h]
theorem st_ne (σ : Hp) (k i : Nat) (v : Int32) {k' i' : Nat} (h : k' ≠ k ∨ i' ≠ i) : st σ k i v k' i' = σ k' i' := by
  rw [st_get, if_neg]
  intro q
  rcases h with h | h
  · exact h q.1
  · exact h q.2
