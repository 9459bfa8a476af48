/-! THE PURE PART. Loops; editions; the two sides' accessors. -/
/-- a loop from i to m, its result Res told ahead -/
theorem lpg {T R : Type} (z : T) (B : T → T) (A : T → Nat → R) (Res : Nat → R) (m : Nat) (he : ∀ r, A (B r) m = Res m) (hb : ∀ r i, i < m → A r (i + 1) = Res (i + 1) → A (B r) i = Res i) : ∀ d i n : Nat, i + d = m → d < n → A (it z B n) i = Res i := by
  intro d
  induction d with
  | zero =>
    intro i n h1 h2
    obtain ⟨k, rfl⟩ : ∃ k, n = k + 1 := ⟨n - 1, by omega⟩
    obtain rfl : i = m := by omega
    rw [it_s]
    exact he _
  | succ d ih =>
    intro i n h1 h2
    obtain ⟨k, rfl⟩ : ∃ k, n = k + 1 := ⟨n - 1, by omega⟩
    rw [it_s]
    exact hb _ i (by omega) (ih (i + 1) k (by omega) (by omega))
/-- a loop with one state that it goes through -/
theorem lpc {T R : Type} (z : T) (B : T → T) (A : T → Nat → R) (E : R) (m : Nat) (he : ∀ r, A (B r) m = E) (hb : ∀ r i, i < m → A (B r) i = A r (i + 1)) {i n : Nat} (h1 : i ≤ m) (h2 : m < i + n) : A (it z B n) i = E :=
  lpg z B A (fun _ => E) m he (fun r i hi h => (hb r i hi).trans h) (m - i) i n (by omega) (by omega)
def dS (D : Nat → Nat) (s k : Nat) : Nat := D (2 + 9 * s + k)
def dA (D : Nat → Nat) (a k : Nat) : Nat := D (110 + 7 * a + k)
/-- an edition of the class, at cell b, holds D -/
def EdR (σ : Hp) (b : Nat) (D : Nat → Nat) : Prop :=
  σ b 4 = nI (D 0) ∧ σ b 5 = nI (D 1) ∧ (∀ s, s < 12 → σ (b + 1) s = nI (dS D s 0)) ∧ (∀ s k, s < 12 → k < 8 → σ (b + 2) (s * 8 + k) = nI (dS D s (k + 1))) ∧ (∀ a, a < 8 → σ (b + 3) a = nI (dA D a 0)) ∧ (∀ a k, a < 8 → k < 6 → σ (b + 4) (a * 6 + k) = nI (dA D a (k + 1)))
/-- a row of the reference holds D -/
def NwR (σ : Hp) (r : Nat) (D : Nat → Nat) : Prop := ∀ i, i < 166 → σ r i = nI (D i)
def SOk (D : Nat → Nat) (s : Nat) : Prop := dS D s 0 ≤ 1 ∧ dS D s 1 ≤ 3 ∧ dS D s 2 ≤ 3 ∧ dS D s 3 ≤ 3 ∧ dS D s 4 ≤ 150 ∧ dS D s 5 ≤ 9 ∧ dS D s 6 ≤ 8 ∧ dS D s 7 ≤ 2 ∧ dS D s 8 ≤ 1 ∧ (dS D s 0 = 1 → 1 ≤ dS D s 2 ∧ 1 ≤ dS D s 3 ∧ 1 ≤ dS D s 4)
def AOk (D : Nat → Nat) (a : Nat) : Prop := dA D a 0 ≤ 1 ∧ dA D a 1 ≤ 3 ∧ dA D a 2 ≤ 4 ∧ dA D a 3 ≤ 23 ∧ dA D a 2 + dA D a 4 ≤ 5 ∧ dA D a 3 + dA D a 5 ≤ 24 ∧ dA D a 6 ≤ 999 ∧ (dA D a 0 = 1 → 1 ≤ dA D a 4 ∧ 1 ≤ dA D a 5 ∧ 1 ≤ dA D a 6)
def DOk (D : Nat → Nat) : Prop := D 0 ≤ 12 ∧ D 1 ≤ 8 ∧ (∀ s, s < 12 → SOk D s) ∧ (∀ a, a < 8 → AOk D a)
def hd (D : Nat → Nat) (s : Nat) : Nat := dS D s 3 + dS D s 6 + dS D s 7
theorem EdR.congr {σ σ' : Hp} {b : Nat} {D : Nat → Nat} (h : EdR σ b D) (e : ∀ k, b ≤ k → k ≤ b + 4 → σ' k = σ k) : EdR σ' b D := by
  unfold EdR at h ⊢
  rw [e b (by omega) (by omega), e (b + 1) (by omega) (by omega), e (b + 2) (by omega) (by omega), e (b + 3) (by omega) (by omega), e (b + 4) (by omega) (by omega)]
  exact h
theorem NwR.congr {σ σ' : Hp} {r : Nat} {D : Nat → Nat} (h : NwR σ r D) (e : σ' r = σ r) : NwR σ' r D := by
  unfold NwR at h ⊢
  rw [e]
  exact h
section A1
variable {σ : Hp} {b : Nat} {D : Nat → Nat}
theorem s5_isStoryIndex {s : Nat} (h : s < 12) (N : Nat) (σ : Hp) : f5_isStoryIndex N (nI s) σ = some (nI 1, σ) := by
  unfold f5_isStoryIndex
  simp (disch := omega) only [q_lit, q_gt, q_bd, q_bxl, q_bxr, q_vib, q_cl, q_pos, q_lt, q_le, q_eq, q_neg, q_neg1, q_negz, q_negeq0, q_neg0le, q_rem, q_div, q_sub, q_if1, q_if0, q_okB0, q_okB1, q_dz, q_dn, q_nb, and_true, true_and, and_false, false_and, nI_add, pk_mul, if_true, if_false, ite_true, ite_false, Nat.add_zero, Nat.zero_add, Nat.reduceAdd]
theorem s5_isAdIndex {s : Nat} (h : s < 8) (N : Nat) (σ : Hp) : f5_isAdvertisementIndex N (nI s) σ = some (nI 1, σ) := by
  unfold f5_isAdvertisementIndex
  simp (disch := omega) only [q_lit, q_gt, q_bd, q_bxl, q_bxr, q_vib, q_cl, q_pos, q_lt, q_le, q_eq, q_neg, q_neg1, q_negz, q_negeq0, q_neg0le, q_rem, q_div, q_sub, q_if1, q_if0, q_okB0, q_okB1, q_dz, q_dn, q_nb, and_true, true_and, and_false, false_and, nI_add, pk_mul, if_true, if_false, ite_true, ite_false, Nat.add_zero, Nat.zero_add, Nat.reduceAdd]
theorem s1_sn (hE : EdR σ b D) {s w : Nat} (h : s < 12) (hw : w < 8) (N : Nat) : f1_storyNumber N b (nI s) (nI w) σ = some (nI (dS D s (w + 1)), σ) := by
  unfold f1_storyNumber
  simp (disch := omega) only [q_lit, q_gt, q_bd, q_bxl, q_bxr, q_vib, q_cl, q_pos, q_lt, q_le, q_eq, q_neg, q_neg1, q_negz, q_negeq0, q_neg0le, q_rem, q_div, q_sub, q_if1, q_if0, q_okB0, q_okB1, q_dz, q_dn, q_nb, and_true, true_and, and_false, false_and, nI_add, pk_mul, if_true, if_false, ite_true, ite_false, Nat.add_zero, Nat.zero_add, Nat.reduceAdd, s5_isStoryIndex]
  rw [hE.2.2.2.1 s w h hw]
theorem s1_an (hE : EdR σ b D) {s w : Nat} (h : s < 8) (hw : w < 6) (N : Nat) : f1_advertisementNumber N b (nI s) (nI w) σ = some (nI (dA D s (w + 1)), σ) := by
  unfold f1_advertisementNumber
  simp (disch := omega) only [q_lit, q_gt, q_bd, q_bxl, q_bxr, q_vib, q_cl, q_pos, q_lt, q_le, q_eq, q_neg, q_neg1, q_negz, q_negeq0, q_neg0le, q_rem, q_div, q_sub, q_if1, q_if0, q_okB0, q_okB1, q_dz, q_dn, q_nb, and_true, true_and, and_false, false_and, nI_add, pk_mul, if_true, if_false, ite_true, ite_false, Nat.add_zero, Nat.zero_add, Nat.reduceAdd, s5_isAdIndex]
  rw [hE.2.2.2.2.2 s w h hw]
theorem bit_cases {n : Nat} (h : n ≤ 1) : n = 0 ∨ n = 1 := by omega
theorem s1_hasStory (hE : EdR σ b D) (hD : DOk D) {s : Nat} (h : s < 12) (N : Nat) : f1_hasStory N b (nI s) σ = some (nI (dS D s 0), σ) := by
  unfold f1_hasStory
  simp (disch := omega) only [q_lit, q_gt, q_bd, q_bxl, q_bxr, q_vib, q_cl, q_pos, q_lt, q_le, q_eq, q_neg, q_neg1, q_negz, q_negeq0, q_neg0le, q_rem, q_div, q_sub, q_if1, q_if0, q_okB0, q_okB1, q_dz, q_dn, q_nb, and_true, true_and, and_false, false_and, nI_add, pk_mul, if_true, if_false, ite_true, ite_false, Nat.add_zero, Nat.zero_add, Nat.reduceAdd, s5_isStoryIndex]
  rw [hE.2.2.1 s h]
  rcases bit_cases (hD.2.2.1 s h).1 with e | e
  · rw [e]
    simp (disch := omega) only [q_lit, q_gt, q_bd, q_bxl, q_bxr, q_vib, q_cl, q_pos, q_lt, q_le, q_eq, q_neg, q_neg1, q_negz, q_negeq0, q_neg0le, q_rem, q_div, q_sub, q_if1, q_if0, q_okB0, q_okB1, q_dz, q_dn, q_nb, and_true, true_and, and_false, false_and, nI_add, pk_mul, if_true, if_false, ite_true, ite_false, Nat.add_zero, Nat.zero_add, Nat.reduceAdd]
  · rw [e]
    simp (disch := omega) only [q_lit, q_gt, q_bd, q_bxl, q_bxr, q_vib, q_cl, q_pos, q_lt, q_le, q_eq, q_neg, q_neg1, q_negz, q_negeq0, q_neg0le, q_rem, q_div, q_sub, q_if1, q_if0, q_okB0, q_okB1, q_dz, q_dn, q_nb, and_true, true_and, and_false, false_and, nI_add, pk_mul, if_true, if_false, ite_true, ite_false, Nat.add_zero, Nat.zero_add, Nat.reduceAdd]
theorem s1_hasAd (hE : EdR σ b D) (hD : DOk D) {s : Nat} (h : s < 8) (N : Nat) : f1_hasAdvertisement N b (nI s) σ = some (nI (dA D s 0), σ) := by
  unfold f1_hasAdvertisement
  simp (disch := omega) only [q_lit, q_gt, q_bd, q_bxl, q_bxr, q_vib, q_cl, q_pos, q_lt, q_le, q_eq, q_neg, q_neg1, q_negz, q_negeq0, q_neg0le, q_rem, q_div, q_sub, q_if1, q_if0, q_okB0, q_okB1, q_dz, q_dn, q_nb, and_true, true_and, and_false, false_and, nI_add, pk_mul, if_true, if_false, ite_true, ite_false, Nat.add_zero, Nat.zero_add, Nat.reduceAdd, s5_isAdIndex]
  rw [hE.2.2.2.2.1 s h]
  rcases bit_cases (hD.2.2.2 s h).1 with e | e
  · rw [e]
    simp (disch := omega) only [q_lit, q_gt, q_bd, q_bxl, q_bxr, q_vib, q_cl, q_pos, q_lt, q_le, q_eq, q_neg, q_neg1, q_negz, q_negeq0, q_neg0le, q_rem, q_div, q_sub, q_if1, q_if0, q_okB0, q_okB1, q_dz, q_dn, q_nb, and_true, true_and, and_false, false_and, nI_add, pk_mul, if_true, if_false, ite_true, ite_false, Nat.add_zero, Nat.zero_add, Nat.reduceAdd]
  · rw [e]
    simp (disch := omega) only [q_lit, q_gt, q_bd, q_bxl, q_bxr, q_vib, q_cl, q_pos, q_lt, q_le, q_eq, q_neg, q_neg1, q_negz, q_negeq0, q_neg0le, q_rem, q_div, q_sub, q_if1, q_if0, q_okB0, q_okB1, q_dz, q_dn, q_nb, and_true, true_and, and_false, false_and, nI_add, pk_mul, if_true, if_false, ite_true, ite_false, Nat.add_zero, Nat.zero_add, Nat.reduceAdd]
theorem s1_isLate (hE : EdR σ b D) (hD : DOk D) {s : Nat} (h : s < 12) (N : Nat) : f1_isLate N b (nI s) σ = some (nI (dS D s 8), σ) := by
  unfold f1_isLate
  simp (disch := omega) only [q_lit, q_gt, q_bd, q_bxl, q_bxr, q_vib, q_cl, q_pos, q_lt, q_le, q_eq, q_neg, q_neg1, q_negz, q_negeq0, q_neg0le, q_rem, q_div, q_sub, q_if1, q_if0, q_okB0, q_okB1, q_dz, q_dn, q_nb, and_true, true_and, and_false, false_and, nI_add, pk_mul, if_true, if_false, ite_true, ite_false, Nat.add_zero, Nat.zero_add, Nat.reduceAdd, s1_sn hE]
  rcases bit_cases (hD.2.2.1 s h).2.2.2.2.2.2.2.2.1 with e | e
  · rw [e]
    simp (disch := omega) only [q_lit, q_gt, q_bd, q_bxl, q_bxr, q_vib, q_cl, q_pos, q_lt, q_le, q_eq, q_neg, q_neg1, q_negz, q_negeq0, q_neg0le, q_rem, q_div, q_sub, q_if1, q_if0, q_okB0, q_okB1, q_dz, q_dn, q_nb, and_true, true_and, and_false, false_and, nI_add, pk_mul, if_true, if_false, ite_true, ite_false, Nat.add_zero, Nat.zero_add, Nat.reduceAdd]
  · rw [e]
    simp (disch := omega) only [q_lit, q_gt, q_bd, q_bxl, q_bxr, q_vib, q_cl, q_pos, q_lt, q_le, q_eq, q_neg, q_neg1, q_negz, q_negeq0, q_neg0le, q_rem, q_div, q_sub, q_if1, q_if0, q_okB0, q_okB1, q_dz, q_dn, q_nb, and_true, true_and, and_false, false_and, nI_add, pk_mul, if_true, if_false, ite_true, ite_false, Nat.add_zero, Nat.zero_add, Nat.reduceAdd]
theorem s1_headRows (hE : EdR σ b D) {s : Nat} (h : s < 12) (N : Nat) : f1_headRows N b (nI s) σ = some (nI (hd D s), σ) := by
  unfold f1_headRows
  simp (disch := omega) only [q_lit, q_gt, q_bd, q_bxl, q_bxr, q_vib, q_cl, q_pos, q_lt, q_le, q_eq, q_neg, q_neg1, q_negz, q_negeq0, q_neg0le, q_rem, q_div, q_sub, q_if1, q_if0, q_okB0, q_okB1, q_dz, q_dn, q_nb, and_true, true_and, and_false, false_and, nI_add, pk_mul, if_true, if_false, ite_true, ite_false, Nat.add_zero, Nat.zero_add, Nat.reduceAdd, s1_sn hE]
  rfl
theorem s6_of (hN : NwR σ 85 D) {s k : Nat} (h : s < 12) (hk : k < 9) (N : Nat) : f6_of N (nI s) (nI k) σ = some (nI (dS D s k), σ) := by
  unfold f6_of
  simp (disch := omega) only [q_lit, q_gt, q_bd, q_bxl, q_bxr, q_vib, q_cl, q_pos, q_lt, q_le, q_eq, q_neg, q_neg1, q_negz, q_negeq0, q_neg0le, q_rem, q_div, q_sub, q_if1, q_if0, q_okB0, q_okB1, q_dz, q_dn, q_nb, and_true, true_and, and_false, false_and, nI_add, pk_mul, if_true, if_false, ite_true, ite_false, Nat.add_zero, Nat.zero_add, Nat.reduceAdd]
  rw [hN _ (by omega)]
  rfl
theorem s6_ad (hN : NwR σ 85 D) {s k : Nat} (h : s < 8) (hk : k < 7) (N : Nat) : f6_ad N (nI s) (nI k) σ = some (nI (dA D s k), σ) := by
  unfold f6_ad
  simp (disch := omega) only [q_lit, q_gt, q_bd, q_bxl, q_bxr, q_vib, q_cl, q_pos, q_lt, q_le, q_eq, q_neg, q_neg1, q_negz, q_negeq0, q_neg0le, q_rem, q_div, q_sub, q_if1, q_if0, q_okB0, q_okB1, q_dz, q_dn, q_nb, and_true, true_and, and_false, false_and, nI_add, pk_mul, if_true, if_false, ite_true, ite_false, Nat.add_zero, Nat.zero_add, Nat.reduceAdd]
  rw [hN _ (by omega)]
  rfl
theorem s6_head (hN : NwR σ 85 D) {s : Nat} (h : s < 12) (N : Nat) : f6_head N (nI s) σ = some (nI (hd D s), σ) := by
  unfold f6_head
  simp (disch := omega) only [q_lit, q_gt, q_bd, q_bxl, q_bxr, q_vib, q_cl, q_pos, q_lt, q_le, q_eq, q_neg, q_neg1, q_negz, q_negeq0, q_neg0le, q_rem, q_div, q_sub, q_if1, q_if0, q_okB0, q_okB1, q_dz, q_dn, q_nb, and_true, true_and, and_false, false_and, nI_add, pk_mul, if_true, if_false, ite_true, ite_false, Nat.add_zero, Nat.zero_add, Nat.reduceAdd, s6_of hN]
  rfl
end A1
