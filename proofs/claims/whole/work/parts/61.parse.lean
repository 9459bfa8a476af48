/-! THE PURE PART. The text of commands, told once for both sides; the class reads it. -/
section PA
variable (a : Nat → Nat) (L : Nat)
def szN (x : Nat) : Nat := if x = 115 then 5 else if x = 97 then 6 else if x = 112 then 3 else if x = 108 then 2 else 0
def dgB (i : Nat) : Bool := decide (i < L ∧ 48 ≤ a i ∧ a i ≤ 57)
def dgN (i : Nat) : Nat := if dgB a L i then (if dgB a L (i + 1) then (if dgB a L (i + 2) then 3 else 2) else 1) else 0
def vdN (i : Nat) : Nat → Nat
  | 0 => 0
  | d + 1 => 10 * vdN i d + (a (i + d) - 48)
def vlN (i : Nat) : Nat := vdN a i (dgN a L i)
def cmB (i : Nat) : Bool := decide (i < L ∧ a i = 44)
/-- where number k of the command at i begins -/
def npN (i : Nat) : Nat → Nat
  | 0 => i + 1
  | k + 1 => npN i k + dgN a L (npN i k) + 1
/-- the command at i with n numbers, r of them still to be read: whether it is one, and where the reading ends -/
def ceN (i n : Nat) : Nat → Bool × Nat
  | 0 => (true, npN a L i n - 1)
  | r + 1 => if n - (r + 1) ≠ 0 ∧ cmB a L (npN a L i (n - (r + 1)) - 1) = false then (false, npN a L i (n - (r + 1)) - 1) else if dgN a L (npN a L i (n - (r + 1))) = 0 then (false, npN a L i (n - (r + 1))) else ceN i n r
def cmE (i : Nat) : Bool × Nat := ceN a L i (szN (a i)) (szN (a i))
def teN : Nat → Nat → Bool × Nat
  | 0, i => (false, i)
  | f + 1, i => if i < L ∧ szN (a i) ≠ 0 then (if (cmE a L i).1 then (if (cmE a L i).2 < L ∧ a (cmE a L i).2 = 59 then teN f ((cmE a L i).2 + 1) else (decide ((cmE a L i).2 = L), (cmE a L i).2)) else (false, (cmE a L i).2)) else (false, i)
/-- where command c begins; how many numbers come before it -/
def cpN : Nat → Nat
  | 0 => 0
  | c + 1 => (cmE a L (cpN c)).2 + 1
def nbN : Nat → Nat
  | 0 => 0
  | c + 1 => nbN c + szN (a (cpN a L c))
/-- the text is C commands -/
def TxtN (c0 C : Nat) : Prop := c0 < C ∧ (∀ c, c0 ≤ c → c < C → cpN a L c < L ∧ szN (a (cpN a L c)) ≠ 0 ∧ (cmE a L (cpN a L c)).1 = true) ∧ (∀ c, c0 ≤ c → c + 1 < C → (cmE a L (cpN a L c)).2 < L ∧ a (cmE a L (cpN a L c)).2 = 59) ∧ cpN a L C = L + 1
end PA
section PB
variable {a : Nat → Nat} {L : Nat}
theorem szN_cases (x : Nat) : (szN x = 0 ∧ x ≠ 115 ∧ x ≠ 97 ∧ x ≠ 112 ∧ x ≠ 108) ∨ (x = 115 ∧ szN x = 5) ∨ (x = 97 ∧ szN x = 6) ∨ (x = 112 ∧ szN x = 3) ∨ (x = 108 ∧ szN x = 2) := by
  unfold szN
  by_cases h1 : x = 115
  · exact Or.inr (Or.inl ⟨h1, if_pos h1⟩)
  · by_cases h2 : x = 97
    · exact Or.inr (Or.inr (Or.inl ⟨h2, by rw [if_neg h1, if_pos h2]⟩))
    · by_cases h3 : x = 112
      · exact Or.inr (Or.inr (Or.inr (Or.inl ⟨h3, by rw [if_neg h1, if_neg h2, if_pos h3]⟩)))
      · by_cases h4 : x = 108
        · exact Or.inr (Or.inr (Or.inr (Or.inr ⟨h4, by rw [if_neg h1, if_neg h2, if_neg h3, if_pos h4]⟩)))
        · exact Or.inl ⟨by rw [if_neg h1, if_neg h2, if_neg h3, if_neg h4], h1, h2, h3, h4⟩
theorem szN_le (x : Nat) : szN x ≤ 6 := by
  rcases szN_cases x with h | h | h | h | h
  all_goals omega
theorem dgB_iff (i : Nat) : dgB a L i = true ↔ (i < L ∧ 48 ≤ a i ∧ a i ≤ 57) := by
  unfold dgB
  exact decide_eq_true_iff
theorem cmB_iff (i : Nat) : cmB a L i = true ↔ (i < L ∧ a i = 44) := by
  unfold cmB
  exact decide_eq_true_iff
theorem dgN_cases (i : Nat) : (dgN a L i = 0 ∧ dgB a L i = false) ∨ (dgN a L i = 1 ∧ dgB a L i = true ∧ dgB a L (i + 1) = false) ∨ (dgN a L i = 2 ∧ dgB a L i = true ∧ dgB a L (i + 1) = true ∧ dgB a L (i + 2) = false) ∨ (dgN a L i = 3 ∧ dgB a L i = true ∧ dgB a L (i + 1) = true ∧ dgB a L (i + 2) = true) := by
  unfold dgN
  cases h0 : dgB a L i
  · exact Or.inl ⟨rfl, rfl⟩
  · cases h1 : dgB a L (i + 1)
    · exact Or.inr (Or.inl ⟨rfl, rfl, rfl⟩)
    · cases h2 : dgB a L (i + 2)
      · exact Or.inr (Or.inr (Or.inl ⟨rfl, rfl, rfl, rfl⟩))
      · exact Or.inr (Or.inr (Or.inr ⟨rfl, rfl, rfl, rfl⟩))
/-- the digits of a number, and what is behind them -/
theorem dgN_in (i d : Nat) (h : d < dgN a L i) : dgB a L (i + d) = true := by
  rcases dgN_cases (a := a) (L := L) i with ⟨e, h0⟩ | ⟨e, h0, h1⟩ | ⟨e, h0, h1, h2⟩ | ⟨e, h0, h1, h2⟩
  · omega
  · rw [show d = 0 by omega]
    exact h0
  · rcases (show d = 0 ∨ d = 1 by omega) with rfl | rfl
    · exact h0
    · exact h1
  · rcases (show d = 0 ∨ d = 1 ∨ d = 2 by omega) with rfl | rfl | rfl
    · exact h0
    · exact h1
    · exact h2
theorem dgN_le (i : Nat) : dgN a L i ≤ 3 := by
  rcases dgN_cases (a := a) (L := L) i with ⟨e, h0⟩ | ⟨e, h0, h1⟩ | ⟨e, h0, h1, h2⟩ | ⟨e, h0, h1, h2⟩
  all_goals omega
theorem dgN_out (i : Nat) (h : dgN a L i < 3) : dgB a L (i + dgN a L i) = false := by
  rcases dgN_cases (a := a) (L := L) i with ⟨e, h0⟩ | ⟨e, h0, h1⟩ | ⟨e, h0, h1, h2⟩ | ⟨e, h0, h1, h2⟩
  · rw [e]
    exact h0
  · rw [e]
    exact h1
  · rw [e]
    exact h2
  · omega
theorem dgN_end (i : Nat) (h : dgN a L i ≠ 0) : i + dgN a L i ≤ L := by
  have := (dgB_iff _).mp (dgN_in (a := a) (L := L) i (dgN a L i - 1) (by omega))
  omega
theorem npN_ge (i : Nat) : ∀ k, i + 1 + k ≤ npN a L i k
  | 0 => Nat.le_refl _
  | k + 1 => by
    have := npN_ge i k
    show i + 1 + (k + 1) ≤ npN a L i k + dgN a L (npN a L i k) + 1
    omega
theorem ceN_true (i n : Nat) : ∀ r, (ceN a L i n r).1 = true → (ceN a L i n r).2 = npN a L i n - 1
  | 0, _ => rfl
  | r + 1, h => by
    unfold ceN at h ⊢
    split
    · rename_i q
      rw [if_pos q] at h
      cases h
    · rename_i q
      rw [if_neg q] at h
      split
      · rename_i q2
        rw [if_pos q2] at h
        cases h
      · rename_i q2
        rw [if_neg q2] at h
        exact ceN_true i n r h
theorem cpN_true {c : Nat} (h : (cmE a L (cpN a L c)).1 = true) : cpN a L (c + 1) = npN a L (cpN a L c) (szN (a (cpN a L c))) := by
  have h2 := ceN_true (a := a) (L := L) (cpN a L c) (szN (a (cpN a L c))) (szN (a (cpN a L c))) h
  have h3 := npN_ge (a := a) (L := L) (cpN a L c) (szN (a (cpN a L c)))
  show (cmE a L (cpN a L c)).2 + 1 = _
  unfold cmE
  omega
/-! the class's state while it reads -/
def TbC (a : Nat → Nat) (L : Nat) (τ : Hp) (c : Nat) : Prop := ∀ c', c' < c → τ 81 c' = nI (a (cpN a L c')) ∧ τ 82 c' = nI (nbN a L c') ∧ ∀ k, k < szN (a (cpN a L c')) → τ 83 (nbN a L c' + k) = nI (vlN a L (npN a L (cpN a L c') k))
def S0 (a : Nat → Nat) (L : Nat) (τ : Hp) (c : Nat) : Prop := τ 79 7 = nI 1 ∧ τ 79 4 = nI c ∧ τ 79 6 = nI (nbN a L c) ∧ TbC a L τ c
def S2 (a : Nat → Nat) (L : Nat) (τ : Hp) (c k d : Nat) : Prop := τ 79 7 = nI 0 ∧ τ 79 4 = nI (c + 1) ∧ τ 79 6 = nI (nbN a L c + k + 1) ∧ τ 79 8 = nI (szN (a (cpN a L c)) - 1 - k) ∧ τ 79 9 = nI d ∧ TbC a L τ c ∧ τ 81 c = nI (a (cpN a L c)) ∧ τ 82 c = nI (nbN a L c) ∧ (∀ j, j < k → τ 83 (nbN a L c + j) = nI (vlN a L (npN a L (cpN a L c) j))) ∧ τ 83 (nbN a L c + k) = nI (vdN a (npN a L (cpN a L c) k) d)
def Fr (τ τ' : Hp) : Prop := (∀ k, k ≠ 79 → k ≠ 81 → k ≠ 82 → k ≠ 83 → τ' k = τ k) ∧ τ' 79 1 = τ 79 1
theorem Fr.refl (τ : Hp) : Fr τ τ := ⟨fun _ _ _ _ _ => rfl, rfl⟩
theorem Fr.trans {τ τ' τ'' : Hp} (h : Fr τ τ') (h2 : Fr τ' τ'') : Fr τ τ'' := ⟨fun k k1 k2 k3 k4 => (h2.1 k k1 k2 k3 k4).trans (h.1 k k1 k2 k3 k4), h2.2.trans h.2⟩
theorem nbN_mono (c : Nat) : ∀ c', c < c' → nbN a L c + szN (a (cpN a L c)) ≤ nbN a L c'
  | 0, h => absurd h (Nat.not_lt_zero c)
  | c' + 1, h => by
    by_cases z : c = c'
    · rw [z]
      exact Nat.le_refl _
    · exact Nat.le_trans (nbN_mono c c' (by omega)) (Nat.le_add_right _ _)
theorem TbC.congr {τ τ' : Hp} {c : Nat} (h : TbC a L τ c) (e1 : ∀ c', c' < c → τ' 81 c' = τ 81 c') (e2 : ∀ c', c' < c → τ' 82 c' = τ 82 c') (e3 : ∀ t, t < nbN a L c → τ' 83 t = τ 83 t) : TbC a L τ' c := fun c' hc => by
  obtain ⟨h1, h2, h3⟩ := h c' hc
  refine ⟨(e1 c' hc).trans h1, (e2 c' hc).trans h2, fun k hk => (e3 _ ?_).trans (h3 k hk)⟩
  have := nbN_mono (a := a) (L := L) c' c hc
  omega
theorem step_cmd (N : Nat) {τ : Hp} {c : Nat} (h : S0 a L τ c) (ha : a (cpN a L c) < 65536) (hc : c < 80) (hn : nbN a L c < 80) (hz : szN (a (cpN a L c)) ≠ 0) : ∃ τ', f0_accepts N (nI (a (cpN a L c))) τ = some (nI 1, τ') ∧ S2 a L τ' c 0 0 ∧ Fr τ τ' := by
  obtain ⟨s1, s2, s3, s4⟩ := h
  have sz : f0_sizeOf N (nI (a (cpN a L c))) τ = some (nI (szN (a (cpN a L c))), τ) := by
    unfold f0_sizeOf
    rcases szN_cases (a (cpN a L c)) with h | ⟨h, e⟩ | ⟨h, e⟩ | ⟨h, e⟩ | ⟨h, e⟩
    · exact absurd h.1 hz
    · rw [e, h]
      rfl
    · rw [e, h]
      rfl
    · rw [e, h]
      rfl
    · rw [e, h]
      rfl
  have hs6 := szN_le (a (cpN a L c))
  refine ⟨st (st (st (st (st (st (st (st (st τ 81 c (nI (a (cpN a L c)))) 82 c (nI (nbN a L c))) 79 4 (nI (c + 1))) 79 7 (nI 0)) 79 8 (nI (szN (a (cpN a L c))))) 83 (nbN a L c) (nI 0)) 79 6 (nI (nbN a L c + 1))) 79 8 (nI (szN (a (cpN a L c)) - 1))) 79 9 (nI 0), ?_, ⟨?_, ?_, ?_, ?_, ?_, ?_, ?_, ?_, fun j hj => absurd hj (Nat.not_lt_zero j), ?_⟩, fun k k1 k2 k3 k4 => ?_, ?_⟩
  · unfold f0_accepts f0_startCommand
    generalize szN (a (cpN a L c)) = n at *
    simp (disch := omega) only [q_lit, q_gt, q_bd, q_bxl, q_bxr, q_vib, q_cl, q_pos, q_lt, q_le, q_eq, q_neg, q_neg1, q_negz, q_negeq0, q_neg0le, q_rem, q_div, q_sub, q_if1, q_if0, q_okB0, q_okB1, q_dz, q_dn, q_nb, and_true, true_and, and_false, false_and, nI_add, pk_mul, if_true, if_false, ite_true, ite_false, Nat.add_zero, Nat.zero_add, Nat.reduceAdd, s1, sz, s2, st_get, s3, char_ok ha]
    unfold f0_startNumber f0_startNumber_J36
    simp (disch := omega) only [q_lit, q_gt, q_bd, q_bxl, q_bxr, q_vib, q_cl, q_pos, q_lt, q_le, q_eq, q_neg, q_neg1, q_negz, q_negeq0, q_neg0le, q_rem, q_div, q_sub, q_if1, q_if0, q_okB0, q_okB1, q_dz, q_dn, q_nb, and_true, true_and, and_false, false_and, nI_add, pk_mul, if_true, if_false, ite_true, ite_false, Nat.add_zero, Nat.zero_add, Nat.reduceAdd, st_get, s3]
  · simp (disch := omega) only [q_lit, q_gt, q_bd, q_bxl, q_bxr, q_vib, q_cl, q_pos, q_lt, q_le, q_eq, q_neg, q_neg1, q_negz, q_negeq0, q_neg0le, q_rem, q_div, q_sub, q_if1, q_if0, q_okB0, q_okB1, q_dz, q_dn, q_nb, and_true, true_and, and_false, false_and, nI_add, pk_mul, if_true, if_false, ite_true, ite_false, Nat.add_zero, Nat.zero_add, Nat.reduceAdd, st_get]
  · simp (disch := omega) only [q_lit, q_gt, q_bd, q_bxl, q_bxr, q_vib, q_cl, q_pos, q_lt, q_le, q_eq, q_neg, q_neg1, q_negz, q_negeq0, q_neg0le, q_rem, q_div, q_sub, q_if1, q_if0, q_okB0, q_okB1, q_dz, q_dn, q_nb, and_true, true_and, and_false, false_and, nI_add, pk_mul, if_true, if_false, ite_true, ite_false, Nat.add_zero, Nat.zero_add, Nat.reduceAdd, st_get]
  · simp (disch := omega) only [q_lit, q_gt, q_bd, q_bxl, q_bxr, q_vib, q_cl, q_pos, q_lt, q_le, q_eq, q_neg, q_neg1, q_negz, q_negeq0, q_neg0le, q_rem, q_div, q_sub, q_if1, q_if0, q_okB0, q_okB1, q_dz, q_dn, q_nb, and_true, true_and, and_false, false_and, nI_add, pk_mul, if_true, if_false, ite_true, ite_false, Nat.add_zero, Nat.zero_add, Nat.reduceAdd, st_get]
  · simp (disch := omega) only [q_lit, q_gt, q_bd, q_bxl, q_bxr, q_vib, q_cl, q_pos, q_lt, q_le, q_eq, q_neg, q_neg1, q_negz, q_negeq0, q_neg0le, q_rem, q_div, q_sub, q_if1, q_if0, q_okB0, q_okB1, q_dz, q_dn, q_nb, and_true, true_and, and_false, false_and, nI_add, pk_mul, if_true, if_false, ite_true, ite_false, Nat.add_zero, Nat.zero_add, Nat.reduceAdd, st_get]
    rfl
  · simp (disch := omega) only [q_lit, q_gt, q_bd, q_bxl, q_bxr, q_vib, q_cl, q_pos, q_lt, q_le, q_eq, q_neg, q_neg1, q_negz, q_negeq0, q_neg0le, q_rem, q_div, q_sub, q_if1, q_if0, q_okB0, q_okB1, q_dz, q_dn, q_nb, and_true, true_and, and_false, false_and, nI_add, pk_mul, if_true, if_false, ite_true, ite_false, Nat.add_zero, Nat.zero_add, Nat.reduceAdd, st_get]
  · refine s4.congr (fun c' hc' => ?_) (fun c' hc' => ?_) (fun t ht => ?_)
    · simp (disch := omega) only [q_lit, q_gt, q_bd, q_bxl, q_bxr, q_vib, q_cl, q_pos, q_lt, q_le, q_eq, q_neg, q_neg1, q_negz, q_negeq0, q_neg0le, q_rem, q_div, q_sub, q_if1, q_if0, q_okB0, q_okB1, q_dz, q_dn, q_nb, and_true, true_and, and_false, false_and, nI_add, pk_mul, if_true, if_false, ite_true, ite_false, Nat.add_zero, Nat.zero_add, Nat.reduceAdd, st_get]
    · simp (disch := omega) only [q_lit, q_gt, q_bd, q_bxl, q_bxr, q_vib, q_cl, q_pos, q_lt, q_le, q_eq, q_neg, q_neg1, q_negz, q_negeq0, q_neg0le, q_rem, q_div, q_sub, q_if1, q_if0, q_okB0, q_okB1, q_dz, q_dn, q_nb, and_true, true_and, and_false, false_and, nI_add, pk_mul, if_true, if_false, ite_true, ite_false, Nat.add_zero, Nat.zero_add, Nat.reduceAdd, st_get]
    · simp (disch := omega) only [q_lit, q_gt, q_bd, q_bxl, q_bxr, q_vib, q_cl, q_pos, q_lt, q_le, q_eq, q_neg, q_neg1, q_negz, q_negeq0, q_neg0le, q_rem, q_div, q_sub, q_if1, q_if0, q_okB0, q_okB1, q_dz, q_dn, q_nb, and_true, true_and, and_false, false_and, nI_add, pk_mul, if_true, if_false, ite_true, ite_false, Nat.add_zero, Nat.zero_add, Nat.reduceAdd, st_get]
  · simp (disch := omega) only [q_lit, q_gt, q_bd, q_bxl, q_bxr, q_vib, q_cl, q_pos, q_lt, q_le, q_eq, q_neg, q_neg1, q_negz, q_negeq0, q_neg0le, q_rem, q_div, q_sub, q_if1, q_if0, q_okB0, q_okB1, q_dz, q_dn, q_nb, and_true, true_and, and_false, false_and, nI_add, pk_mul, if_true, if_false, ite_true, ite_false, Nat.add_zero, Nat.zero_add, Nat.reduceAdd, st_get]
  · simp (disch := omega) only [q_lit, q_gt, q_bd, q_bxl, q_bxr, q_vib, q_cl, q_pos, q_lt, q_le, q_eq, q_neg, q_neg1, q_negz, q_negeq0, q_neg0le, q_rem, q_div, q_sub, q_if1, q_if0, q_okB0, q_okB1, q_dz, q_dn, q_nb, and_true, true_and, and_false, false_and, nI_add, pk_mul, if_true, if_false, ite_true, ite_false, Nat.add_zero, Nat.zero_add, Nat.reduceAdd, st_get]
  · simp (disch := omega) only [q_lit, q_gt, q_bd, q_bxl, q_bxr, q_vib, q_cl, q_pos, q_lt, q_le, q_eq, q_neg, q_neg1, q_negz, q_negeq0, q_neg0le, q_rem, q_div, q_sub, q_if1, q_if0, q_okB0, q_okB1, q_dz, q_dn, q_nb, and_true, true_and, and_false, false_and, nI_add, pk_mul, if_true, if_false, ite_true, ite_false, Nat.add_zero, Nat.zero_add, Nat.reduceAdd, st_get]
    rfl
  · simp (disch := omega) only [q_lit, q_gt, q_bd, q_bxl, q_bxr, q_vib, q_cl, q_pos, q_lt, q_le, q_eq, q_neg, q_neg1, q_negz, q_negeq0, q_neg0le, q_rem, q_div, q_sub, q_if1, q_if0, q_okB0, q_okB1, q_dz, q_dn, q_nb, and_true, true_and, and_false, false_and, nI_add, pk_mul, if_true, if_false, ite_true, ite_false, Nat.add_zero, Nat.zero_add, Nat.reduceAdd, st_row]
  · simp (disch := omega) only [q_lit, q_gt, q_bd, q_bxl, q_bxr, q_vib, q_cl, q_pos, q_lt, q_le, q_eq, q_neg, q_neg1, q_negz, q_negeq0, q_neg0le, q_rem, q_div, q_sub, q_if1, q_if0, q_okB0, q_okB1, q_dz, q_dn, q_nb, and_true, true_and, and_false, false_and, nI_add, pk_mul, if_true, if_false, ite_true, ite_false, Nat.add_zero, Nat.zero_add, Nat.reduceAdd, st_get]
theorem step_digit (N : Nat) {τ : Hp} {c k d x : Nat} (h : S2 a L τ c k d) (hd : d < 3) (hx : a (npN a L (cpN a L c) k + d) = x) (h1 : 48 ≤ x) (h2 : x ≤ 57) (hn : nbN a L c + k < 80) : ∃ τ', f0_accepts N (nI x) τ = some (nI 1, τ') ∧ S2 a L τ' c k (d + 1) ∧ Fr τ τ' := by
  obtain ⟨s1, s2, s3, s4, s5, s6, s7, s8, s9, s10⟩ := h
  refine ⟨st (st τ 83 (nbN a L c + k) (nI (vdN a (npN a L (cpN a L c) k) (d + 1)))) 79 9 (nI (d + 1)), ?_, ⟨?_, ?_, ?_, ?_, ?_, ?_, ?_, ?_, fun j hj => ?_, ?_⟩, fun q q1 q2 q3 q4 => ?_, ?_⟩
  · unfold f0_accepts f0_addDigit
    have e : vdN a (npN a L (cpN a L c) k) (d + 1) = vdN a (npN a L (cpN a L c) k) d * 10 + (x - 48) := by
      rw [← hx, Nat.mul_comm]
      rfl
    rw [e]
    generalize vdN a (npN a L (cpN a L c) k) d = v at *
    simp (disch := omega) only [q_lit, q_gt, q_bd, q_bxl, q_bxr, q_vib, q_cl, q_pos, q_lt, q_le, q_eq, q_neg, q_neg1, q_negz, q_negeq0, q_neg0le, q_rem, q_div, q_sub, q_if1, q_if0, q_okB0, q_okB1, q_dz, q_dn, q_nb, and_true, true_and, and_false, false_and, nI_add, pk_mul, if_true, if_false, ite_true, ite_false, Nat.add_zero, Nat.zero_add, Nat.reduceAdd, s1, s5, s3, s10, st_get, Nat.add_sub_cancel]
  · simp (disch := omega) only [q_lit, q_gt, q_bd, q_bxl, q_bxr, q_vib, q_cl, q_pos, q_lt, q_le, q_eq, q_neg, q_neg1, q_negz, q_negeq0, q_neg0le, q_rem, q_div, q_sub, q_if1, q_if0, q_okB0, q_okB1, q_dz, q_dn, q_nb, and_true, true_and, and_false, false_and, nI_add, pk_mul, if_true, if_false, ite_true, ite_false, Nat.add_zero, Nat.zero_add, Nat.reduceAdd, st_get]
    exact s1
  · simp (disch := omega) only [q_lit, q_gt, q_bd, q_bxl, q_bxr, q_vib, q_cl, q_pos, q_lt, q_le, q_eq, q_neg, q_neg1, q_negz, q_negeq0, q_neg0le, q_rem, q_div, q_sub, q_if1, q_if0, q_okB0, q_okB1, q_dz, q_dn, q_nb, and_true, true_and, and_false, false_and, nI_add, pk_mul, if_true, if_false, ite_true, ite_false, Nat.add_zero, Nat.zero_add, Nat.reduceAdd, st_get]
    exact s2
  · simp (disch := omega) only [q_lit, q_gt, q_bd, q_bxl, q_bxr, q_vib, q_cl, q_pos, q_lt, q_le, q_eq, q_neg, q_neg1, q_negz, q_negeq0, q_neg0le, q_rem, q_div, q_sub, q_if1, q_if0, q_okB0, q_okB1, q_dz, q_dn, q_nb, and_true, true_and, and_false, false_and, nI_add, pk_mul, if_true, if_false, ite_true, ite_false, Nat.add_zero, Nat.zero_add, Nat.reduceAdd, st_get]
    exact s3
  · simp (disch := omega) only [q_lit, q_gt, q_bd, q_bxl, q_bxr, q_vib, q_cl, q_pos, q_lt, q_le, q_eq, q_neg, q_neg1, q_negz, q_negeq0, q_neg0le, q_rem, q_div, q_sub, q_if1, q_if0, q_okB0, q_okB1, q_dz, q_dn, q_nb, and_true, true_and, and_false, false_and, nI_add, pk_mul, if_true, if_false, ite_true, ite_false, Nat.add_zero, Nat.zero_add, Nat.reduceAdd, st_get]
    exact s4
  · simp (disch := omega) only [q_lit, q_gt, q_bd, q_bxl, q_bxr, q_vib, q_cl, q_pos, q_lt, q_le, q_eq, q_neg, q_neg1, q_negz, q_negeq0, q_neg0le, q_rem, q_div, q_sub, q_if1, q_if0, q_okB0, q_okB1, q_dz, q_dn, q_nb, and_true, true_and, and_false, false_and, nI_add, pk_mul, if_true, if_false, ite_true, ite_false, Nat.add_zero, Nat.zero_add, Nat.reduceAdd, st_get]
  · refine s6.congr (fun c' hc' => ?_) (fun c' hc' => ?_) (fun t ht => ?_)
    · simp (disch := omega) only [q_lit, q_gt, q_bd, q_bxl, q_bxr, q_vib, q_cl, q_pos, q_lt, q_le, q_eq, q_neg, q_neg1, q_negz, q_negeq0, q_neg0le, q_rem, q_div, q_sub, q_if1, q_if0, q_okB0, q_okB1, q_dz, q_dn, q_nb, and_true, true_and, and_false, false_and, nI_add, pk_mul, if_true, if_false, ite_true, ite_false, Nat.add_zero, Nat.zero_add, Nat.reduceAdd, st_get]
    · simp (disch := omega) only [q_lit, q_gt, q_bd, q_bxl, q_bxr, q_vib, q_cl, q_pos, q_lt, q_le, q_eq, q_neg, q_neg1, q_negz, q_negeq0, q_neg0le, q_rem, q_div, q_sub, q_if1, q_if0, q_okB0, q_okB1, q_dz, q_dn, q_nb, and_true, true_and, and_false, false_and, nI_add, pk_mul, if_true, if_false, ite_true, ite_false, Nat.add_zero, Nat.zero_add, Nat.reduceAdd, st_get]
    · simp (disch := omega) only [q_lit, q_gt, q_bd, q_bxl, q_bxr, q_vib, q_cl, q_pos, q_lt, q_le, q_eq, q_neg, q_neg1, q_negz, q_negeq0, q_neg0le, q_rem, q_div, q_sub, q_if1, q_if0, q_okB0, q_okB1, q_dz, q_dn, q_nb, and_true, true_and, and_false, false_and, nI_add, pk_mul, if_true, if_false, ite_true, ite_false, Nat.add_zero, Nat.zero_add, Nat.reduceAdd, st_get]
  · simp (disch := omega) only [q_lit, q_gt, q_bd, q_bxl, q_bxr, q_vib, q_cl, q_pos, q_lt, q_le, q_eq, q_neg, q_neg1, q_negz, q_negeq0, q_neg0le, q_rem, q_div, q_sub, q_if1, q_if0, q_okB0, q_okB1, q_dz, q_dn, q_nb, and_true, true_and, and_false, false_and, nI_add, pk_mul, if_true, if_false, ite_true, ite_false, Nat.add_zero, Nat.zero_add, Nat.reduceAdd, st_get]
    exact s7
  · simp (disch := omega) only [q_lit, q_gt, q_bd, q_bxl, q_bxr, q_vib, q_cl, q_pos, q_lt, q_le, q_eq, q_neg, q_neg1, q_negz, q_negeq0, q_neg0le, q_rem, q_div, q_sub, q_if1, q_if0, q_okB0, q_okB1, q_dz, q_dn, q_nb, and_true, true_and, and_false, false_and, nI_add, pk_mul, if_true, if_false, ite_true, ite_false, Nat.add_zero, Nat.zero_add, Nat.reduceAdd, st_get]
    exact s8
  · simp (disch := omega) only [q_lit, q_gt, q_bd, q_bxl, q_bxr, q_vib, q_cl, q_pos, q_lt, q_le, q_eq, q_neg, q_neg1, q_negz, q_negeq0, q_neg0le, q_rem, q_div, q_sub, q_if1, q_if0, q_okB0, q_okB1, q_dz, q_dn, q_nb, and_true, true_and, and_false, false_and, nI_add, pk_mul, if_true, if_false, ite_true, ite_false, Nat.add_zero, Nat.zero_add, Nat.reduceAdd, st_get]
    exact s9 j hj
  · simp (disch := omega) only [q_lit, q_gt, q_bd, q_bxl, q_bxr, q_vib, q_cl, q_pos, q_lt, q_le, q_eq, q_neg, q_neg1, q_negz, q_negeq0, q_neg0le, q_rem, q_div, q_sub, q_if1, q_if0, q_okB0, q_okB1, q_dz, q_dn, q_nb, and_true, true_and, and_false, false_and, nI_add, pk_mul, if_true, if_false, ite_true, ite_false, Nat.add_zero, Nat.zero_add, Nat.reduceAdd, st_get]
  · simp (disch := omega) only [q_lit, q_gt, q_bd, q_bxl, q_bxr, q_vib, q_cl, q_pos, q_lt, q_le, q_eq, q_neg, q_neg1, q_negz, q_negeq0, q_neg0le, q_rem, q_div, q_sub, q_if1, q_if0, q_okB0, q_okB1, q_dz, q_dn, q_nb, and_true, true_and, and_false, false_and, nI_add, pk_mul, if_true, if_false, ite_true, ite_false, Nat.add_zero, Nat.zero_add, Nat.reduceAdd, st_row]
  · simp (disch := omega) only [q_lit, q_gt, q_bd, q_bxl, q_bxr, q_vib, q_cl, q_pos, q_lt, q_le, q_eq, q_neg, q_neg1, q_negz, q_negeq0, q_neg0le, q_rem, q_div, q_sub, q_if1, q_if0, q_okB0, q_okB1, q_dz, q_dn, q_nb, and_true, true_and, and_false, false_and, nI_add, pk_mul, if_true, if_false, ite_true, ite_false, Nat.add_zero, Nat.zero_add, Nat.reduceAdd, st_get]
theorem step_comma (N : Nat) {τ : Hp} {c k : Nat} (h : S2 a L τ c k (dgN a L (npN a L (cpN a L c) k))) (hd : dgN a L (npN a L (cpN a L c) k) ≠ 0) (hk : k + 1 < szN (a (cpN a L c))) (hn : nbN a L c + k + 1 < 80) : ∃ τ', f0_accepts N (nI 44) τ = some (nI 1, τ') ∧ S2 a L τ' c (k + 1) 0 ∧ Fr τ τ' := by
  obtain ⟨s1, s2, s3, s4, s5, s6, s7, s8, s9, s10⟩ := h
  have hs6 := szN_le (a (cpN a L c))
  have hd3 := dgN_le (a := a) (L := L) (npN a L (cpN a L c) k)
  refine ⟨st (st (st (st τ 83 (nbN a L c + k + 1) (nI 0)) 79 6 (nI (nbN a L c + k + 2))) 79 8 (nI (szN (a (cpN a L c)) - 1 - (k + 1)))) 79 9 (nI 0), ?_, ⟨?_, ?_, ?_, ?_, ?_, ?_, ?_, ?_, fun j hj => ?_, ?_⟩, fun q q1 q2 q3 q4 => ?_, ?_⟩
  · unfold f0_accepts f0_accepts_J34 f0_startNumber f0_startNumber_J36
    rw [show szN (a (cpN a L c)) - 1 - (k + 1) = szN (a (cpN a L c)) - 1 - k - 1 by omega]
    generalize szN (a (cpN a L c)) = n at *
    simp (disch := omega) only [q_lit, q_gt, q_bd, q_bxl, q_bxr, q_vib, q_cl, q_pos, q_lt, q_le, q_eq, q_neg, q_neg1, q_negz, q_negeq0, q_neg0le, q_rem, q_div, q_sub, q_if1, q_if0, q_okB0, q_okB1, q_dz, q_dn, q_nb, and_true, true_and, and_false, false_and, nI_add, pk_mul, if_true, if_false, ite_true, ite_false, Nat.add_zero, Nat.zero_add, Nat.reduceAdd, s1, s5, s4, s3, st_get]
  · simp (disch := omega) only [q_lit, q_gt, q_bd, q_bxl, q_bxr, q_vib, q_cl, q_pos, q_lt, q_le, q_eq, q_neg, q_neg1, q_negz, q_negeq0, q_neg0le, q_rem, q_div, q_sub, q_if1, q_if0, q_okB0, q_okB1, q_dz, q_dn, q_nb, and_true, true_and, and_false, false_and, nI_add, pk_mul, if_true, if_false, ite_true, ite_false, Nat.add_zero, Nat.zero_add, Nat.reduceAdd, st_get]
    exact s1
  · simp (disch := omega) only [q_lit, q_gt, q_bd, q_bxl, q_bxr, q_vib, q_cl, q_pos, q_lt, q_le, q_eq, q_neg, q_neg1, q_negz, q_negeq0, q_neg0le, q_rem, q_div, q_sub, q_if1, q_if0, q_okB0, q_okB1, q_dz, q_dn, q_nb, and_true, true_and, and_false, false_and, nI_add, pk_mul, if_true, if_false, ite_true, ite_false, Nat.add_zero, Nat.zero_add, Nat.reduceAdd, st_get]
    exact s2
  · simp (disch := omega) only [q_lit, q_gt, q_bd, q_bxl, q_bxr, q_vib, q_cl, q_pos, q_lt, q_le, q_eq, q_neg, q_neg1, q_negz, q_negeq0, q_neg0le, q_rem, q_div, q_sub, q_if1, q_if0, q_okB0, q_okB1, q_dz, q_dn, q_nb, and_true, true_and, and_false, false_and, nI_add, pk_mul, if_true, if_false, ite_true, ite_false, Nat.add_zero, Nat.zero_add, Nat.reduceAdd, st_get]
    rfl
  · simp (disch := omega) only [q_lit, q_gt, q_bd, q_bxl, q_bxr, q_vib, q_cl, q_pos, q_lt, q_le, q_eq, q_neg, q_neg1, q_negz, q_negeq0, q_neg0le, q_rem, q_div, q_sub, q_if1, q_if0, q_okB0, q_okB1, q_dz, q_dn, q_nb, and_true, true_and, and_false, false_and, nI_add, pk_mul, if_true, if_false, ite_true, ite_false, Nat.add_zero, Nat.zero_add, Nat.reduceAdd, st_get]
  · simp (disch := omega) only [q_lit, q_gt, q_bd, q_bxl, q_bxr, q_vib, q_cl, q_pos, q_lt, q_le, q_eq, q_neg, q_neg1, q_negz, q_negeq0, q_neg0le, q_rem, q_div, q_sub, q_if1, q_if0, q_okB0, q_okB1, q_dz, q_dn, q_nb, and_true, true_and, and_false, false_and, nI_add, pk_mul, if_true, if_false, ite_true, ite_false, Nat.add_zero, Nat.zero_add, Nat.reduceAdd, st_get]
  · refine s6.congr (fun c' hc' => ?_) (fun c' hc' => ?_) (fun t ht => ?_)
    · simp (disch := omega) only [q_lit, q_gt, q_bd, q_bxl, q_bxr, q_vib, q_cl, q_pos, q_lt, q_le, q_eq, q_neg, q_neg1, q_negz, q_negeq0, q_neg0le, q_rem, q_div, q_sub, q_if1, q_if0, q_okB0, q_okB1, q_dz, q_dn, q_nb, and_true, true_and, and_false, false_and, nI_add, pk_mul, if_true, if_false, ite_true, ite_false, Nat.add_zero, Nat.zero_add, Nat.reduceAdd, st_get]
    · simp (disch := omega) only [q_lit, q_gt, q_bd, q_bxl, q_bxr, q_vib, q_cl, q_pos, q_lt, q_le, q_eq, q_neg, q_neg1, q_negz, q_negeq0, q_neg0le, q_rem, q_div, q_sub, q_if1, q_if0, q_okB0, q_okB1, q_dz, q_dn, q_nb, and_true, true_and, and_false, false_and, nI_add, pk_mul, if_true, if_false, ite_true, ite_false, Nat.add_zero, Nat.zero_add, Nat.reduceAdd, st_get]
    · simp (disch := omega) only [q_lit, q_gt, q_bd, q_bxl, q_bxr, q_vib, q_cl, q_pos, q_lt, q_le, q_eq, q_neg, q_neg1, q_negz, q_negeq0, q_neg0le, q_rem, q_div, q_sub, q_if1, q_if0, q_okB0, q_okB1, q_dz, q_dn, q_nb, and_true, true_and, and_false, false_and, nI_add, pk_mul, if_true, if_false, ite_true, ite_false, Nat.add_zero, Nat.zero_add, Nat.reduceAdd, st_get]
  · simp (disch := omega) only [q_lit, q_gt, q_bd, q_bxl, q_bxr, q_vib, q_cl, q_pos, q_lt, q_le, q_eq, q_neg, q_neg1, q_negz, q_negeq0, q_neg0le, q_rem, q_div, q_sub, q_if1, q_if0, q_okB0, q_okB1, q_dz, q_dn, q_nb, and_true, true_and, and_false, false_and, nI_add, pk_mul, if_true, if_false, ite_true, ite_false, Nat.add_zero, Nat.zero_add, Nat.reduceAdd, st_get]
    exact s7
  · simp (disch := omega) only [q_lit, q_gt, q_bd, q_bxl, q_bxr, q_vib, q_cl, q_pos, q_lt, q_le, q_eq, q_neg, q_neg1, q_negz, q_negeq0, q_neg0le, q_rem, q_div, q_sub, q_if1, q_if0, q_okB0, q_okB1, q_dz, q_dn, q_nb, and_true, true_and, and_false, false_and, nI_add, pk_mul, if_true, if_false, ite_true, ite_false, Nat.add_zero, Nat.zero_add, Nat.reduceAdd, st_get]
    exact s8
  · by_cases z : j = k
    · rw [z]
      simp (disch := omega) only [q_lit, q_gt, q_bd, q_bxl, q_bxr, q_vib, q_cl, q_pos, q_lt, q_le, q_eq, q_neg, q_neg1, q_negz, q_negeq0, q_neg0le, q_rem, q_div, q_sub, q_if1, q_if0, q_okB0, q_okB1, q_dz, q_dn, q_nb, and_true, true_and, and_false, false_and, nI_add, pk_mul, if_true, if_false, ite_true, ite_false, Nat.add_zero, Nat.zero_add, Nat.reduceAdd, st_get]
      exact s10
    · simp (disch := omega) only [q_lit, q_gt, q_bd, q_bxl, q_bxr, q_vib, q_cl, q_pos, q_lt, q_le, q_eq, q_neg, q_neg1, q_negz, q_negeq0, q_neg0le, q_rem, q_div, q_sub, q_if1, q_if0, q_okB0, q_okB1, q_dz, q_dn, q_nb, and_true, true_and, and_false, false_and, nI_add, pk_mul, if_true, if_false, ite_true, ite_false, Nat.add_zero, Nat.zero_add, Nat.reduceAdd, st_get]
      exact s9 j (by omega)
  · simp (disch := omega) only [q_lit, q_gt, q_bd, q_bxl, q_bxr, q_vib, q_cl, q_pos, q_lt, q_le, q_eq, q_neg, q_neg1, q_negz, q_negeq0, q_neg0le, q_rem, q_div, q_sub, q_if1, q_if0, q_okB0, q_okB1, q_dz, q_dn, q_nb, and_true, true_and, and_false, false_and, nI_add, pk_mul, if_true, if_false, ite_true, ite_false, Nat.add_zero, Nat.zero_add, Nat.reduceAdd, st_get]
    rfl
  · simp (disch := omega) only [q_lit, q_gt, q_bd, q_bxl, q_bxr, q_vib, q_cl, q_pos, q_lt, q_le, q_eq, q_neg, q_neg1, q_negz, q_negeq0, q_neg0le, q_rem, q_div, q_sub, q_if1, q_if0, q_okB0, q_okB1, q_dz, q_dn, q_nb, and_true, true_and, and_false, false_and, nI_add, pk_mul, if_true, if_false, ite_true, ite_false, Nat.add_zero, Nat.zero_add, Nat.reduceAdd, st_row]
  · simp (disch := omega) only [q_lit, q_gt, q_bd, q_bxl, q_bxr, q_vib, q_cl, q_pos, q_lt, q_le, q_eq, q_neg, q_neg1, q_negz, q_negeq0, q_neg0le, q_rem, q_div, q_sub, q_if1, q_if0, q_okB0, q_okB1, q_dz, q_dn, q_nb, and_true, true_and, and_false, false_and, nI_add, pk_mul, if_true, if_false, ite_true, ite_false, Nat.add_zero, Nat.zero_add, Nat.reduceAdd, st_get]
theorem step_semi (N : Nat) {τ : Hp} {c k : Nat} (h : S2 a L τ c k (dgN a L (npN a L (cpN a L c) k))) (hd : dgN a L (npN a L (cpN a L c) k) ≠ 0) (hk : k + 1 = szN (a (cpN a L c))) : ∃ τ', f0_accepts N (nI 59) τ = some (nI 1, τ') ∧ S0 a L τ' (c + 1) ∧ Fr τ τ' := by
  obtain ⟨s1, s2, s3, s4, s5, s6, s7, s8, s9, s10⟩ := h
  have hd3 := dgN_le (a := a) (L := L) (npN a L (cpN a L c) k)
  rw [show szN (a (cpN a L c)) - 1 - k = 0 by omega] at s4
  refine ⟨st τ 79 7 (nI 1), ?_, ⟨?_, ?_, ?_, fun c' hc' => ?_⟩, fun q q1 q2 q3 q4 => ?_, ?_⟩
  · unfold f0_accepts f0_accepts_J34 f0_accepts_J60 f0_isComplete
    simp (disch := omega) only [q_lit, q_gt, q_bd, q_bxl, q_bxr, q_vib, q_cl, q_pos, q_lt, q_le, q_eq, q_neg, q_neg1, q_negz, q_negeq0, q_neg0le, q_rem, q_div, q_sub, q_if1, q_if0, q_okB0, q_okB1, q_dz, q_dn, q_nb, and_true, true_and, and_false, false_and, nI_add, pk_mul, if_true, if_false, ite_true, ite_false, Nat.add_zero, Nat.zero_add, Nat.reduceAdd, s1, s5, s4, s3, st_get]
  · simp (disch := omega) only [q_lit, q_gt, q_bd, q_bxl, q_bxr, q_vib, q_cl, q_pos, q_lt, q_le, q_eq, q_neg, q_neg1, q_negz, q_negeq0, q_neg0le, q_rem, q_div, q_sub, q_if1, q_if0, q_okB0, q_okB1, q_dz, q_dn, q_nb, and_true, true_and, and_false, false_and, nI_add, pk_mul, if_true, if_false, ite_true, ite_false, Nat.add_zero, Nat.zero_add, Nat.reduceAdd, st_get]
  · simp (disch := omega) only [q_lit, q_gt, q_bd, q_bxl, q_bxr, q_vib, q_cl, q_pos, q_lt, q_le, q_eq, q_neg, q_neg1, q_negz, q_negeq0, q_neg0le, q_rem, q_div, q_sub, q_if1, q_if0, q_okB0, q_okB1, q_dz, q_dn, q_nb, and_true, true_and, and_false, false_and, nI_add, pk_mul, if_true, if_false, ite_true, ite_false, Nat.add_zero, Nat.zero_add, Nat.reduceAdd, st_get]
    exact s2
  · show _ = nI (nbN a L c + szN (a (cpN a L c)))
    rw [← hk]
    simp (disch := omega) only [q_lit, q_gt, q_bd, q_bxl, q_bxr, q_vib, q_cl, q_pos, q_lt, q_le, q_eq, q_neg, q_neg1, q_negz, q_negeq0, q_neg0le, q_rem, q_div, q_sub, q_if1, q_if0, q_okB0, q_okB1, q_dz, q_dn, q_nb, and_true, true_and, and_false, false_and, nI_add, pk_mul, if_true, if_false, ite_true, ite_false, Nat.add_zero, Nat.zero_add, Nat.reduceAdd, st_get]
    exact s3
  · simp (disch := omega) only [q_lit, q_gt, q_bd, q_bxl, q_bxr, q_vib, q_cl, q_pos, q_lt, q_le, q_eq, q_neg, q_neg1, q_negz, q_negeq0, q_neg0le, q_rem, q_div, q_sub, q_if1, q_if0, q_okB0, q_okB1, q_dz, q_dn, q_nb, and_true, true_and, and_false, false_and, nI_add, pk_mul, if_true, if_false, ite_true, ite_false, Nat.add_zero, Nat.zero_add, Nat.reduceAdd, st_row]
    by_cases z : c' = c
    · rw [z]
      refine ⟨s7, s8, fun j hj => ?_⟩
      by_cases z2 : j = k
      · rw [z2]
        exact s10
      · exact s9 j (by omega)
    · exact s6 c' (by omega)
  · simp (disch := omega) only [q_lit, q_gt, q_bd, q_bxl, q_bxr, q_vib, q_cl, q_pos, q_lt, q_le, q_eq, q_neg, q_neg1, q_negz, q_negeq0, q_neg0le, q_rem, q_div, q_sub, q_if1, q_if0, q_okB0, q_okB1, q_dz, q_dn, q_nb, and_true, true_and, and_false, false_and, nI_add, pk_mul, if_true, if_false, ite_true, ite_false, Nat.add_zero, Nat.zero_add, Nat.reduceAdd, st_row]
  · simp (disch := omega) only [q_lit, q_gt, q_bd, q_bxl, q_bxr, q_vib, q_cl, q_pos, q_lt, q_le, q_eq, q_neg, q_neg1, q_negz, q_negeq0, q_neg0le, q_rem, q_div, q_sub, q_if1, q_if0, q_okB0, q_okB1, q_dz, q_dn, q_nb, and_true, true_and, and_false, false_and, nI_add, pk_mul, if_true, if_false, ite_true, ite_false, Nat.add_zero, Nat.zero_add, Nat.reduceAdd, st_get]
theorem rej_cmd (N : Nat) {τ : Hp} {c x : Nat} (h : S0 a L τ c) (hx : x < 65536) (hz : szN x = 0) : f0_accepts N (nI x) τ = some (nI 0, τ) := by
  obtain ⟨s1, s2, s3, s4⟩ := h
  rcases szN_cases x with h | ⟨h, e⟩ | ⟨h, e⟩ | ⟨h, e⟩ | ⟨h, e⟩
  · obtain ⟨-, h1, h2, h3, h4⟩ := h
    unfold f0_accepts f0_startCommand f0_sizeOf
    simp (disch := omega) only [q_lit, q_gt, q_bd, q_bxl, q_bxr, q_vib, q_cl, q_pos, q_lt, q_le, q_eq, q_neg, q_neg1, q_negz, q_negeq0, q_neg0le, q_rem, q_div, q_sub, q_if1, q_if0, q_okB0, q_okB1, q_dz, q_dn, q_nb, and_true, true_and, and_false, false_and, nI_add, pk_mul, if_true, if_false, ite_true, ite_false, Nat.add_zero, Nat.zero_add, Nat.reduceAdd, s1]
  all_goals omega
theorem rej_num (N : Nat) {τ : Hp} {c k d x : Nat} (h : S2 a L τ c k d) (hd : d ≤ 3) (hx : x < 65536) (h1 : d = 3 ∨ ¬ (48 ≤ x ∧ x ≤ 57)) (h2 : ¬ (x = 44 ∧ d ≠ 0 ∧ k + 1 < szN (a (cpN a L c)))) (h3 : ¬ (x = 59 ∧ d ≠ 0 ∧ k + 1 = szN (a (cpN a L c)))) (hk : k < szN (a (cpN a L c))) : f0_accepts N (nI x) τ = some (nI 0, τ) := by
  obtain ⟨s1, s2, s3, s4, s5, s6, s7, s8, s9, s10⟩ := h
  have hs6 := szN_le (a (cpN a L c))
  generalize szN (a (cpN a L c)) = n at *
  have J60 : f0_accepts_J60 N (nI x) τ = some (nI 0, τ) := by
    unfold f0_accepts_J60 f0_isComplete
    by_cases z : x = 59
    · by_cases z2 : d = 0
      · simp (disch := omega) only [q_lit, q_gt, q_bd, q_bxl, q_bxr, q_vib, q_cl, q_pos, q_lt, q_le, q_eq, q_neg, q_neg1, q_negz, q_negeq0, q_neg0le, q_rem, q_div, q_sub, q_if1, q_if0, q_okB0, q_okB1, q_dz, q_dn, q_nb, and_true, true_and, and_false, false_and, nI_add, pk_mul, if_true, if_false, ite_true, ite_false, Nat.add_zero, Nat.zero_add, Nat.reduceAdd, s1, s5, s4, z, z2]
      · simp (disch := omega) only [q_lit, q_gt, q_bd, q_bxl, q_bxr, q_vib, q_cl, q_pos, q_lt, q_le, q_eq, q_neg, q_neg1, q_negz, q_negeq0, q_neg0le, q_rem, q_div, q_sub, q_if1, q_if0, q_okB0, q_okB1, q_dz, q_dn, q_nb, and_true, true_and, and_false, false_and, nI_add, pk_mul, if_true, if_false, ite_true, ite_false, Nat.add_zero, Nat.zero_add, Nat.reduceAdd, s1, s5, s4, z]
    · simp (disch := omega) only [q_lit, q_gt, q_bd, q_bxl, q_bxr, q_vib, q_cl, q_pos, q_lt, q_le, q_eq, q_neg, q_neg1, q_negz, q_negeq0, q_neg0le, q_rem, q_div, q_sub, q_if1, q_if0, q_okB0, q_okB1, q_dz, q_dn, q_nb, and_true, true_and, and_false, false_and, nI_add, pk_mul, if_true, if_false, ite_true, ite_false, Nat.add_zero, Nat.zero_add, Nat.reduceAdd]
  have J34 : f0_accepts_J34 N (nI x) τ = some (nI 0, τ) := by
    unfold f0_accepts_J34
    rw [J60]
    by_cases z : x = 44
    · by_cases z2 : d = 0
      · simp (disch := omega) only [q_lit, q_gt, q_bd, q_bxl, q_bxr, q_vib, q_cl, q_pos, q_lt, q_le, q_eq, q_neg, q_neg1, q_negz, q_negeq0, q_neg0le, q_rem, q_div, q_sub, q_if1, q_if0, q_okB0, q_okB1, q_dz, q_dn, q_nb, and_true, true_and, and_false, false_and, nI_add, pk_mul, if_true, if_false, ite_true, ite_false, Nat.add_zero, Nat.zero_add, Nat.reduceAdd, s5, z, z2]
      · simp (disch := omega) only [q_lit, q_gt, q_bd, q_bxl, q_bxr, q_vib, q_cl, q_pos, q_lt, q_le, q_eq, q_neg, q_neg1, q_negz, q_negeq0, q_neg0le, q_rem, q_div, q_sub, q_if1, q_if0, q_okB0, q_okB1, q_dz, q_dn, q_nb, and_true, true_and, and_false, false_and, nI_add, pk_mul, if_true, if_false, ite_true, ite_false, Nat.add_zero, Nat.zero_add, Nat.reduceAdd, s5, s4, z]
    · simp (disch := omega) only [q_lit, q_gt, q_bd, q_bxl, q_bxr, q_vib, q_cl, q_pos, q_lt, q_le, q_eq, q_neg, q_neg1, q_negz, q_negeq0, q_neg0le, q_rem, q_div, q_sub, q_if1, q_if0, q_okB0, q_okB1, q_dz, q_dn, q_nb, and_true, true_and, and_false, false_and, nI_add, pk_mul, if_true, if_false, ite_true, ite_false, Nat.add_zero, Nat.zero_add, Nat.reduceAdd]
  unfold f0_accepts f0_addDigit
  rw [J34]
  by_cases z : x < 48
  · simp (disch := omega) only [q_lit, q_gt, q_bd, q_bxl, q_bxr, q_vib, q_cl, q_pos, q_lt, q_le, q_eq, q_neg, q_neg1, q_negz, q_negeq0, q_neg0le, q_rem, q_div, q_sub, q_if1, q_if0, q_okB0, q_okB1, q_dz, q_dn, q_nb, and_true, true_and, and_false, false_and, nI_add, pk_mul, if_true, if_false, ite_true, ite_false, Nat.add_zero, Nat.zero_add, Nat.reduceAdd, s1]
  · by_cases z2 : 57 < x
    · simp (disch := omega) only [q_lit, q_gt, q_bd, q_bxl, q_bxr, q_vib, q_cl, q_pos, q_lt, q_le, q_eq, q_neg, q_neg1, q_negz, q_negeq0, q_neg0le, q_rem, q_div, q_sub, q_if1, q_if0, q_okB0, q_okB1, q_dz, q_dn, q_nb, and_true, true_and, and_false, false_and, nI_add, pk_mul, if_true, if_false, ite_true, ite_false, Nat.add_zero, Nat.zero_add, Nat.reduceAdd, s1]
    · have z3 : d = 3 := by omega
      simp (disch := omega) only [q_lit, q_gt, q_bd, q_bxl, q_bxr, q_vib, q_cl, q_pos, q_lt, q_le, q_eq, q_neg, q_neg1, q_negz, q_negeq0, q_neg0le, q_rem, q_div, q_sub, q_if1, q_if0, q_okB0, q_okB1, q_dz, q_dn, q_nb, and_true, true_and, and_false, false_and, nI_add, pk_mul, if_true, if_false, ite_true, ite_false, Nat.add_zero, Nat.zero_add, Nat.reduceAdd, s1, s5, z3]
end PB
