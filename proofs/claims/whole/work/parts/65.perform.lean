/-! THE PURE PART. perform: both sides agree. -/
section PF
variable {a : Nat → Nat} {L : Nat}
def vqN (a : Nat → Nat) (L c : Nat) : Nat → Nat := fun k => vlN a L (npN a L (cpN a L c) k)
def dqN (a : Nat → Nat) (L : Nat) (D : Nat → Nat) : Nat → (Nat → Nat)
  | 0 => D
  | c + 1 => exD (dqN a L D c) (a (cpN a L c)) (vqN a L c)
def fqN (a : Nat → Nat) (L : Nat) (D : Nat → Nat) (c : Nat) : Nat := exF (dqN a L D c) (a (cpN a L c)) (vqN a L c)
theorem vl_le (i : Nat) : vlN a L i ≤ 999 := by
  unfold vlN
  have dig : ∀ d, d < dgN a L i → a (i + d) - 48 ≤ 9 := fun d hd => by
    have := (dgB_iff _).mp (dgN_in (a := a) (L := L) i d hd)
    omega
  have d3 := dgN_le (a := a) (L := L) i
  generalize dgN a L i = n at *
  rcases (show n = 0 ∨ n = 1 ∨ n = 2 ∨ n = 3 by omega) with rfl | rfl | rfl | rfl
  · exact Nat.zero_le _
  · have := dig 0 (by omega)
    show 10 * 0 + (a (i + 0) - 48) ≤ 999
    omega
  · have h0 := dig 0 (by omega)
    have h1 := dig 1 (by omega)
    show 10 * (10 * 0 + (a (i + 0) - 48)) + (a (i + 1) - 48) ≤ 999
    omega
  · have h0 := dig 0 (by omega)
    have h1 := dig 1 (by omega)
    have h2 := dig 2 (by omega)
    show 10 * (10 * (10 * 0 + (a (i + 0) - 48)) + (a (i + 1) - 48)) + (a (i + 2) - 48) ≤ 999
    omega
theorem first_fail (F : Nat → Nat) : ∀ C, (∀ c, c < C → F c = 0) ∨ ∃ c0, c0 < C ∧ F c0 ≠ 0 ∧ ∀ c, c < c0 → F c = 0
  | 0 => Or.inl (fun c h => absurd h (Nat.not_lt_zero c))
  | C + 1 => by
    rcases first_fail F C with h | ⟨c0, h1, h2, h3⟩
    · by_cases z : F C = 0
      · left
        intro c hc
        by_cases e : c = C
        · rw [e]
          exact z
        · exact h c (by omega)
      · exact Or.inr ⟨C, by omega, z, h⟩
    · exact Or.inr ⟨c0, by omega, h2, h3⟩
theorem nb_cp (C : Nat) (h : ∀ c, c < C → (cmE a L (cpN a L c)).1 = true) : ∀ c, c ≤ C → nbN a L c + c ≤ cpN a L c
  | 0, _ => Nat.le_refl _
  | c + 1, hc => by
    have ih := nb_cp C h c (by omega)
    rw [cpN_true (h c (by omega))]
    have ge := npN_ge (a := a) (L := L) (cpN a L c) (szN (a (cpN a L c)))
    show nbN a L c + szN (a (cpN a L c)) + (c + 1) ≤ _
    omega
theorem TxtN.b {C : Nat} (h : TxtN a L 0 C) (hL : L ≤ 80) {c : Nat} (hc : c < C) : nbN a L c + szN (a (cpN a L c)) ≤ 80 := by
  have h2 := nb_cp (a := a) (L := L) C (fun c hc => (h.2.1 c (Nat.zero_le c) hc).2.2) C (Nat.le_refl _)
  have h3 := nbN_mono (a := a) (L := L) c C hc
  have := h.2.2.2
  omega
theorem TxtN.lt {C : Nat} (h : TxtN a L 0 C) {c : Nat} (hc : c < C) : cpN a L c < L ∧ szN (a (cpN a L c)) ≠ 0 ∧ (cmE a L (cpN a L c)).1 = true := h.2.1 c (Nat.zero_le c) hc
theorem f0_letter (N : Nat) {τ : Hp} {c x : Nat} (hc : c < 80) (hx : x < 65536) (h : τ 81 c = nI x) : f0_letterOf N (nI c) τ = some (nI x, τ) := by
  have ok : okC (nI x) = true := by
    unfold okC
    rw [char_ok hx]
    exact decide_eq_true rfl
  unfold f0_letterOf f0_isCommand
  simp (disch := omega) only [q_lit, q_gt, q_bd, q_bxl, q_bxr, q_vib, q_cl, q_pos, q_lt, q_le, q_eq, q_neg, q_neg1, q_negz, q_negeq0, q_neg0le, q_rem, q_div, q_sub, q_if1, q_if0, q_okB0, q_okB1, q_dz, q_dn, q_nb, and_true, true_and, and_false, false_and, nI_add, pk_mul, if_true, if_false, ite_true, ite_false, Nat.add_zero, Nat.zero_add, Nat.reduceAdd, h, ok]
theorem f0_number (N : Nat) {τ : Hp} {c b k v : Nat} (hc : c < 80) (hb : b + k < 80) (h : τ 82 c = nI b) (h2 : τ 83 (b + k) = nI v) : f0_numberOf N (nI c) (nI k) τ = some (nI v, τ) := by
  unfold f0_numberOf f0_numberOf_J19 f0_isCommand
  simp (disch := omega) only [q_lit, q_gt, q_bd, q_bxl, q_bxr, q_vib, q_cl, q_pos, q_lt, q_le, q_eq, q_neg, q_neg1, q_negz, q_negeq0, q_neg0le, q_rem, q_div, q_sub, q_if1, q_if0, q_okB0, q_okB1, q_dz, q_dn, q_nb, and_true, true_and, and_false, false_and, nI_add, pk_mul, if_true, if_false, ite_true, ite_false, Nat.add_zero, Nat.zero_add, Nat.reduceAdd, h, h2]
/-- one command, by the class -/
theorem s5_one (N : Nat) (hN : 500 ≤ N) (hL : L ≤ 80) (hA : ∀ i, i < L → a i < 65536) {C : Nat} (hT : TxtN a L 0 C) (hC : C ≤ 80) {D : Nat → Nat} {c : Nat} (hc : c < C) {τ : Hp} (h4 : TbC a L τ C) (hE : EdR τ 6 (dqN a L D c)) (hD : DOk (dqN a L D c)) : ∃ τ', f5_carryOut N (nI c) τ = some (nI (fqN a L D c), τ') ∧ (∀ k, k < 6 ∨ 10 < k → τ' k = τ k) ∧ (fqN a L D c = 0 → EdR τ' 6 (dqN a L D (c + 1)) ∧ DOk (dqN a L D (c + 1))) := by
  obtain ⟨l1, l2, l3⟩ := hT.lt hc
  obtain ⟨t1, t2, t3⟩ := h4 c hc
  have b := hT.b hL hc
  exact s5_carry N hN hE hD l2 (f0_letter N (by omega) (hA _ l1) t1) (fun k hk => f0_number N (by omega) (by omega) t2 (t3 k hk)) (fun k => vl_le _)
theorem s5_exec (N : Nat) (hN : 500 ≤ N) (hL : L ≤ 80) (hA : ∀ i, i < L → a i < 65536) {C : Nat} (hT : TxtN a L 0 C) (hC : C ≤ 80) {D : Nat → Nat} (K : Hp → Option ((Int32 ⊕ Nat) × Hp)) : ∀ (r c m : Nat) (τ : Hp), c + r ≤ C → (∀ j, j < c + r → fqN a L D j = 0) → τ 79 4 = nI C → TbC a L τ C → EdR τ 6 (dqN a L D c) → DOk (dqN a L D c) → ∃ τ', it (fun _ _ => none) (f5_perform_B31 N K) (m + r) (nI c) τ = it (fun _ _ => none) (f5_perform_B31 N K) m (nI (c + r)) τ' ∧ EdR τ' 6 (dqN a L D (c + r)) ∧ DOk (dqN a L D (c + r)) ∧ ∀ k, k < 6 ∨ 10 < k → τ' k = τ k
  | 0, c, m, τ, _, _, _, _, hE, hD => ⟨τ, rfl, hE, hD, fun _ _ => rfl⟩
  | r + 1, c, m, τ, hr, hf, h4, hTb, hE, hD => by
    obtain ⟨τ1, a1, a2, a3⟩ := s5_one N hN hL hA hT hC (c := c) (by omega) hTb hE hD
    have z := hf c (by omega)
    obtain ⟨e1, e2⟩ := a3 z
    obtain ⟨τ', g1, g2, g3, g4⟩ := s5_exec N hN hL hA hT hC K r (c + 1) m τ1 (by omega) (fun j hj => hf j (by omega)) (by rw [a2 79 (by omega)]; exact h4) (hTb.congr (fun _ _ => by rw [a2 81 (by omega)]) (fun _ _ => by rw [a2 82 (by omega)]) (fun _ _ => by rw [a2 83 (by omega)])) e1 e2
    rw [show c + 1 + r = c + (r + 1) by omega] at g1 g2 g3
    refine ⟨τ', ?_, g2, g3, fun k hk => (g4 k hk).trans (a2 k hk)⟩
    rw [← g1, show m + (r + 1) = m + r + 1 by omega, it_s]
    generalize it (fun _ _ => none) (f5_perform_B31 N K) (m + r) = t
    unfold f5_perform_B31 f0_commandCount
    rw [q_bd, h4, if_neg (show ¬ nI C ≤ nI c from nI_ge (a := c) (b := C) (by omega) (by omega)), a1, q_bd, z, if_pos (show nI 0 = 0 from rfl), show (nI c + 1 : Int32) = nI (c + 1) from nI_1 c]
/-- to the beginning of a command, in the reference's second reading -/
theorem s6_begin2 (N : Nat) {C : Nat} (hT : TxtN a L 0 C) {c : Nat} (hc : c < C) {τ : Hp} (h : RS a L τ (cpN a L c - 1) 0) (K : Int32 → Hp → Option (Int32 × Hp)) (t : Int32 → Hp → Option (Int32 × Hp)) : ∃ τ1, f6_perform_B84 N K t (nI c) τ = f6_perform_J109 N K t (nI c) τ1 ∧ RS a L τ1 (cpN a L c) 0 ∧ FrR τ τ1 ∧ τ1 99 = τ 99 := by
  obtain ⟨l1, l2, l3⟩ := hT.lt hc
  have hL := h.2.2.2.1
  have nb := nb_cp (a := a) (L := L) C (fun c hc => (hT.2.1 c (Nat.zero_le c) hc).2.2) c (by omega)
  have top : ¬ nI L ≤ nI (cpN a L c - 1) := nI_ge (by omega) (by omega)
  by_cases z : c = 0
  · subst z
    refine ⟨τ, ?_, h, FrR.refl τ, rfl⟩
    unfold f6_perform_B84
    rw [h.2.2.1, h.2.1, if_neg top]
    rfl
  · refine ⟨st τ 84 20 (nI (cpN a L c)), ?_, h.p (by omega), FrR.st84 _ _ (Or.inl rfl), st_row _ _ _ _ (by omega)⟩
    unfold f6_perform_B84
    rw [h.2.2.1, h.2.1, if_neg top, if_neg (show ¬ nI c ≤ 0 from nI_ge (a := 0) (b := c) (by omega) (by omega)), show (nI (cpN a L c - 1) + 1 : Int32) = nI (cpN a L c) by
      rw [show (1 : Int32) = nI 1 from rfl, nI_add]
      congr 1
      omega]
/-- one command, by the reference -/
theorem s6_one (N : Nat) (hN : 500 ≤ N) {C : Nat} (hT : TxtN a L 0 C) {D : Nat → Nat} {c : Nat} (hc : c < C) {τ : Hp} (h : RS a L τ (cpN a L c - 1) 0) (h0 : τ 84 0 = nI 0) (hNw : NwR τ 85 (dqN a L D c)) (hD : DOk (dqN a L D c)) (K : Int32 → Hp → Option (Int32 × Hp)) (t : Int32 → Hp → Option (Int32 × Hp)) : (fqN a L D c = 0 → ∃ τ', f6_perform_B84 N K t (nI c) τ = t (nI (c + 1)) τ' ∧ RS a L τ' (cpN a L (c + 1) - 1) 0 ∧ τ' 84 0 = nI 0 ∧ NwR τ' 85 (dqN a L D (c + 1)) ∧ (∀ k, k ≠ 84 → k ≠ 85 → k ≠ 99 → τ' k = τ k) ∧ ∀ i, i ≠ 20 → i ≠ 23 → τ' 84 i = τ 84 i) ∧ (fqN a L D c ≠ 0 → ∃ τ', f6_perform_B84 N K t (nI c) τ = bd (f6_copies N 86 166 85 166 0 0 τ') (fun _ σ137 => bd (f6_fails N 1 (st (st (st σ137 84 21 (nI c)) 84 22 ((st σ137 84 21 (nI c)) 84 0)) 84 19 0)) (fun r160 σ160 => some (r160, σ160))) ∧ τ' 84 0 = nI (fqN a L D c) ∧ (∀ k, k ≠ 84 → k ≠ 85 → k ≠ 99 → τ' k = τ k) ∧ ∀ i, i ≠ 0 → i ≠ 20 → i ≠ 23 → τ' 84 i = τ 84 i) := by
  obtain ⟨l1, l2, l3⟩ := hT.lt hc
  obtain ⟨τ1, b1, b2, b3, b4⟩ := s6_begin2 N hT hc h K t
  obtain ⟨x, τ2, c1, c2, c3, c4⟩ := s6_command N hN b2
  have oc : ocN a L (cpN a L c) = cmE a L (cpN a L c) := if_pos ⟨l1, l2⟩
  rw [oc, l3, if_pos rfl] at c3
  rw [oc] at c4
  obtain ⟨rfl, c5⟩ := c4 l3
  have n2 : NwR τ2 85 (dqN a L D c) := hNw.congr (by rw [c2.1 85 (by omega) (by omega), b3.1 85 (by omega) (by omega)])
  have d := s6_does (σ := τ2) N hN n2 hD (x := a (cpN a L c)) (v := vqN a L c) l2 (fun k hk => c5 k hk) (fun k => vl_le _)
  have hle := exF_le (dqN a L D c) (a (cpN a L c)) (vqN a L c)
  have z0 : τ2 84 0 = nI 0 := by rw [c2.2 0 (by omega) (by omega), b3.2 0 (by omega) (by omega)]; exact h0
  constructor
  · intro z
    obtain ⟨r, τ3, d1, d2, d3⟩ := d.2 z
    refine ⟨τ3, ?_, ?_, by rw [d3 84 (by omega)]; exact z0, d2, fun k k1 k2 k3 => by rw [d3 k k2, c2.1 k k1 k3, b3.1 k k1 k3], fun i i1 i2 => by rw [d3 84 (by omega), c2.2 i i1 i2, b3.2 i i1 i2]⟩
    · rw [b1]
      unfold f6_perform_J109
      rw [c1, q_bd, d1, q_bd, d3 84 (by omega), z0, if_pos (show nI 0 = 0 from rfl), show (nI c + 1 : Int32) = nI (c + 1) from nI_1 c]
    · obtain ⟨r1, r2, r3, r4, r5, r6⟩ := c3
      exact ⟨by rw [d3 84 (by omega)]; exact r1, by rw [d3 84 (by omega)]; exact r2, by rw [d3 84 (by omega)]; exact r3, r4, r5, fun i hi => ⟨(r6 i hi).1, by rw [d3 98 (by omega)]; exact (r6 i hi).2⟩⟩
  · intro z
    refine ⟨st τ2 84 0 (nI (fqN a L D c)), ?_, st_same _ _ _ _, fun k k1 k2 k3 => by rw [st_row _ _ _ _ k1, c2.1 k k1 k3, b3.1 k k1 k3], fun i i0 i1 i2 => by rw [st_ne _ _ _ _ (Or.inr i0), c2.2 i i1 i2, b3.2 i i1 i2]⟩
    rw [b1]
    unfold f6_perform_J109
    rw [c1, q_bd, d.1 z, q_bd, st_same, if_neg (nI_ne0 (by unfold fqN at z; omega) (by omega))]
    rfl
theorem s6_exec (N : Nat) (hN : 500 ≤ N) {C : Nat} (hT : TxtN a L 0 C) {D : Nat → Nat} (K : Int32 → Hp → Option (Int32 × Hp)) : ∀ (r c m : Nat) (τ : Hp), c + r ≤ C → (∀ j, j < c + r → fqN a L D j = 0) → (∀ j, j ≤ c + r → DOk (dqN a L D j)) → RS a L τ (cpN a L c - 1) 0 → τ 84 0 = nI 0 → NwR τ 85 (dqN a L D c) → ∃ τ', it (fun _ _ => none) (f6_perform_B84 N K) (m + r) (nI c) τ = it (fun _ _ => none) (f6_perform_B84 N K) m (nI (c + r)) τ' ∧ RS a L τ' (cpN a L (c + r) - 1) 0 ∧ τ' 84 0 = nI 0 ∧ NwR τ' 85 (dqN a L D (c + r)) ∧ (∀ k, k ≠ 84 → k ≠ 85 → k ≠ 99 → τ' k = τ k) ∧ ∀ i, i ≠ 20 → i ≠ 23 → τ' 84 i = τ 84 i
  | 0, c, m, τ, _, _, _, h1, h2, h3 => ⟨τ, rfl, h1, h2, h3, fun _ _ _ _ => rfl, fun _ _ _ => rfl⟩
  | r + 1, c, m, τ, hr, hf, hD, h1, h2, h3 => by
    obtain ⟨τ1, a1, a2, a3, a4, a5, a6⟩ := (s6_one N hN hT (c := c) (by omega) h1 h2 h3 (hD c (by omega)) K (it (fun _ _ => none) (f6_perform_B84 N K) (m + r))).1 (hf c (by omega))
    obtain ⟨τ', g1, g2, g3, g4, g5, g6⟩ := s6_exec N hN hT K r (c + 1) m τ1 (by omega) (fun j hj => hf j (by omega)) (fun j hj => hD j (by omega)) a2 a3 a4
    rw [show c + 1 + r = c + (r + 1) by omega] at g1 g2 g4
    refine ⟨τ', ?_, g2, g3, g4, fun k k1 k2 k3 => (g5 k k1 k2 k3).trans (a5 k k1 k2 k3), fun i i1 i2 => (g6 i i1 i2).trans (a6 i i1 i2)⟩
    rw [← g1, show m + (r + 1) = m + r + 1 by omega, it_s]
    exact a1
theorem inv_perf {σ σ' : Hp} (h : Inv σ) (e : ∀ k, (0 < k ∧ k < 6) ∨ (10 < k ∧ k ≤ 64) ∨ (74 ≤ k ∧ k ≤ 78) ∨ k = 87 ∨ k = 88 ∨ k = 96 ∨ k = 97 → σ' k = σ k) (hN : ∀ D, NwR σ 85 D → NwR σ' 85 D) (e8 : σ' 0 8 = σ 0 8) (e5 : σ' 84 5 = σ 84 5) (e6 : σ' 84 6 = σ 84 6) (hI : Inp σ') (hR : Rep σ') : Inv σ' := by
  obtain ⟨D, ⟨h1, h2, h3⟩, h4, ⟨c, n, Es, h5, h6⟩, hSav, hSh, -, -⟩ := h
  refine ⟨D, ⟨h1, h2.congr (fun k k1 k2 => e k (by omega)), hN D h3⟩, h4.congr (fun k k1 k2 => e k (by omega)), ⟨c, n, Es, h5.congr (fun k hk => e k (by omega)), h6.congr (e 88 (by omega)) e5⟩, ?_, ?_, hI, hR⟩
  · unfold Sav at hSav ⊢
    rw [e8, e6]
    rcases hSav with h1 | ⟨a, b, E, e1, e2, e3⟩
    · exact Or.inl h1
    · exact Or.inr ⟨a, b, E, e1, e2.congr (fun k k1 k2 => e k (by omega)), e3.congr (e 87 (by omega))⟩
  · unfold Shf at hSh ⊢
    rw [e 77 (by omega), e 78 (by omega), e 96 (by omega), e 97 (by omega)]
    exact hSh
end PF
