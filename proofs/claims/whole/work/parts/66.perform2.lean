/-! THE PURE PART. perform: both sides agree. -/
section PG
variable {a : Nat → Nat} {L : Nat}
def kP (N : Nat) (σL19 : Hp) : Option (Int32 × Hp) := if (σL19 84 23) = 0 then if (σL19 84 19) ≤ (σL19 84 20) then f6_perform_L84 N (fun x2_84 σL84 => bd (f6_ends N x2_84 (st σL84 84 19 0)) (fun r177 σ177 => some (r177, σ177))) N 0 (st σL19 84 20 0) else f6_perform_J64 N σL19 else f6_perform_J64 N σL19
theorem s6_first (N : Nat) (hN : 500 ≤ N) {ρ : Hp} {D : Nat → Nat} (hNw : NwR ρ 85 D) (hL : L ≤ 80) (h19 : ρ 84 19 = nI L) (hA : ∀ i, i < L → a i < 65536 ∧ ρ 98 i = nI (a i)) : ∃ τ w, f6_perform N ρ = kP N τ ∧ NwR τ 86 D ∧ NwR τ 85 D ∧ τ 84 0 = nI 0 ∧ RS a L τ (teN a L (L + 1) 0).2 w ∧ (((teN a L (L + 1) 0).1 = true ∧ w = 0 ∧ (teN a L (L + 1) 0).2 = L) ∨ ((teN a L (L + 1) 0).1 = false ∧ (w = 1 ∨ (w = 0 ∧ (teN a L (L + 1) 0).2 < L)))) ∧ (∀ k, k ≠ 84 → k ≠ 86 → k ≠ 99 → τ k = ρ k) ∧ ∀ i, i ≠ 0 → i ≠ 20 → i ≠ 23 → τ 84 i = ρ 84 i := by
  obtain ⟨τb, b1, b2, b3, b4, b5⟩ := s6_begins N hN hNw
  have rs : RS a L (st (st τb 84 20 (nI 0)) 84 23 (nI 0)) 0 0 := ⟨st_same _ _ _ _, by rw [st_ne _ _ _ _ (Or.inr (by omega)), st_same], by rw [st_ne _ _ _ _ (Or.inr (by omega)), st_ne _ _ _ _ (Or.inr (by omega)), b4 19 (by omega)]; exact h19, hL, Nat.zero_le _, fun i hi => ⟨(hA i hi).1, by rw [st_row _ _ _ _ (by omega), st_row _ _ _ _ (by omega), b5 98 (by omega) (by omega)]; exact (hA i hi).2⟩⟩
  obtain ⟨x, τ1, c1, c2, c3, -⟩ := s6_command N hN rs
  obtain ⟨τ2, t1, t2, w, t3, t4⟩ := s6_text N hN (kP N) L 0 N τ1 c3 (by omega) (by omega)
  have f1 : FrR (st (st τb 84 20 (nI 0)) 84 23 (nI 0)) τ2 := c2.trans t2
  have fr : ∀ k, k ≠ 84 → k ≠ 99 → τ2 k = τb k := fun k k1 k2 => by rw [f1.1 k k1 k2, st_row _ _ _ _ k1, st_row _ _ _ _ k1]
  have f84 : ∀ i, i ≠ 20 → i ≠ 23 → τ2 84 i = τb 84 i := fun i i1 i2 => by rw [f1.2 i i1 i2, st_ne _ _ _ _ (Or.inr i2), st_ne _ _ _ _ (Or.inr i1)]
  refine ⟨τ2, w, ?_, b2.congr (fr 86 (by omega) (by omega)), hNw.congr (by rw [fr 85 (by omega) (by omega), b5 85 (by omega) (by omega)]), by rw [f84 0 (by omega) (by omega)]; exact b3, t3, t4, fun k k1 k2 k3 => by rw [fr k k1 k3, b5 k k1 k2], fun i i0 i1 i2 => by rw [f84 i i1 i2, b4 i i0]⟩
  unfold f6_perform
  rw [b1, q_bd, show f6_command N (st (st τb 84 20 0) 84 23 0) = some (x, τ1) from c1, q_bd]
  exact t1
end PG
theorem inp_0 {σ : Hp} (h1 : σ 79 1 = nI 0) (h2 : σ 84 19 = nI 0) : Inp σ := ⟨0, by omega, h1, h2, fun i hi => absurd hi (Nat.not_lt_zero i)⟩
theorem case_perform {σ : Hp} (hI : Inv σ) (N : Nat) (hN : 500 ≤ N) : Agree (fL_perform N) (f6_perform N) σ := by
  obtain ⟨D, ⟨h1, h2, h3⟩, h4, ⟨c, n, Es, h5, h6⟩, hSav, hSh, ⟨L, l1, l2, l3, l4⟩, hRep⟩ := id hI
  obtain ⟨a, ha⟩ : ∃ a : Nat → Nat, ∀ i, i < L → a i < 65536 ∧ σ 80 i = nI (a i) ∧ σ 98 i = nI (a i) := ⟨fun i => (σ 80 i).toNatClampNeg, fun i hi => by
    obtain ⟨x, x1, x2, x3⟩ := l4 i hi
    show (σ 80 i).toNatClampNeg < 65536 ∧ σ 80 i = nI (σ 80 i).toNatClampNeg ∧ σ 98 i = nI (σ 80 i).toNatClampNeg
    rw [x2, q_cl (by omega)]
    exact ⟨x1, rfl, x3⟩⟩
  obtain ⟨τ0, hτ0⟩ : ∃ τ0, τ0 = st (st (st (st σ 79 1 (nI 0)) 79 4 (nI 0)) 79 6 (nI 0)) 79 7 (nI 1) := ⟨_, rfl⟩
  have hrow0 : ∀ k, k ≠ 79 → τ0 k = σ k := fun k hk => by rw [hτ0, st_row _ _ _ _ hk, st_row _ _ _ _ hk, st_row _ _ _ _ hk, st_row _ _ _ _ hk]
  have hA0 : LtC a L τ0 := ⟨l1, fun i hi => ⟨(ha i hi).1, by rw [hrow0 80 (by omega)]; exact (ha i hi).2.1⟩⟩
  have hS0 : S0 a L τ0 0 := ⟨by rw [hτ0]; simp (disch := omega) only [q_lit, q_gt, q_bd, q_bxl, q_bxr, q_vib, q_cl, q_pos, q_lt, q_le, q_eq, q_neg, q_neg1, q_negz, q_negeq0, q_neg0le, q_rem, q_div, q_sub, q_if1, q_if0, q_okB0, q_okB1, q_dz, q_dn, q_nb, and_true, true_and, and_false, false_and, nI_add, pk_mul, if_true, if_false, ite_true, ite_false, Nat.add_zero, Nat.zero_add, Nat.reduceAdd, st_get], by rw [hτ0]; simp (disch := omega) only [q_lit, q_gt, q_bd, q_bxl, q_bxr, q_vib, q_cl, q_pos, q_lt, q_le, q_eq, q_neg, q_neg1, q_negz, q_negeq0, q_neg0le, q_rem, q_div, q_sub, q_if1, q_if0, q_okB0, q_okB1, q_dz, q_dn, q_nb, and_true, true_and, and_false, false_and, nI_add, pk_mul, if_true, if_false, ite_true, ite_false, Nat.add_zero, Nat.zero_add, Nat.reduceAdd, st_get], by rw [hτ0]; simp (disch := omega) only [q_lit, q_gt, q_bd, q_bxl, q_bxr, q_vib, q_cl, q_pos, q_lt, q_le, q_eq, q_neg, q_neg1, q_negz, q_negeq0, q_neg0le, q_rem, q_div, q_sub, q_if1, q_if0, q_okB0, q_okB1, q_dz, q_dn, q_nb, and_true, true_and, and_false, false_and, nI_add, pk_mul, if_true, if_false, ite_true, ite_false, Nat.add_zero, Nat.zero_add, Nat.reduceAdd, st_get]; rfl, fun c' h => absurd h (Nat.not_lt_zero _)⟩
  obtain ⟨τp, fr, out⟩ := rdText N (L + 1) 0 N τ0 hA0 hS0 (Nat.le_refl _) (Nat.le_refl _) (Nat.zero_le _) (show L < N + 0 by omega) (show L < L + 1 + 0 by omega)
  have pe : f0_parseAndEmpty N σ = rnC N L N (cpN a L 0) τ0 := by
    unfold f0_parseAndEmpty
    rw [l2, hτ0]
    rfl
  have frp : ∀ k, k ≠ 79 → k ≠ 81 → k ≠ 82 → k ≠ 83 → τp k = σ k := fun k k1 k2 k3 k4 => by rw [fr.1 k k1 k2 k3 k4, hrow0 k k1]
  have fp1 : τp 79 1 = nI 0 := by rw [fr.2, hτ0]; simp (disch := omega) only [q_lit, q_gt, q_bd, q_bxl, q_bxr, q_vib, q_cl, q_pos, q_lt, q_le, q_eq, q_neg, q_neg1, q_negz, q_negeq0, q_neg0le, q_rem, q_div, q_sub, q_if1, q_if0, q_okB0, q_okB1, q_dz, q_dn, q_nb, and_true, true_and, and_false, false_and, nI_add, pk_mul, if_true, if_false, ite_true, ite_false, Nat.add_zero, Nat.zero_add, Nat.reduceAdd, st_get]
  rcases out with ⟨C, o1, o2, o3, o4, o5, o6⟩ | ⟨o1, o2, o3⟩
  · -- the text is right
    have hAll : ∀ i, i < L → a i < 65536 := fun i hi => (ha i hi).1
    have hC1 : 0 < C := o2.1
    obtain ⟨σ1, a1, a2, a3⟩ := s1_copyFrom (σ := τp) N 6 1 hN (h2.congr (fun k k1 k2 => frp k (by omega) (by omega) (by omega) (by omega))) h1 (by omega)
    have r1 : ∀ k, k < 6 ∨ 10 < k → σ1 k = τp k := fun k hk => a3 k (by omega)
    have e4 : σ1 79 4 = nI C := by rw [r1 79 (by omega)]; exact o3
    have eT : TbC a L σ1 C := o5.congr (fun _ _ => by rw [r1 81 (by omega)]) (fun _ _ => by rw [r1 82 (by omega)]) (fun _ _ => by rw [r1 83 (by omega)])
    have hcls : ∀ K, f5_perform_L31 N K N 0 σ1 = it (fun _ _ => none) (f5_perform_B31 N K) N (nI 0) σ1 := fun K => rfl
    have top : ∀ c, c < C → ¬ nI C ≤ nI c := fun c hc => nI_ge (a := c) (b := C) hc (by omega)
    rcases first_fail (fqN a L D) C with hok | ⟨c0, f1, f2, f3⟩
    · -- no command fails
      have hDk : ∀ j, j ≤ C → DOk (dqN a L D j) := fun j hj => by
        obtain ⟨-, -, -, q, -⟩ := s5_exec N hN l1 hAll o2 o4 (D := D) (fun _ => none) j 0 0 σ1 (by omega) (fun i hi => hok i (by omega)) e4 eT a2 h1
        rw [Nat.zero_add] at q
        exact q
      obtain ⟨m, hm⟩ : ∃ m, N = m + 1 + C := ⟨N - 1 - C, by omega⟩
      obtain ⟨σ2, g1, g2, g3, g4⟩ := s5_exec N hN l1 hAll o2 o4 (D := D) (fun σL31 => bd (f2_remember N 1 σL31) (fun _ σ89 => bd (f1_copyFrom N 1 6 σ89) (fun _ σ100 => bd (f3_layOut N 56 σ100) (fun _ σ107 => bd (f0_commandCount N σ107) (fun r114 σ114 => some (.inl r114, σ114)))))) C 0 (m + 1) σ1 (by omega) (fun i hi => hok i (by omega)) e4 eT a2 h1
      rw [← hm, Nat.zero_add, it_s] at g1
      rw [Nat.zero_add] at g2 g3
      have fr2 : ∀ k, (k < 6 ∨ 10 < k) → k ≠ 79 → k ≠ 81 → k ≠ 82 → k ≠ 83 → σ2 k = σ k := fun k hk k1 k2 k3 k4 => by rw [g4 k hk, r1 k hk, frp k k1 k2 k3 k4]
      have e79 : σ2 79 = τp 79 := by rw [g4 79 (by omega), r1 79 (by omega)]
      obtain ⟨σm, m1, m2⟩ := mut_class2 (σ := σ2) (D := D) (D' := dqN a L D C) (β := (Int32 ⊕ Nat) × Hp) N hN (h2.congr (fun k k1 k2 => fr2 k (by omega) (by omega) (by omega) (by omega) (by omega))) h1 g3 g2 (h5.congr (fun k hk => fr2 k (by omega) (by omega) (by omega) (by omega) (by omega)))
      obtain ⟨m3, m4, m5, m6⟩ := m2
      have frm : ∀ k, (k = 0 ∨ (10 < k ∧ k < 16) ∨ (64 < k ∧ k ≠ 74)) → k ≠ 79 → k ≠ 81 → k ≠ 82 → k ≠ 83 → σm k = σ k := fun k hk k1 k2 k3 k4 => by rw [m6 k (by omega), fr2 k (by omega) k1 k2 k3 k4]
      have em79 : σm 79 = τp 79 := by rw [m6 79 (by omega), e79]
      -- the class
      have hA : fL_perform N σ = some (nI 0, st σm 100 0 (nI C)) := by
        unfold fL_perform f5_perform
        rw [pe, o6, q_bd, if_pos (show -nI 1 = -1 from rfl), a1, q_bd, hcls, g1]
        unfold f5_perform_B31
        have cc : ∀ τ : Hp, f0_commandCount N τ = some (τ 79 4, τ) := fun τ => rfl
        have m1' := m1 (fun σ107 => bd (f0_commandCount N σ107) (fun r114 σ114 => some (Sum.inl r114, σ114)))
        rw [cc σm, q_bd, em79, o3] at m1'
        rw [cc σ2, q_bd, e79, o3, if_pos (show nI C ≤ nI C from Int32.le_refl _)]
        refine Eq.trans (congrArg (fun x => bh x _ _) (show _ = _ from m1')) ?_
        rfl
      -- the reference
      have fq : ∀ k, k ≠ 100 → st σm 100 0 (nI C) k = σm k := fun k hk => st_row _ _ _ _ hk
      obtain ⟨τ, w, b1, b2, b3, b4, b5, b6, b7, b8⟩ := s6_first (ρ := st σm 100 0 (nI C)) (a := a) (L := L) (D := D) N hN (h3.congr (by rw [fq 85 (by omega), frm 85 (by omega) (by omega) (by omega) (by omega) (by omega)])) l1 (by rw [fq 84 (by omega), frm 84 (by omega) (by omega) (by omega) (by omega) (by omega)]; exact l3) (fun i hi => ⟨hAll i hi, by rw [fq 98 (by omega), frm 98 (by omega) (by omega) (by omega) (by omega) (by omega)]; exact (ha i hi).2.2⟩)
      have o1' : (teN a L (L + 1) 0).1 = true := o1
      rw [o1'] at b6
      obtain ⟨w0, pL⟩ : w = 0 ∧ (teN a L (L + 1) 0).2 = L := by
        rcases b6 with ⟨-, q1, q2⟩ | ⟨q, -⟩
        · exact ⟨q1, q2⟩
        · cases q
      rw [w0, pL] at b5
      obtain ⟨ρ2, p1, p2, p3, p4, p5, p6⟩ := s6_exec N hN o2 (D := D) (fun x2_84 σL84 => bd (f6_ends N x2_84 (st σL84 84 19 0)) (fun r177 σ177 => some (r177, σ177))) C 0 (m + 1) (st τ 84 20 (nI 0)) (by omega) (fun i hi => hok i (by omega)) (fun i hi => hDk i (by omega)) (b5.p (Nat.zero_le _)) (by rw [st_ne _ _ _ _ (Or.inr (by omega))]; exact b4) (b3.congr (st_row _ _ _ _ (by omega)))
      rw [← hm, Nat.zero_add, it_s] at p1
      rw [Nat.zero_add] at p2 p4
      rw [o2.2.2.2, Nat.add_sub_cancel] at p2
      have fp : ∀ k, k ≠ 84 → k ≠ 85 → k ≠ 86 → k ≠ 99 → k ≠ 100 → ρ2 k = σm k := fun k k1 k2 k3 k4 k5 => by rw [p5 k k1 k2 k4, st_row _ _ _ _ k1, b7 k k1 k3 k4, fq k k5]
      have fp84 : ∀ i, i ≠ 0 → i ≠ 20 → i ≠ 23 → ρ2 84 i = σ 84 i := fun i i0 i1 i2 => by rw [p6 i i1 i2, st_ne _ _ _ _ (Or.inr i1), b8 i i0 i1 i2, fq 84 (by omega), frm 84 (by omega) (by omega) (by omega) (by omega) (by omega)]
      have h6' : HiM (st ρ2 84 19 (nI 0)) c Es := h6.congr (by rw [st_row _ _ _ _ (by omega), fp 88 (by omega) (by omega) (by omega) (by omega) (by omega), frm 88 (by omega) (by omega) (by omega) (by omega) (by omega)]) (by rw [st_ne _ _ _ _ (Or.inr (by omega)), fp84 5 (by omega) (by omega) (by omega)])
      have b86 : NwR (st ρ2 84 19 (nI 0)) 86 D := b2.congr (by rw [st_row _ _ _ _ (by omega), p5 86 (by omega) (by omega) (by omega), st_row _ _ _ _ (by omega)])
      obtain ⟨σ', s1, s2, s3, s4⟩ := s6_ends (σ := st ρ2 84 19 (nI 0)) (D := D) N c hN (nI C) Es b86 h5.2.2.1 h6' (by rw [st_ne _ _ _ _ (Or.inr (by omega))]; exact p3)
      have ff : ∀ k, k ≠ 84 → k ≠ 85 → k ≠ 86 → k ≠ 88 → k ≠ 99 → k ≠ 100 → σ' k = σm k := fun k k1 k2 k3 k4 k5 k6 => by rw [s4 k k1 k4, st_row _ _ _ _ k1, fp k k1 k2 k3 k5 k6]
      have ff84 : ∀ i, i ≠ 0 → i ≠ 5 → i ≠ 19 → i ≠ 20 → i ≠ 23 → σ' 84 i = σ 84 i := fun i i0 i1 i2 i3 i4 => by rw [s3 i i1, st_ne _ _ _ _ (Or.inr i2), fp84 i i0 i3 i4]
      refine ⟨0, _, nI C, σ', by omega, hA, ?_, ?_, fun _ => ?_, dqN a L D C, ⟨g3, m3.congr (fun k k1 k2 => ff k (by omega) (by omega) (by omega) (by omega) (by omega) (by omega)), p4.congr (by rw [s4 85 (by omega) (by omega), st_row _ _ _ _ (by omega)])⟩, m4.congr (fun k k1 k2 => ff k (by omega) (by omega) (by omega) (by omega) (by omega) (by omega)), ⟨_, _, _, m5.congr (fun k hk => ff k (by omega) (by omega) (by omega) (by omega) (by omega) (by omega)), s2⟩, ?_, ?_, ?_, ?_⟩
      · rw [b1]
        unfold kP
        rw [b5.1, if_pos (show nI 0 = 0 from rfl), b5.2.2.1, b5.2.1, if_pos (show nI L ≤ nI L from Int32.le_refl _)]
        refine Eq.trans (show _ = _ from p1) ?_
        unfold f6_perform_B84
        rw [p2.2.2.1, p2.2.1, if_pos (show nI L ≤ nI L from Int32.le_refl _)]
        show bd (f6_ends N (nI C) (st ρ2 84 19 0)) _ = _
        rw [show f6_ends N (nI C) (st ρ2 84 19 0) = some (nI C, σ') from s1, q_bd]
      · rw [s3 0 (by omega), st_ne _ _ _ _ (Or.inr (by omega))]
        exact p3
      · rw [s4 100 (by omega) (by omega), st_row _ _ _ _ (by omega), p5 100 (by omega) (by omega) (by omega), st_row _ _ _ _ (by omega), b7 100 (by omega) (by omega) (by omega), st_same]
      · unfold Sav at hSav ⊢
        rw [ff 0 (by omega) (by omega) (by omega) (by omega) (by omega) (by omega), frm 0 (by omega) (by omega) (by omega) (by omega) (by omega), ff84 6 (by omega) (by omega) (by omega) (by omega) (by omega)]
        rcases hSav with q | ⟨q1, q2, E, q3, q4, q5⟩
        · exact Or.inl q
        · exact Or.inr ⟨q1, q2, E, q3, q4.congr (fun k k1 k2 => by rw [ff k (by omega) (by omega) (by omega) (by omega) (by omega) (by omega), frm k (by omega) (by omega) (by omega) (by omega) (by omega)]), q5.congr (by rw [ff 87 (by omega) (by omega) (by omega) (by omega) (by omega) (by omega), frm 87 (by omega) (by omega) (by omega) (by omega) (by omega)])⟩
      · have q : ∀ k, (k = 77 ∨ k = 78 ∨ k = 96 ∨ k = 97) → σ' k = σ k := fun k hk => by rw [ff k (by omega) (by omega) (by omega) (by omega) (by omega) (by omega), frm k (by omega) (by omega) (by omega) (by omega) (by omega)]
        unfold Shf at hSh ⊢
        rw [q 77 (by omega), q 78 (by omega), q 96 (by omega), q 97 (by omega)]
        exact hSh
      · refine inp_0 ?_ ?_
        · rw [ff 79 (by omega) (by omega) (by omega) (by omega) (by omega) (by omega), em79]
          exact fp1
        · rw [s3 19 (by omega), st_same]
      · unfold Rep at hRep ⊢
        rw [ff 0 (by omega) (by omega) (by omega) (by omega) (by omega) (by omega), frm 0 (by omega) (by omega) (by omega) (by omega) (by omega), ff84 21 (by omega) (by omega) (by omega) (by omega) (by omega), ff84 22 (by omega) (by omega) (by omega) (by omega) (by omega)]
        exact hRep
    · -- command c0 fails
      have hz : ∀ i, i < c0 → fqN a L D i = 0 := f3
      have hDk : ∀ j, j ≤ c0 → DOk (dqN a L D j) := fun j hj => by
        obtain ⟨-, -, -, q, -⟩ := s5_exec N hN l1 hAll o2 o4 (D := D) (fun _ => none) j 0 0 σ1 (by omega) (fun i hi => hz i (by omega)) e4 eT a2 h1
        rw [Nat.zero_add] at q
        exact q
      have fle : fqN a L D c0 ≤ 3 := exF_le _ _ _
      generalize hfv : fqN a L D c0 = f at f2 fle
      obtain ⟨m, hm⟩ : ∃ m, N = m + 1 + c0 := ⟨N - 1 - c0, by omega⟩
      obtain ⟨σ2, g1, g2, g3, g4⟩ := s5_exec N hN l1 hAll o2 o4 (D := D) (fun σL31 => bd (f2_remember N 1 σL31) (fun _ σ89 => bd (f1_copyFrom N 1 6 σ89) (fun _ σ100 => bd (f3_layOut N 56 σ100) (fun _ σ107 => bd (f0_commandCount N σ107) (fun r114 σ114 => some (.inl r114, σ114)))))) c0 0 (m + 1) σ1 (by omega) (fun i hi => hz i (by omega)) e4 eT a2 h1
      rw [← hm, Nat.zero_add, it_s] at g1
      rw [Nat.zero_add] at g2 g3
      have e4' : σ2 79 4 = nI C := by rw [g4 79 (by omega)]; exact e4
      have eT' : TbC a L σ2 C := eT.congr (fun _ _ => by rw [g4 81 (by omega)]) (fun _ _ => by rw [g4 82 (by omega)]) (fun _ _ => by rw [g4 83 (by omega)])
      obtain ⟨σ3, u1, u2, -⟩ := s5_one N hN l1 hAll o2 o4 f1 eT' g2 g3
      rw [hfv] at u1
      have fr3 : ∀ k, (k < 6 ∨ 10 < k) → σ3 k = τp k := fun k hk => by rw [u2 k hk, g4 k hk, r1 k hk]
      obtain ⟨σe, hσe⟩ : ∃ σe, σe = st (st (st σ3 0 9 (nI 1)) 0 10 (nI c0)) 0 11 (nI f) := ⟨_, rfl⟩
      have fre : ∀ k, k ≠ 0 → σe k = σ3 k := fun k hk => by rw [hσe, st_row _ _ _ _ hk, st_row _ _ _ _ hk, st_row _ _ _ _ hk]
      have fre2 : ∀ k, (k < 6 ∨ 10 < k) → k ≠ 0 → k ≠ 79 → k ≠ 81 → k ≠ 82 → k ≠ 83 → σe k = σ k := fun k hk k0 k1 k2 k3 k4 => by rw [fre k k0, fr3 k hk, frp k k1 k2 k3 k4]
      have hA : fL_perform N σ = some (nI 1, σe) := by
        unfold fL_perform f5_perform
        rw [pe, o6, q_bd, if_pos (show -nI 1 = -1 from rfl), a1, q_bd, hcls, g1]
        unfold f5_perform_B31
        have cc : ∀ τ : Hp, f0_commandCount N τ = some (τ 79 4, τ) := fun τ => rfl
        rw [cc σ2, q_bd, e4', if_neg (top c0 f1), u1, q_bd, if_neg (nI_ne0 (by omega) (by omega)), hσe]
        rfl
      obtain ⟨τ, w, b1, b2, b3, b4, b5, b6, b7, b8⟩ := s6_first (ρ := σe) (a := a) (L := L) (D := D) N hN (h3.congr (fre2 85 (by omega) (by omega) (by omega) (by omega) (by omega) (by omega))) l1 (by rw [fre2 84 (by omega) (by omega) (by omega) (by omega) (by omega) (by omega)]; exact l3) (fun i hi => ⟨hAll i hi, by rw [fre2 98 (by omega) (by omega) (by omega) (by omega) (by omega) (by omega)]; exact (ha i hi).2.2⟩)
      have o1' : (teN a L (L + 1) 0).1 = true := o1
      rw [o1'] at b6
      obtain ⟨w0, pL⟩ : w = 0 ∧ (teN a L (L + 1) 0).2 = L := by
        rcases b6 with ⟨-, q1, q2⟩ | ⟨q, -⟩
        · exact ⟨q1, q2⟩
        · cases q
      rw [w0, pL] at b5
      obtain ⟨ρ2, p1, p2, p3, p4, p5, p6⟩ := s6_exec N hN o2 (D := D) (fun x2_84 σL84 => bd (f6_ends N x2_84 (st σL84 84 19 0)) (fun r177 σ177 => some (r177, σ177))) c0 0 (m + 1) (st τ 84 20 (nI 0)) (by omega) (fun i hi => hz i (by omega)) (fun i hi => hDk i (by omega)) (b5.p (Nat.zero_le _)) (by rw [st_ne _ _ _ _ (Or.inr (by omega))]; exact b4) (b3.congr (st_row _ _ _ _ (by omega)))
      rw [← hm, Nat.zero_add, it_s] at p1
      rw [Nat.zero_add] at p2 p4
      obtain ⟨ρ3, v1, v2, v3, v4⟩ := (s6_one N hN o2 f1 p2 p3 p4 (hDk c0 (Nat.le_refl _)) (fun x2_84 σL84 => bd (f6_ends N x2_84 (st σL84 84 19 0)) (fun r177 σ177 => some (r177, σ177))) (it (fun _ _ => none) (f6_perform_B84 N (fun x2_84 σL84 => bd (f6_ends N x2_84 (st σL84 84 19 0)) (fun r177 σ177 => some (r177, σ177)))) m)).2 (by rw [hfv]; exact f2)
      rw [hfv] at v2
      obtain ⟨ρ4, y1, y2, y3, -⟩ := s6_copies (σ := ρ3) N 86 166 85 166 0 0 hN (by omega) (by omega) (by omega) (by omega) (Or.inl (by omega))
      have fr4 : ∀ k, k ≠ 84 → k ≠ 85 → k ≠ 86 → k ≠ 99 → ρ4 k = σe k := fun k k1 k2 k3 k4 => by rw [y2 k k2, v3 k k1 k2 k4, p5 k k1 k2 k4, st_row _ _ _ _ k1, b7 k k1 k3 k4]
      have f484 : ∀ i, i ≠ 0 → i ≠ 20 → i ≠ 23 → ρ4 84 i = σ 84 i := fun i i0 i1 i2 => by rw [y2 84 (by omega), v4 i i0 i1 i2, p6 i i1 i2, st_ne _ _ _ _ (Or.inr i1), b8 i i0 i1 i2, fre2 84 (by omega) (by omega) (by omega) (by omega) (by omega) (by omega)]
      obtain ⟨σ', hσ'⟩ : ∃ σ', σ' = st (st (st (st ρ4 84 21 (nI c0)) 84 22 (nI f)) 84 19 (nI 0)) 84 0 (nI 1) := ⟨_, rfl⟩
      have ff : ∀ k, k ≠ 84 → k ≠ 85 → k ≠ 86 → k ≠ 99 → σ' k = σe k := fun k k1 k2 k3 k4 => by rw [hσ', st_row _ _ _ _ k1, st_row _ _ _ _ k1, st_row _ _ _ _ k1, st_row _ _ _ _ k1, fr4 k k1 k2 k3 k4]
      have ff84 : ∀ i, i ≠ 0 → i ≠ 19 → i ≠ 20 → i ≠ 21 → i ≠ 22 → i ≠ 23 → σ' 84 i = σ 84 i := fun i i0 i1 i2 i3 i4 i5 => by rw [hσ', st_ne _ _ _ _ (Or.inr i0), st_ne _ _ _ _ (Or.inr i1), st_ne _ _ _ _ (Or.inr i4), st_ne _ _ _ _ (Or.inr i3), f484 i i0 i2 i5]
      have n85 : NwR ρ4 85 D := fun i hi => by
        have := y3 i hi
        rw [Nat.zero_add] at this
        rw [this, v3 86 (by omega) (by omega) (by omega), p5 86 (by omega) (by omega) (by omega), st_row _ _ _ _ (by omega)]
        exact b2 i hi
      have eD : ∀ D', NwR σ 85 D' → NwR σ' 85 D' := fun D' hD' i hi => by
        have q1 := n85 i hi
        have q2 := h3 i hi
        have q3 := hD' i hi
        rw [hσ', st_row _ _ _ _ (by omega), st_row _ _ _ _ (by omega), st_row _ _ _ _ (by omega), st_row _ _ _ _ (by omega), q1, ← q2, q3]
      refine ⟨1, σe, nI 0, σ', by omega, hA, ?_, by rw [hσ', st_same], fun q => by omega, inv_perf hI (fun k hk => by rw [ff k (by omega) (by omega) (by omega) (by omega), fre2 k (by omega) (by omega) (by omega) (by omega) (by omega) (by omega)]) eD ?_ (ff84 5 (by omega) (by omega) (by omega) (by omega) (by omega) (by omega)) (ff84 6 (by omega) (by omega) (by omega) (by omega) (by omega) (by omega)) (inp_0 ?_ ?_) (Or.inr ⟨?_, c0, f, by omega, ?_, ?_, ?_, ?_⟩)⟩
      · rw [b1]
        unfold kP
        rw [b5.1, if_pos (show nI 0 = 0 from rfl), b5.2.2.1, b5.2.1, if_pos (show nI L ≤ nI L from Int32.le_refl _)]
        refine Eq.trans (show _ = _ from p1) ?_
        rw [v1, show f6_copies N 86 166 85 166 0 0 ρ3 = some ((), ρ4) from y1, q_bd]
        unfold f6_fails
        rw [q_bd, show st ρ4 84 21 (nI c0) 84 0 = nI f by rw [st_ne _ _ _ _ (Or.inr (by omega)), y2 84 (by omega)]; exact v2, hσ']
        rfl
      · rw [ff 0 (by omega) (by omega) (by omega) (by omega), hσe]
        simp (disch := omega) only [q_lit, q_gt, q_bd, q_bxl, q_bxr, q_vib, q_cl, q_pos, q_lt, q_le, q_eq, q_neg, q_neg1, q_negz, q_negeq0, q_neg0le, q_rem, q_div, q_sub, q_if1, q_if0, q_okB0, q_okB1, q_dz, q_dn, q_nb, and_true, true_and, and_false, false_and, nI_add, pk_mul, if_true, if_false, ite_true, ite_false, Nat.add_zero, Nat.zero_add, Nat.reduceAdd, st_get]
        rw [fr3 0 (by omega), frp 0 (by omega) (by omega) (by omega) (by omega)]
      · rw [ff 79 (by omega) (by omega) (by omega) (by omega), fre 79 (by omega), fr3 79 (by omega)]
        exact fp1
      · rw [hσ']
        simp (disch := omega) only [q_lit, q_gt, q_bd, q_bxl, q_bxr, q_vib, q_cl, q_pos, q_lt, q_le, q_eq, q_neg, q_neg1, q_negz, q_negeq0, q_neg0le, q_rem, q_div, q_sub, q_if1, q_if0, q_okB0, q_okB1, q_dz, q_dn, q_nb, and_true, true_and, and_false, false_and, nI_add, pk_mul, if_true, if_false, ite_true, ite_false, Nat.add_zero, Nat.zero_add, Nat.reduceAdd, st_get]
      · rw [ff 0 (by omega) (by omega) (by omega) (by omega), hσe]
        simp (disch := omega) only [q_lit, q_gt, q_bd, q_bxl, q_bxr, q_vib, q_cl, q_pos, q_lt, q_le, q_eq, q_neg, q_neg1, q_negz, q_negeq0, q_neg0le, q_rem, q_div, q_sub, q_if1, q_if0, q_okB0, q_okB1, q_dz, q_dn, q_nb, and_true, true_and, and_false, false_and, nI_add, pk_mul, if_true, if_false, ite_true, ite_false, Nat.add_zero, Nat.zero_add, Nat.reduceAdd, st_get]
      · rw [ff 0 (by omega) (by omega) (by omega) (by omega), hσe]
        simp (disch := omega) only [q_lit, q_gt, q_bd, q_bxl, q_bxr, q_vib, q_cl, q_pos, q_lt, q_le, q_eq, q_neg, q_neg1, q_negz, q_negeq0, q_neg0le, q_rem, q_div, q_sub, q_if1, q_if0, q_okB0, q_okB1, q_dz, q_dn, q_nb, and_true, true_and, and_false, false_and, nI_add, pk_mul, if_true, if_false, ite_true, ite_false, Nat.add_zero, Nat.zero_add, Nat.reduceAdd, st_get]
      · rw [hσ']
        simp (disch := omega) only [q_lit, q_gt, q_bd, q_bxl, q_bxr, q_vib, q_cl, q_pos, q_lt, q_le, q_eq, q_neg, q_neg1, q_negz, q_negeq0, q_neg0le, q_rem, q_div, q_sub, q_if1, q_if0, q_okB0, q_okB1, q_dz, q_dn, q_nb, and_true, true_and, and_false, false_and, nI_add, pk_mul, if_true, if_false, ite_true, ite_false, Nat.add_zero, Nat.zero_add, Nat.reduceAdd, st_get]
      · rw [ff 0 (by omega) (by omega) (by omega) (by omega), hσe]
        simp (disch := omega) only [q_lit, q_gt, q_bd, q_bxl, q_bxr, q_vib, q_cl, q_pos, q_lt, q_le, q_eq, q_neg, q_neg1, q_negz, q_negeq0, q_neg0le, q_rem, q_div, q_sub, q_if1, q_if0, q_okB0, q_okB1, q_dz, q_dn, q_nb, and_true, true_and, and_false, false_and, nI_add, pk_mul, if_true, if_false, ite_true, ite_false, Nat.add_zero, Nat.zero_add, Nat.reduceAdd, st_get]
      · rw [hσ']
        simp (disch := omega) only [q_lit, q_gt, q_bd, q_bxl, q_bxr, q_vib, q_cl, q_pos, q_lt, q_le, q_eq, q_neg, q_neg1, q_negz, q_negeq0, q_neg0le, q_rem, q_div, q_sub, q_if1, q_if0, q_okB0, q_okB1, q_dz, q_dn, q_nb, and_true, true_and, and_false, false_and, nI_add, pk_mul, if_true, if_false, ite_true, ite_false, Nat.add_zero, Nat.zero_add, Nat.reduceAdd, st_get]
  · -- the text is wrong
    have o1' : (teN a L (L + 1) 0).1 = false := o1
    generalize hp : (teN a L (L + 1) (cpN a L 0)).2 = e at o2 o3
    have hp' : (teN a L (L + 1) 0).2 = e := hp
    have hA : fL_perform N σ = some (nI 0, st τp 100 0 (-100 - nI e)) := by
      unfold fL_perform f5_perform
      rw [pe, o3, q_bd, if_neg (show ¬ nI e = -1 from fun q => by
        have h2 := congrArg Int32.toInt q
        rw [nI_toInt (by omega)] at h2
        have h3 : (-1 : Int32).toInt = -1 := by decide
        omega)]
      rfl
    have fq : ∀ k, k ≠ 79 → k ≠ 81 → k ≠ 82 → k ≠ 83 → k ≠ 100 → st τp 100 0 (-100 - nI e) k = σ k := fun k k1 k2 k3 k4 k5 => by rw [st_row _ _ _ _ k5, frp k k1 k2 k3 k4]
    obtain ⟨τ, w, b1, b2, b3, b4, b5, b6, b7, b8⟩ := s6_first (ρ := st τp 100 0 (-100 - nI e)) (a := a) (L := L) (D := D) N hN (h3.congr (fq 85 (by omega) (by omega) (by omega) (by omega) (by omega))) l1 (by rw [fq 84 (by omega) (by omega) (by omega) (by omega) (by omega)]; exact l3) (fun i hi => ⟨(ha i hi).1, by rw [fq 98 (by omega) (by omega) (by omega) (by omega) (by omega)]; exact (ha i hi).2.2⟩)
    rw [o1', hp'] at b6
    rw [hp'] at b5
    have w1 : w = 1 ∨ (w = 0 ∧ e < L) := by
      rcases b6 with ⟨q, -⟩ | ⟨-, q⟩
      · cases q
      · exact q
    have ff : ∀ k, k ≠ 84 → k ≠ 86 → k ≠ 99 → k ≠ 79 → k ≠ 81 → k ≠ 82 → k ≠ 83 → k ≠ 100 → st τ 84 19 (nI 0) k = σ k := fun k k1 k2 k3 k4 k5 k6 k7 k8 => by rw [st_row _ _ _ _ k1, b7 k k1 k2 k3, fq k k4 k5 k6 k7 k8]
    have ff84 : ∀ i, i ≠ 0 → i ≠ 19 → i ≠ 20 → i ≠ 23 → st τ 84 19 (nI 0) 84 i = σ 84 i := fun i i0 i1 i2 i3 => by rw [st_ne _ _ _ _ (Or.inr i1), b8 i i0 i2 i3, fq 84 (by omega) (by omega) (by omega) (by omega) (by omega)]
    have J : f6_perform_J64 N τ = some (-100 - nI e, st τ 84 19 (nI 0)) := by
      unfold f6_perform_J64
      rw [show st τ 84 19 0 84 20 = nI e by rw [st_ne _ _ _ _ (Or.inr (by omega))]; exact b5.2.1]
      rfl
    refine ⟨0, _, -100 - nI e, st τ 84 19 (nI 0), by omega, hA, ?_, ?_, fun _ => ?_, inv_perf hI (fun k hk => ff k (by omega) (by omega) (by omega) (by omega) (by omega) (by omega) (by omega) (by omega)) (fun D' hD' => hD'.congr (ff 85 (by omega) (by omega) (by omega) (by omega) (by omega) (by omega) (by omega) (by omega))) (by rw [ff 0 (by omega) (by omega) (by omega) (by omega) (by omega) (by omega) (by omega) (by omega)]) (ff84 5 (by omega) (by omega) (by omega) (by omega)) (ff84 6 (by omega) (by omega) (by omega) (by omega)) (inp_0 ?_ (st_same _ _ _ _)) ?_⟩
    · rw [b1]
      unfold kP
      rw [J, b5.1, b5.2.2.1, b5.2.1]
      rcases w1 with w1 | ⟨w1, w2⟩
      · rw [w1, if_neg (show ¬ nI 1 = 0 by decide)]
      · rw [w1, if_pos (show nI 0 = 0 from rfl), if_neg (show ¬ nI L ≤ nI e from nI_ge (a := e) (b := L) w2 (by omega))]
    · rw [st_ne _ _ _ _ (Or.inr (by omega))]
      exact b4
    · rw [st_row _ _ _ _ (by omega), b7 100 (by omega) (by omega) (by omega), st_same]
    · rw [st_row _ _ _ _ (by omega), b7 79 (by omega) (by omega) (by omega), st_row _ _ _ _ (by omega)]
      exact fp1
    · unfold Rep at hRep ⊢
      rw [ff 0 (by omega) (by omega) (by omega) (by omega) (by omega) (by omega) (by omega) (by omega), ff84 21 (by omega) (by omega) (by omega) (by omega), ff84 22 (by omega) (by omega) (by omega) (by omega)]
      exact hRep
