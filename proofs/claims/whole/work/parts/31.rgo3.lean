/-! THE PURE PART. The reference places a story: its first part, and the whole story. -/
section L7
variable {D : Nat → Nat} {P : Nat → Prop}
/-- the reference's state when a story's first part is noted: page and depth are, too -/
def stS (s i d : Nat) (σ : Hp) : Hp := st (st σ 92 s (nI (i / 120))) 95 s (nI d)
theorem stS_n (s i d : Nat) (σ : Hp) {k : Nat} (h1 : k ≠ 92) (h2 : k ≠ 95) : stS s i d σ k = σ k := by
  unfold stS
  rw [st_row _ _ _ _ h2, st_row _ _ _ _ h1]
theorem s6_tailS {σ : Hp} {Y : Ly} (hR : RfR P σ Y) (hNw : NwR σ 85 D) (hSs : ∀ s, s < 12 → SOk D s) (N s i : Nat) (hN : 500 ≤ N) (hs : s < 12) (hl : P s) (hpre : Pre D s 0 i Y) (h0 : dS D s 0 = 1) (x3 : Int32) : ∃ σ', f6_starts_J136 N (nI s) (nI (i / 120)) x3 (nI (i % 120 / 5)) (nI (i % 5)) (nI (dS D s 2)) (nI (hd D s)) (om (pNx D s 0 i Y) (-nI 1) (fun a => nI (a / 120))) (nI (pJ D s 0 i Y)) (nI (pNl D s 0 i Y)) (stS s i (pD D s 0 i Y) σ) = some ((), σ') ∧ Fr6 σ σ' ∧ RfR P σ' (goY D s 4 0 i Y) := by
  have hS := hSs s hs
  have hw := Pre.w (q := 0) (i := i) (Y := Y) hS h0
  have hd2 := hpre.d
  have ft := part_fit (i := i) (Y := Y) hw.1 hw.2.1 (by omega)
  have hib := hpre.2.2.2
  have hi0 := hib.1
  have hcol := hib.2.2.1
  obtain ⟨a0, a1, a2, a3, a4, a5, a6, a7, a8, a9⟩ := id hS
  have a10 := a9 h0
  have hwant : pWant D s Y ≤ 150 := by unfold pWant; omega
  have ab : abv D s 0 = hd D s := rfl
  have hdd : hd D s = dS D s 3 + dS D s 6 + dS D s 7 := rfl
  have w1 : pW D s 0 = dS D s 2 := rfl
  rw [ab] at hd2
  rw [w1] at ft hcol hw
  have l93 := (hR.2.2 s hs hl).1
  rw [hpre.1] at l93
  have hN' : NwR (stS s i (pD D s 0 i Y) σ) 85 D := hNw.congr (stS_n _ _ _ _ (by omega) (by omega))
  have lrd : (pNl D s 0 i Y + dS D s 2 - 1) / dS D s 2 = pLr D s 0 i Y := rfl
  have hl0 := hpre.2.1 rfl
  have of := fun f f' k (hk : k < 9) => s6_of (σ := tw 88 f f' (stS s i (pD D s 0 i Y) σ)) (hN'.congr (tw_n 88 _ _ _ (by omega) (by omega))) hs hk N
  have lines := fun f f' => s6_linesIn (σ := stS s i (pD D s 0 i Y) σ) N s (i / 120) (i % 5) (i % 120 / 5 + hd D s) (dS D s 2) (pLr D s 0 i Y) (pNl D s 0 i Y) (i + hd D s * 5) f f' hN (by omega) (by omega) (by rw [lrd]; exact Nat.le_refl _) (by omega) (by omega) (by omega) (by omega) (by omega) (by omega) (by omega)
  have fl1 := fun f f' => s6_fillsT N (i / 120) (i % 5) (i % 120 / 5) (dS D s 2) (dS D s 3) i (nI 2) (nI s) f f' (stS s i (pD D s 0 i Y) σ) hN (by omega) (by omega) (by omega) (by omega) (by omega) (by omega) (by omega)
  have fl2 := fun f f' => s6_fillsT N (i / 120) (i % 5) (i % 120 / 5 + dS D s 3) (dS D s 2) (dS D s 6) (i + dS D s 3 * 5) (nI 3) (nI s) f f' (stS s i (pD D s 0 i Y) σ) hN (by omega) (by omega) (by omega) (by omega) (by omega) (by omega) (by omega)
  have fl3 := fun f f' => s6_fillsT N (i / 120) (i % 5) (i % 120 / 5 + dS D s 3 + dS D s 6) (dS D s 2) (dS D s 7) (i + (dS D s 3 + dS D s 6) * 5) (nI 4) (nI s) f f' (stS s i (pD D s 0 i Y) σ) hN (by omega) (by omega) (by omega) (by omega) (by omega) (by omega) (by omega)
  have start : ∀ o, f6_starts_J136 N (nI s) (nI (i / 120)) x3 (nI (i % 120 / 5)) (nI (i % 5)) (nI (dS D s 2)) (nI (hd D s)) (om (pNx D s 0 i Y) (-nI 1) (fun a => nI (a / 120))) (nI (pJ D s 0 i Y)) (nI (pNl D s 0 i Y)) (tw 88 (stS s i (pD D s 0 i Y) σ 89) (stS s i (pD D s 0 i Y) σ 90) (stS s i (pD D s 0 i Y) σ)) = o → f6_starts_J136 N (nI s) (nI (i / 120)) x3 (nI (i % 120 / 5)) (nI (i % 5)) (nI (dS D s 2)) (nI (hd D s)) (om (pNx D s 0 i Y) (-nI 1) (fun a => nI (a / 120))) (nI (pJ D s 0 i Y)) (nI (pNl D s 0 i Y)) (stS s i (pD D s 0 i Y) σ) = o := by
    intro o h
    rw [tw_self 88] at h
    exact h
  have r89 : stS s i (pD D s 0 i Y) σ 89 = σ 89 := stS_n _ _ _ _ (by omega) (by omega)
  have r90 : stS s i (pD D s 0 i Y) σ 90 = σ 90 := stS_n _ _ _ _ (by omega) (by omega)
  have fin : ∀ σ1 j, σ1 = tw 88 (pR nI D s 0 i (dS D s 2) (pLr D s 0 i Y) (pNl D s 0 i Y) j (σ 89)) (pR (fun _ => nI s) D s 0 i (dS D s 2) (pLr D s 0 i Y) (pNl D s 0 i Y) j (σ 90)) (stS s i (pD D s 0 i Y) σ) → pJ D s 0 i Y = j → j ≤ 1 → ∃ σ', f6_notes N (nI s) (nI (i / 120)) (nI (i % 5)) (nI (i % 120 / 5)) (nI (dS D s 2)) (nI (hd D s + pLr D s 0 i Y + j)) (nI (pNl D s 0 i Y)) (nI 0) (nI j) σ1 = some ((), σ') ∧ Fr6 σ σ' ∧ RfR P σ' (partY D s 0 i Y) := by
    intro σ1 j e1 e2 hj
    have n93 : σ1 93 = σ 93 := by rw [e1, tw_n 88 _ _ _ (by omega) (by omega)]; exact stS_n _ _ _ _ (by omega) (by omega)
    obtain ⟨σ', k1, k2, k3, k4, k5⟩ := s6_notes (σ := σ1) N s 0 i (dS D s 2) (hd D s + pLr D s 0 i Y + j) (pNl D s 0 i Y) 0 j (abv D s 0) hs (by omega) (by rw [n93]; exact l93) hj
    refine ⟨σ', k1, fun k hk => ?_, ?_⟩
    · rw [k2 k (by omega) (by omega), e1, tw_n 88 _ _ _ (by omega) (by omega)]
      exact stS_n _ _ _ _ (by omega) (by omega)
    · refine rf_part hR hs (by omega) (fun _ => hpre.1) ?_ ?_ ?_ ?_ ?_ ?_ ?_
      · rw [k2 89 (by omega) (by omega), e1, e2]
        exact tw_1 88 _ _ _
      · rw [k2 90 (by omega) (by omega), e1, e2]
        exact tw_2 88 _ _ _
      · intro t
        rw [k3 t, n93]
      · intro k hk
        rw [k4 k hk, e2, hl0]
        rfl
      · intro t ht
        rw [k5 t ht, e1, tw_n 88 _ _ _ (by omega) (by omega), stS_n _ _ _ _ (by omega) (by omega)]
      · intro t
        rw [k2 92 (by omega) (by omega), e1, tw_n 88 _ _ _ (by omega) (by omega)]
        unfold stS
        rw [st_row _ _ _ _ (by omega), st_get]
        refine q_ifc ?_
        omega
      · intro t
        rw [k2 95 (by omega) (by omega), e1, tw_n 88 _ _ _ (by omega) (by omega)]
        unfold stS
        rw [st_get, st_row σ 92 _ _ (by omega)]
        refine q_ifc ?_
        omega
  suffices h : ∃ σ', f6_starts_J136 N (nI s) (nI (i / 120)) x3 (nI (i % 120 / 5)) (nI (i % 5)) (nI (dS D s 2)) (nI (hd D s)) (om (pNx D s 0 i Y) (-nI 1) (fun a => nI (a / 120))) (nI (pJ D s 0 i Y)) (nI (pNl D s 0 i Y)) (tw 88 (stS s i (pD D s 0 i Y) σ 89) (stS s i (pD D s 0 i Y) σ 90) (stS s i (pD D s 0 i Y) σ)) = some ((), σ') ∧ Fr6 σ σ' ∧ RfR P σ' (goY D s 4 0 i Y) by
    obtain ⟨σ', h1, h2⟩ := h
    exact ⟨σ', start _ h1, h2⟩
  rw [r89, r90]
  unfold f6_starts_J136 f6_starts_J273 f6_starts_J297
  simp (disch := omega) only [q_lit, q_gt, q_bd, q_bxl, q_bxr, q_vib, q_cl, q_pos, q_lt, q_le, q_eq, q_neg, q_neg1, q_negz, q_negeq0, q_neg0le, q_rem, q_div, q_sub, q_if1, q_if0, q_okB0, q_okB1, q_dz, q_dn, q_nb, and_true, true_and, and_false, false_and, nI_add, pk_mul, if_true, if_false, ite_true, ite_false, Nat.add_zero, Nat.zero_add, Nat.reduceAdd, of, fl1, fl2, fl3, lines, lrd]
  show ∃ σ', _ ∧ _ ∧ RfR P σ' (om (pNx D s 0 i Y) (partY D s 0 i Y) (fun i' => goY D s 3 (0 + 1) i' (partY D s 0 i Y)))
  cases e : pNx D s 0 i Y with
  | none =>
    have j0 : pJ D s 0 i Y = 0 := by unfold pJ; rw [e]; rfl
    obtain ⟨σ', h1, h2, h3⟩ := fin _ 0 rfl j0 (by omega)
    refine ⟨σ', ?_, h2, h3⟩
    rw [j0]
    simp (disch := omega) only [q_lit, q_gt, q_bd, q_bxl, q_bxr, q_vib, q_cl, q_pos, q_lt, q_le, q_eq, q_neg, q_neg1, q_negz, q_negeq0, q_neg0le, q_rem, q_div, q_sub, q_if1, q_if0, q_okB0, q_okB1, q_dz, q_dn, q_nb, and_true, true_and, and_false, false_and, nI_add, pk_mul, if_true, if_false, ite_true, ite_false, Nat.add_zero, Nat.zero_add, Nat.reduceAdd]
    refine Eq.trans ?_ (congrArg (fun x => bd x (fun _ σ211 => some ((), σ211))) h1)
    rfl
  | some i' =>
    have j0 : pJ D s 0 i Y = 1 := by unfold pJ; rw [e]; rfl
    have nx := hpre.next hS h0 e
    have ni := nx.1.2.2.2.1
    have fl4 := fun f f' => s6_fillsT N (i / 120) (i % 5) (i % 120 / 5 + hd D s + pLr D s 0 i Y) (dS D s 2) 1 (i + hd D s * 5 + pLr D s 0 i Y * 5) (nI 6) (nI s) f f' (stS s i (pD D s 0 i Y) σ) hN (by omega) (by omega) (by omega) (by omega) (by omega) (by omega) (by omega)
    obtain ⟨σ1, h1, h2, h3⟩ := fin _ 1 rfl j0 (by omega)
    obtain ⟨σ', c1, c2, c3⟩ := s6_cont hSs N s hN hs h0 hl (nI (i' / 120)) (nI (pNl D s 0 i Y)) (fun σL6 => some ((), σL6)) (fun _ _ _ => none) 3 0 i' N (partY D s 0 i Y) σ1 (by omega) (by omega) h3 (hNw.congr (h2 85 (by omega))) nx.1 (goF_part hS h0 hpre e) (by omega)
    have el : ll (partY D s 0 i Y) s = pNl D s 0 i Y := by
      show upN (ll Y) s (ll Y s + pNl D s 0 i Y) s = _
      rw [upN_s, hl0, Nat.zero_add]
    rw [el] at c1
    refine ⟨σ', ?_, fun k hk => (c2 k hk).trans (h2 k hk), c3⟩
    rw [j0]
    simp (disch := omega) only [q_lit, q_gt, q_bd, q_bxl, q_bxr, q_vib, q_cl, q_pos, q_lt, q_le, q_eq, q_neg, q_neg1, q_negz, q_negeq0, q_neg0le, q_rem, q_div, q_sub, q_if1, q_if0, q_okB0, q_okB1, q_dz, q_dn, q_nb, and_true, true_and, and_false, false_and, nI_add, pk_mul, if_true, if_false, ite_true, ite_false, Nat.add_zero, Nat.zero_add, Nat.reduceAdd, om, fl4]
    refine Eq.trans ?_ (Eq.trans (congrArg (fun x => bd x (fun _ σ303 => bd (f6_continues N (nI s) (nI (i' / 120)) (nI (pNl D s 0 i Y)) σ303) (fun _ σ317 => some ((), σ317)))) h1) ?_)
    · rfl
    · show bd (f6_continues N (nI s) (nI (i' / 120)) (nI (pNl D s 0 i Y)) σ1) (fun _ σ317 => some ((), σ317)) = _
      unfold f6_continues f6_continues_L6
      rw [c1]
      rfl
theorem s6_starts {σ : Hp} {Y : Ly} (hR : RfR P σ Y) (hNw : NwR σ 85 D) (hSs : ∀ s, s < 12 → SOk D s) (N s i : Nat) (hN : 500 ≤ N) (hs : s < 12) (hl : P s) (hpre : Pre D s 0 i Y) (h0 : dS D s 0 = 1) : ∃ σ', f6_starts N (nI s) (nI (i / 120)) (nI (i - 120 * (i / 120))) σ = some ((), σ') ∧ Fr6 σ σ' ∧ RfR P σ' (goY D s 4 0 i Y) := by
  obtain ⟨σ', t1, t2, t3⟩ := s6_tailS hR hNw hSs N s i hN hs hl hpre h0 (nI (i - 120 * (i / 120)))
  refine ⟨σ', ?_, t2, t3⟩
  rw [← t1]
  have hS := hSs s hs
  have hd2 := hpre.d
  have hib := hpre.2.2.2
  have hi0 := hib.1
  have hcol : i % 5 + dS D s 2 ≤ 5 := hib.2.2.1
  obtain ⟨a0, a1, a2, a3, a4, a5, a6, a7, a8, a9⟩ := id hS
  have a10 := a9 h0
  have ab : abv D s 0 = hd D s := rfl
  rw [ab] at hd2
  have fe := rf_frn hR (w := dS D s 2) hi0 hcol
  have dd : frn (lc Y) (dS D s 2) (24 - i % 120 / 5) i = pD D s 0 i Y + hd D s := by
    have h3 : hd D s + 2 ≤ frn (lc Y) (dS D s 2) (24 - i % 120 / 5) i := hib.2.2.2
    show _ = frn (lc Y) (dS D s 2) (24 - i % 120 / 5) i - hd D s + hd D s
    omega
  have wn : pWant D s Y = dS D s 4 := by
    unfold pWant
    rw [hpre.2.1 rfl]
    rfl
  have hw3 : dS D s 2 * pD D s 0 i Y ≤ 3 * 24 := Nat.mul_le_mul a2 (by omega)
  have hw4 : dS D s 2 * (pD D s 0 i Y - 1) ≤ 3 * 24 := Nat.mul_le_mul a2 (by omega)
  have loop : ∀ (x3 : Int32) (K28 : Int32 → Hp → Option (Unit × Hp)), f6_starts_L28 N (nI s) (nI (i / 120)) x3 (nI (i % 120 / 5)) (nI (i % 5)) (nI (dS D s 2)) (nI (hd D s)) K28 N (nI 2) σ = K28 (nI (pD D s 0 i Y)) σ := by
    intro x3 K28
    have main := lpc (fun _ _ => none) (f6_starts_B28 N (nI s) (nI (i / 120)) x3 (nI (i % 120 / 5)) (nI (i % 5)) (nI (dS D s 2)) (nI (hd D s)) K28) (fun t j => t (nI j) σ) (K28 (nI (pD D s 0 i Y)) σ) (pD D s 0 i Y) (by
      intro r
      show f6_starts_B28 _ _ _ _ _ _ _ _ _ _ _ _ = _
      unfold f6_starts_B28
      simp (disch := omega) only [q_lit, q_gt, q_bd, q_bxl, q_bxr, q_vib, q_cl, q_pos, q_lt, q_le, q_eq, q_neg, q_neg1, q_negz, q_negeq0, q_neg0le, q_rem, q_div, q_sub, q_if1, q_if0, q_okB0, q_okB1, q_dz, q_dn, q_nb, and_true, true_and, and_false, false_and, nI_add, pk_mul, if_true, if_false, ite_true, ite_false, Nat.add_zero, Nat.zero_add, Nat.reduceAdd, s6_isFree N (i / 120) (i % 5) (i % 120 / 5) (dS D s 2) (hd D s + pD D s 0 i Y + 1) i σ hN (by omega) (by omega) (by omega) (by omega) (by omega), fe, dd]) (by
      intro r j hj
      show f6_starts_B28 _ _ _ _ _ _ _ _ _ _ _ _ = _
      unfold f6_starts_B28
      simp (disch := omega) only [q_lit, q_gt, q_bd, q_bxl, q_bxr, q_vib, q_cl, q_pos, q_lt, q_le, q_eq, q_neg, q_neg1, q_negz, q_negeq0, q_neg0le, q_rem, q_div, q_sub, q_if1, q_if0, q_okB0, q_okB1, q_dz, q_dn, q_nb, and_true, true_and, and_false, false_and, nI_add, pk_mul, if_true, if_false, ite_true, ite_false, Nat.add_zero, Nat.zero_add, Nat.reduceAdd, s6_isFree N (i / 120) (i % 5) (i % 120 / 5) (dS D s 2) (hd D s + j + 1) i σ hN (by omega) (by omega) (by omega) (by omega) (by omega), fe, dd]) (i := 2) (n := N) (by omega) (by omega)
    exact main
  have e1 : (i - 120 * (i / 120)) / 5 = i % 120 / 5 := by omega
  have e2' : i - 120 * (i / 120) - i % 120 / 5 * 5 = i % 5 := by omega
  have hN' : NwR (stS s i (pD D s 0 i Y) σ) 85 D := hNw.congr (stS_n _ _ _ _ (by omega) (by omega))
  have hR' : RfR (fun t => P t ∧ t ≠ s) (stS s i (pD D s 0 i Y) σ) Y := by
    refine ⟨fun t ht => ?_, fun t ht => ?_, fun t ht hp => ?_⟩
    · rw [stS_n _ _ _ _ (by omega) (by omega)]
      exact hR.1 t ht
    · rw [stS_n _ _ _ _ (by omega) (by omega)]
      exact hR.2.1 t ht
    · have := hR.2.2 t ht hp.1
      rw [stS_n _ _ _ _ (k := 93) (by omega) (by omega), stS_n _ _ _ _ (k := 94) (by omega) (by omega)]
      have h92 : stS s i (pD D s 0 i Y) σ 92 t = σ 92 t := by
        unfold stS
        rw [st_row _ _ _ _ (by omega), st_ne _ _ _ _ (Or.inr hp.2)]
      have h95 : stS s i (pD D s 0 i Y) σ 95 t = σ 95 t := by
        unfold stS
        rw [st_ne _ _ _ _ (Or.inr hp.2), st_row _ _ _ _ (by omega)]
      rw [h92, h95]
      exact this
  have go := s6_goesOn hR' N (i / 120) hN (by omega)
  unfold f6_starts
  simp (disch := omega) only [q_lit, q_gt, q_bd, q_bxl, q_bxr, q_vib, q_cl, q_pos, q_lt, q_le, q_eq, q_neg, q_neg1, q_negz, q_negeq0, q_neg0le, q_rem, q_div, q_sub, q_if1, q_if0, q_okB0, q_okB1, q_dz, q_dn, q_nb, and_true, true_and, and_false, false_and, nI_add, pk_mul, if_true, if_false, ite_true, ite_false, Nat.add_zero, Nat.zero_add, Nat.reduceAdd, s6_of hNw, s6_head hNw, e1, e2', loop]
  rw [show st (st σ 92 s (nI (i / 120))) 95 s (nI (pD D s 0 i Y)) = stS s i (pD D s 0 i Y) σ from rfl]
  unfold f6_starts_J97 f6_starts_J109
  simp (disch := omega) only [q_lit, q_gt, q_bd, q_bxl, q_bxr, q_vib, q_cl, q_pos, q_lt, q_le, q_eq, q_neg, q_neg1, q_negz, q_negeq0, q_neg0le, q_rem, q_div, q_sub, q_if1, q_if0, q_okB0, q_okB1, q_dz, q_dn, q_nb, and_true, true_and, and_false, false_and, nI_add, pk_mul, if_true, if_false, ite_true, ite_false, Nat.add_zero, Nat.zero_add, Nat.reduceAdd, s6_of hN', go]
  by_cases z : dS D s 4 ≤ dS D s 2 * pD D s 0 i Y
  · have nx : pNx D s 0 i Y = none := if_pos (by rw [wn]; exact z)
    have nl : pNl D s 0 i Y = dS D s 4 := (if_pos (by rw [wn]; exact z)).trans wn
    have j0 : pJ D s 0 i Y = 0 := by unfold pJ; rw [nx]; rfl
    rw [nl, nx, j0]
    simp (disch := omega) only [q_lit, q_gt, q_bd, q_bxl, q_bxr, q_vib, q_cl, q_pos, q_lt, q_le, q_eq, q_neg, q_neg1, q_negz, q_negeq0, q_neg0le, q_rem, q_div, q_sub, q_if1, q_if0, q_okB0, q_okB1, q_dz, q_dn, q_nb, and_true, true_and, and_false, false_and, nI_add, pk_mul, if_true, if_false, ite_true, ite_false, Nat.add_zero, Nat.zero_add, Nat.reduceAdd, om]
  · have nx : pNx D s 0 i Y = goA (lc Y) (i / 120 + 1) := if_neg (by rw [wn]; exact z)
    have nl : pNl D s 0 i Y = om (pNx D s 0 i Y) (dS D s 2 * pD D s 0 i Y) (fun _ => dS D s 2 * (pD D s 0 i Y - 1)) := if_neg (by rw [wn]; exact z)
    have jj : pJ D s 0 i Y = om (pNx D s 0 i Y) 0 (fun _ => 1) := rfl
    rw [nl, jj, nx]
    cases e : goA (lc Y) (i / 120 + 1) with
    | none =>
      simp (disch := omega) only [q_lit, q_gt, q_bd, q_bxl, q_bxr, q_vib, q_cl, q_pos, q_lt, q_le, q_eq, q_neg, q_neg1, q_negz, q_negeq0, q_neg0le, q_rem, q_div, q_sub, q_if1, q_if0, q_okB0, q_okB1, q_dz, q_dn, q_nb, and_true, true_and, and_false, false_and, nI_add, pk_mul, if_true, if_false, ite_true, ite_false, Nat.add_zero, Nat.zero_add, Nat.reduceAdd, om]
    | some i' =>
      have i5 := (goA_some e).2.1
      simp (disch := omega) only [q_lit, q_gt, q_bd, q_bxl, q_bxr, q_vib, q_cl, q_pos, q_lt, q_le, q_eq, q_neg, q_neg1, q_negz, q_negeq0, q_neg0le, q_rem, q_div, q_sub, q_if1, q_if0, q_okB0, q_okB1, q_dz, q_dn, q_nb, and_true, true_and, and_false, false_and, nI_add, pk_mul, if_true, if_false, ite_true, ite_false, Nat.add_zero, Nat.zero_add, Nat.reduceAdd, om]
theorem s6_places {σ : Hp} {Y : Ly} (hR : RfR P σ Y) (hNw : NwR σ 85 D) (hSs : ∀ s, s < 12 → SOk D s) (N s : Nat) (hN : 500 ≤ N) (hs : s < 12) (hl : ln Y s = 0) (hl2 : ll Y s = 0) (h0 : dS D s 0 = 1) : ∃ σ', f6_places N (nI s) σ = some ((), σ') ∧ Fr6 σ σ' ∧ RfR (fun t => P t ∨ t = s) σ' (placeY D s Y) := by
  obtain ⟨a0, a1, a2, a3, a4, a5, a6, a7, a8, a9⟩ := id (hSs s hs)
  have a10 := a9 h0
  have hh : hd D s ≤ 13 := by unfold hd; omega
  have hR0 : RfR (fun t => P t ∨ t = s) (st (st σ 92 s (-nI 1)) 93 s (nI 0)) Y := by
    refine ⟨fun t ht => ?_, fun t ht => ?_, fun t ht hp => ?_⟩
    · simp (disch := omega) only [q_lit, q_gt, q_bd, q_bxl, q_bxr, q_vib, q_cl, q_pos, q_lt, q_le, q_eq, q_neg, q_neg1, q_negz, q_negeq0, q_neg0le, q_rem, q_div, q_sub, q_if1, q_if0, q_okB0, q_okB1, q_dz, q_dn, q_nb, and_true, true_and, and_false, false_and, nI_add, pk_mul, if_true, if_false, ite_true, ite_false, Nat.add_zero, Nat.zero_add, Nat.reduceAdd, st_row]
      exact hR.1 t ht
    · simp (disch := omega) only [q_lit, q_gt, q_bd, q_bxl, q_bxr, q_vib, q_cl, q_pos, q_lt, q_le, q_eq, q_neg, q_neg1, q_negz, q_negeq0, q_neg0le, q_rem, q_div, q_sub, q_if1, q_if0, q_okB0, q_okB1, q_dz, q_dn, q_nb, and_true, true_and, and_false, false_and, nI_add, pk_mul, if_true, if_false, ite_true, ite_false, Nat.add_zero, Nat.zero_add, Nat.reduceAdd, st_row]
      exact hR.2.1 t ht
    · by_cases z : t = s
      · subst z
        rw [hl, if_pos rfl]
        refine ⟨st_same _ _ _ _, by omega, ?_, fun h => by omega, fun q k h => by omega⟩
        rw [st_row _ _ _ _ (by omega)]
        exact st_same _ _ _ _
      · have := hR.2.2 t ht (hp.resolve_right z)
        rw [st_ne (k' := 93) (i' := t) _ _ _ _ (Or.inr z), st_row (k' := 93) σ _ _ _ (by omega), st_row (k' := 94) _ _ _ _ (by omega), st_row (k' := 94) σ _ _ _ (by omega), st_row (k' := 95) _ _ _ _ (by omega), st_row (k' := 95) σ _ _ _ (by omega), st_row (k' := 92) _ _ _ _ (by omega), st_ne (k' := 92) (i' := t) _ _ _ _ (Or.inr z)]
        exact this
  have hN0 : NwR (st (st σ 92 s (-nI 1)) 93 s (nI 0)) 85 D := hNw.congr (by simp (disch := omega) only [q_lit, q_gt, q_bd, q_bxl, q_bxr, q_vib, q_cl, q_pos, q_lt, q_le, q_eq, q_neg, q_neg1, q_negz, q_negeq0, q_neg0le, q_rem, q_div, q_sub, q_if1, q_if0, q_okB0, q_okB1, q_dz, q_dn, q_nb, and_true, true_and, and_false, false_and, nI_add, pk_mul, if_true, if_false, ite_true, ite_false, Nat.add_zero, Nat.zero_add, Nat.reduceAdd, st_row])
  have fr0 : Fr6 σ (st (st σ 92 s (-nI 1)) 93 s (nI 0)) := fun k hk => by rw [st_row _ _ _ _ (by omega), st_row _ _ _ _ (by omega)]
  have key : ∀ last : Nat, last ≤ 3 → dS D s 1 ≤ last → ∃ σ', f6_places_J35 N (nI s) (nI last) (st (st σ 92 s (-nI 1)) 93 s (nI 0)) = some ((), σ') ∧ Fr6 σ σ' ∧ RfR (fun t => P t ∨ t = s) σ' (om (fsN (goF (lc Y) (dS D s 2) (hd D s + 2)) (last + 1 - dS D s 1) (dS D s 1)) Y (fun i => goY D s 4 0 i Y)) := by
    intro last hlast hl3
    have main := lps (goF (lc Y) (dS D s 2) (hd D s + 2)) (fun _ _ => none) (f6_places_B43 N (nI s) (nI last) (fun σL43 => some ((), σL43))) (fun t j => t (nI j) (st (st σ 92 s (-nI 1)) 93 s (nI 0))) (last + 1) (fun i => bd (f6_starts N (nI s) (nI (i / 120)) (nI (i - 120 * (i / 120))) (st (st σ 92 s (-nI 1)) 93 s (nI 0))) (fun _ σ81 => some ((), σ81))) (some ((), st (st σ 92 s (-nI 1)) 93 s (nI 0))) (by
      intro r
      show f6_places_B43 _ _ _ _ _ _ _ = _
      unfold f6_places_B43
      simp (disch := omega) only [q_lit, q_gt, q_bd, q_bxl, q_bxr, q_vib, q_cl, q_pos, q_lt, q_le, q_eq, q_neg, q_neg1, q_negz, q_negeq0, q_neg0le, q_rem, q_div, q_sub, q_if1, q_if0, q_okB0, q_okB1, q_dz, q_dn, q_nb, and_true, true_and, and_false, false_and, nI_add, pk_mul, if_true, if_false, ite_true, ite_false, Nat.add_zero, Nat.zero_add, Nat.reduceAdd]) (by
      intro r j hj
      show f6_places_B43 _ _ _ _ _ _ _ = _
      unfold f6_places_B43
      simp (disch := omega) only [q_lit, q_gt, q_bd, q_bxl, q_bxr, q_vib, q_cl, q_pos, q_lt, q_le, q_eq, q_neg, q_neg1, q_negz, q_negeq0, q_neg0le, q_rem, q_div, q_sub, q_if1, q_if0, q_okB0, q_okB1, q_dz, q_dn, q_nb, and_true, true_and, and_false, false_and, nI_add, pk_mul, if_true, if_false, ite_true, ite_false, Nat.add_zero, Nat.zero_add, Nat.reduceAdd, s6_of hN0, s6_head hN0, s6_block N j (dS D s 2) (hd D s + 2) (st (st σ 92 s (-nI 1)) 93 s (nI 0)) hN (by omega) (by omega) (by omega) (by omega) (by omega), rf_bk hR0]
      unfold goF
      cases e : bk (lc Y) j (dS D s 2) (hd D s + 2) with
      | none =>
        simp (disch := omega) only [q_lit, q_gt, q_bd, q_bxl, q_bxr, q_vib, q_cl, q_pos, q_lt, q_le, q_eq, q_neg, q_neg1, q_negz, q_negeq0, q_neg0le, q_rem, q_div, q_sub, q_if1, q_if0, q_okB0, q_okB1, q_dz, q_dn, q_nb, and_true, true_and, and_false, false_and, nI_add, pk_mul, if_true, if_false, ite_true, ite_false, Nat.add_zero, Nat.zero_add, Nat.reduceAdd, om]
      | some a =>
        have q := bk_some e (by omega) (by omega) (by omega) (by omega)
        simp (disch := omega) only [q_lit, q_gt, q_bd, q_bxl, q_bxr, q_vib, q_cl, q_pos, q_lt, q_le, q_eq, q_neg, q_neg1, q_negz, q_negeq0, q_neg0le, q_rem, q_div, q_sub, q_if1, q_if0, q_okB0, q_okB1, q_dz, q_dn, q_nb, and_true, true_and, and_false, false_and, nI_add, pk_mul, if_true, if_false, ite_true, ite_false, Nat.add_zero, Nat.zero_add, Nat.reduceAdd, om]
        rw [show (120 * j + a) / 120 = j by omega, show 120 * j + a - 120 * j = a by omega]) (dS D s 1) N (by omega) (by omega)
    replace main : f6_places_L43 N (nI s) (nI last) (fun σL43 => some ((), σL43)) N (nI (dS D s 1)) (st (st σ 92 s (-nI 1)) 93 s (nI 0)) = _ := main
    unfold f6_places_J35
    simp (disch := omega) only [q_lit, q_gt, q_bd, q_bxl, q_bxr, q_vib, q_cl, q_pos, q_lt, q_le, q_eq, q_neg, q_neg1, q_negz, q_negeq0, q_neg0le, q_rem, q_div, q_sub, q_if1, q_if0, q_okB0, q_okB1, q_dz, q_dn, q_nb, and_true, true_and, and_false, false_and, nI_add, pk_mul, if_true, if_false, ite_true, ite_false, Nat.add_zero, Nat.zero_add, Nat.reduceAdd, s6_of hN0, main]
    cases e : fsN (goF (lc Y) (dS D s 2) (hd D s + 2)) (last + 1 - dS D s 1) (dS D s 1) with
    | none => exact ⟨_, rfl, fr0, hR0⟩
    | some i =>
      obtain ⟨j, h1, h2, h3⟩ := fsN_some e
      have q := goF_some h3 (by omega) (by omega) (by omega) (by omega)
      obtain ⟨σ', t1, t2, t3⟩ := s6_starts hR0 hN0 hSs N s i hN hs (Or.inr rfl) ⟨hl, fun _ => hl2, by omega, ⟨by omega, q.2.1, q.2.2.1, q.2.2.2⟩⟩ h0
      refine ⟨σ', ?_, fun k hk => (t2 k hk).trans (fr0 k hk), t3⟩
      show bd (f6_starts N (nI s) (nI (i / 120)) (nI (i - 120 * (i / 120))) (st (st σ 92 s (-nI 1)) 93 s (nI 0))) (fun _ σ81 => some ((), σ81)) = _
      rw [t1]
      rfl
  unfold f6_places placeY findSt
  simp (disch := omega) only [q_lit, q_gt, q_bd, q_bxl, q_bxr, q_vib, q_cl, q_pos, q_lt, q_le, q_eq, q_neg, q_neg1, q_negz, q_negeq0, q_neg0le, q_rem, q_div, q_sub, q_if1, q_if0, q_okB0, q_okB1, q_dz, q_dn, q_nb, and_true, true_and, and_false, false_and, nI_add, pk_mul, if_true, if_false, ite_true, ite_false, Nat.add_zero, Nat.zero_add, Nat.reduceAdd, s6_of hN0]
  rcases bit_cases a8 with z | z
  · rw [z]
    simp (disch := omega) only [q_lit, q_gt, q_bd, q_bxl, q_bxr, q_vib, q_cl, q_pos, q_lt, q_le, q_eq, q_neg, q_neg1, q_negz, q_negeq0, q_neg0le, q_rem, q_div, q_sub, q_if1, q_if0, q_okB0, q_okB1, q_dz, q_dn, q_nb, and_true, true_and, and_false, false_and, nI_add, pk_mul, if_true, if_false, ite_true, ite_false, Nat.add_zero, Nat.zero_add, Nat.reduceAdd]
    exact key 3 (by omega) a1
  · rw [z]
    simp (disch := omega) only [q_lit, q_gt, q_bd, q_bxl, q_bxr, q_vib, q_cl, q_pos, q_lt, q_le, q_eq, q_neg, q_neg1, q_negz, q_negeq0, q_neg0le, q_rem, q_div, q_sub, q_if1, q_if0, q_okB0, q_okB1, q_dz, q_dn, q_nb, and_true, true_and, and_false, false_and, nI_add, pk_mul, if_true, if_false, ite_true, ite_false, Nat.add_zero, Nat.zero_add, Nat.reduceAdd]
    exact key (dS D s 1) a1 (Nat.le_refl _)
end L7
