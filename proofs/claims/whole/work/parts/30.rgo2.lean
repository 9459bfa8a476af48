/-! THE PURE PART. The reference places a story: its two loops over parts. -/
theorem goF_bk {c : Nat → Int32} {p w h i : Nat} (e : goF c w h p = some i) : bk c p w h = some (i - 120 * p) ∧ 120 * p ≤ i := by
  unfold goF at e
  cases z : bk c p w h with
  | none =>
    rw [z] at e
    cases e
  | some a =>
    rw [z] at e
    have e2 : 120 * p + a = i := Option.some.inj e
    exact ⟨by rw [show i - 120 * p = a by omega], by omega⟩
theorem goA_goF {c : Nat → Int32} {p i : Nat} (e : goA c p = some i) : goF c 1 3 (i / 120) = some i := by
  obtain ⟨j, h1, h2, h3⟩ := fsN_some e
  have q := goF_some h3 (by omega) (by omega) (by omega) (by omega)
  rw [q.1]
  exact h3
theorem goF_part {D : Nat → Nat} {s q i i' : Nat} {Y : Ly} (hD : SOk D s) (h0 : dS D s 0 = 1) (h : Pre D s q i Y) (e : pNx D s q i Y = some i') : goF (lc (partY D s q i Y)) 1 3 (i' / 120) = some i' := by
  have hw := Pre.w (q := q) (i := i) (Y := Y) hD h0
  have hd2 := h.d
  have ft := part_fit (i := i) (Y := Y) hw.1 hw.2.1 (by omega)
  have e2 : goA (lc Y) (i / 120 + 1) = some i' := by
    unfold pNx at e
    by_cases z : pWant D s Y ≤ pW D s q * pD D s q i Y
    · rw [if_pos z] at e
      cases e
    · rw [if_neg z] at e
      exact e
  have g1 := (goA_some e2).1
  have e3 := goA_goF e2
  unfold goF at e3 ⊢
  rw [bk_congr (c' := lc Y) (by omega)]
  · exact e3
  · intro t h1 h2
    apply pR_out
    · exact Nat.le_refl _
    · have := h.2.2.2.2.2.1
      omega
section L6
variable {D : Nat → Nat} {P : Nat → Prop}
def Fr6 (σ σ' : Hp) : Prop := ∀ k, k < 89 ∨ k = 91 ∨ 95 < k → σ' k = σ k
theorem s6_tailC {σ : Hp} {Y : Ly} (hR : RfR P σ Y) (N s q i : Nat) (hN : 500 ≤ N) (hs : s < 12) (hq : q ≤ 2) (hl : P s) (hpre : Pre D s (q + 1) i Y) (hS : SOk D s) (h0 : dS D s 0 = 1) (x2 x3 : Int32) (K6 : Hp → Option (Unit × Hp)) (r6 : Int32 → Int32 → Hp → Option (Unit × Hp)) : ∃ σ', f6_continues_J113 N (nI s) x2 x3 K6 r6 (nI (i / 120)) (nI (ll Y s)) (nI (i % 120 / 5)) (nI (i % 5)) (om (pNx D s (q + 1) i Y) (-nI 1) (fun a => nI (a / 120))) (nI (pNl D s (q + 1) i Y)) σ = r6 (om (pNx D s (q + 1) i Y) (-nI 1) (fun a => nI (a / 120))) (nI (ll Y s + pNl D s (q + 1) i Y)) σ' ∧ Fr6 σ σ' ∧ RfR P σ' (partY D s (q + 1) i Y) := by
  have hw := Pre.w (q := q + 1) (i := i) (Y := Y) hS h0
  have hd2 := hpre.d
  have ft := part_fit (i := i) (Y := Y) hw.1 hw.2.1 (by omega)
  have hib := hpre.2.2.2
  have hi0 := hib.1
  have hcol := hib.2.2.1
  have a4 := hS.2.2.2.2.1
  have hwant : pWant D s Y ≤ 150 := by unfold pWant; omega
  have lrn : pLr D s (q + 1) i Y = pNl D s (q + 1) i Y := by
    show (pNl D s (q + 1) i Y + 1 - 1) / 1 = _
    omega
  have ab : abv D s (q + 1) = 1 := rfl
  have w1 : pW D s (q + 1) = 1 := rfl
  have l93 := (hR.2.2 s hs hl).1
  rw [hpre.1] at l93
  have fills := s6_fillsT N (i / 120) (i % 5) (i % 120 / 5) 1 1 i (nI 7) (nI s) (σ 89) (σ 90) σ hN (by omega) (by omega) (by omega) (by omega) (by omega) (by omega) (by omega)
  have lines := fun f f' => s6_linesIn (σ := σ) N s (i / 120) (i % 5) (i % 120 / 5 + 1) 1 (pNl D s (q + 1) i Y) (pNl D s (q + 1) i Y) (i + 1 * 5) f f' hN (by omega) (by omega) (by omega) (by omega) (by omega) (by omega) (by omega) (by omega) (by omega) (by omega)
  rw [show tw 88 (σ 89) (σ 90) σ = σ from tw_self 88 σ] at fills
  have fin : ∀ σ1 j, σ1 = tw 88 (pR nI D s (q + 1) i 1 (pNl D s (q + 1) i Y) (pNl D s (q + 1) i Y) j (σ 89)) (pR (fun _ => nI s) D s (q + 1) i 1 (pNl D s (q + 1) i Y) (pNl D s (q + 1) i Y) j (σ 90)) σ → pJ D s (q + 1) i Y = j → j ≤ 1 → ∃ σ', f6_notes N (nI s) (nI (i / 120)) (nI (i % 5)) (nI (i % 120 / 5)) (nI 1) (nI (1 + pNl D s (q + 1) i Y + j)) (nI (pNl D s (q + 1) i Y)) (nI (ll Y s)) (nI j) σ1 = some ((), σ') ∧ Fr6 σ σ' ∧ RfR P σ' (partY D s (q + 1) i Y) := by
    intro σ1 j e1 e2 hj
    have n93 : σ1 93 = σ 93 := by rw [e1]; exact tw_n _ _ _ _ (by omega) (by omega)
    obtain ⟨σ', k1, k2, k3, k4, k5⟩ := s6_notes (σ := σ1) N s (q + 1) i 1 (1 + pNl D s (q + 1) i Y + j) (pNl D s (q + 1) i Y) (ll Y s) j (abv D s (q + 1)) hs (by omega) (by rw [n93]; exact l93) hj
    refine ⟨σ', k1, fun k hk => ?_, ?_⟩
    · rw [k2 k (by omega) (by omega), e1]
      exact tw_n _ _ _ _ (by omega) (by omega)
    · refine rf_part hR hs (by omega) (fun _ => hpre.1) ?_ ?_ ?_ ?_ ?_ ?_ ?_
      · rw [k2 89 (by omega) (by omega), e1, e2, lrn]
        exact tw_1 88 _ _ _
      · rw [k2 90 (by omega) (by omega), e1, e2, lrn]
        exact tw_2 88 _ _ _
      · intro t
        rw [k3 t, n93]
      · intro k hk
        rw [k4 k hk, e2, lrn, ab, w1]
      · intro t ht
        rw [k5 t ht, e1]
        exact congrFun (tw_n 88 _ _ _ (k := 94) (by omega) (by omega)) t
      · intro t
        rw [k2 92 (by omega) (by omega), e1, if_neg (by omega)]
        exact congrFun (tw_n 88 _ _ _ (k := 92) (by omega) (by omega)) t
      · intro t
        rw [k2 95 (by omega) (by omega), e1, if_neg (by omega)]
        exact congrFun (tw_n 88 _ _ _ (k := 95) (by omega) (by omega)) t
  unfold f6_continues_J113 f6_continues_J173 f6_continues_J196 f6_continues_J211
  simp (disch := omega) only [q_lit, q_gt, q_bd, q_bxl, q_bxr, q_vib, q_cl, q_pos, q_lt, q_le, q_eq, q_neg, q_neg1, q_negz, q_negeq0, q_neg0le, q_rem, q_div, q_sub, q_if1, q_if0, q_okB0, q_okB1, q_dz, q_dn, q_nb, and_true, true_and, and_false, false_and, nI_add, pk_mul, if_true, if_false, ite_true, ite_false, Nat.add_zero, Nat.zero_add, Nat.reduceAdd, fills, lines]
  cases e : pNx D s (q + 1) i Y with
  | none =>
    have j0 : pJ D s (q + 1) i Y = 0 := by unfold pJ; rw [e]; rfl
    obtain ⟨σ', h1, h2, h3⟩ := fin _ 0 rfl j0 (by omega)
    refine ⟨σ', ?_, h2, h3⟩
    simp (disch := omega) only [q_lit, q_gt, q_bd, q_bxl, q_bxr, q_vib, q_cl, q_pos, q_lt, q_le, q_eq, q_neg, q_neg1, q_negz, q_negeq0, q_neg0le, q_rem, q_div, q_sub, q_if1, q_if0, q_okB0, q_okB1, q_dz, q_dn, q_nb, and_true, true_and, and_false, false_and, nI_add, pk_mul, if_true, if_false, ite_true, ite_false, Nat.add_zero, Nat.zero_add, Nat.reduceAdd, om]
    refine Eq.trans ?_ (congrArg (fun x => bd x (fun _ σ211 => r6 (-nI 1) (nI (ll Y s + pNl D s (q + 1) i Y)) σ211)) h1)
    rfl
  | some i' =>
    have j0 : pJ D s (q + 1) i Y = 1 := by unfold pJ; rw [e]; rfl
    have nx := hpre.next hS h0 e
    have ni := nx.1.2.2.2.1
    have fills2 := fun f f' => s6_fillsT N (i / 120) (i % 5) (i % 120 / 5 + 1 + pNl D s (q + 1) i Y) 1 1 (i + 1 * 5 + pNl D s (q + 1) i Y * 5) (nI 6) (nI s) f f' σ hN (by omega) (by omega) (by omega) (by omega) (by omega) (by omega) (by omega)
    obtain ⟨σ', h1, h2, h3⟩ := fin _ 1 rfl j0 (by omega)
    refine ⟨σ', ?_, h2, h3⟩
    simp (disch := omega) only [q_lit, q_gt, q_bd, q_bxl, q_bxr, q_vib, q_cl, q_pos, q_lt, q_le, q_eq, q_neg, q_neg1, q_negz, q_negeq0, q_neg0le, q_rem, q_div, q_sub, q_if1, q_if0, q_okB0, q_okB1, q_dz, q_dn, q_nb, and_true, true_and, and_false, false_and, nI_add, pk_mul, if_true, if_false, ite_true, ite_false, Nat.add_zero, Nat.zero_add, Nat.reduceAdd, om, fills2]
    refine Eq.trans ?_ (congrArg (fun x => bd x (fun _ σ211 => r6 (nI (i' / 120)) (nI (ll Y s + pNl D s (q + 1) i Y)) σ211)) h1)
    rfl
theorem s6_contStep {σ : Hp} {Y : Ly} (hR : RfR P σ Y) (hNw : NwR σ 85 D) (N s q i : Nat) (hN : 500 ≤ N) (hs : s < 12) (hq : q ≤ 2) (hl : P s) (hpre : Pre D s (q + 1) i Y) (hgo : goF (lc Y) 1 3 (i / 120) = some i) (hS : SOk D s) (h0 : dS D s 0 = 1) (x2 x3 : Int32) (K6 : Hp → Option (Unit × Hp)) (r6 : Int32 → Int32 → Hp → Option (Unit × Hp)) : ∃ σ', f6_continues_B6 N (nI s) x2 x3 K6 r6 (nI (i / 120)) (nI (ll Y s)) σ = r6 (om (pNx D s (q + 1) i Y) (-nI 1) (fun a => nI (a / 120))) (nI (ll Y s + pNl D s (q + 1) i Y)) σ' ∧ Fr6 σ σ' ∧ RfR P σ' (partY D s (q + 1) i Y) := by
  obtain ⟨σ', t1, t2, t3⟩ := s6_tailC hR N s q i hN hs hq hl hpre hS h0 x2 x3 K6 r6
  refine ⟨σ', ?_, t2, t3⟩
  rw [← t1]
  have hd2 := hpre.d
  have hib := hpre.2.2.2
  have hi0 := hib.1
  have hcol := hib.2.2.1
  have hll := hpre.2.2.1
  have a4 := hS.2.2.2.2.1
  have fe := rf_frn hR (w := 1) hi0 (by omega)
  have dd : frn (lc Y) 1 (24 - i % 120 / 5) i = pD D s (q + 1) i Y + 1 := by
    have := hib.2.2.2
    show _ = frn (lc Y) 1 (24 - i % 120 / 5) i - 1 + 1
    have h3 : 3 ≤ frn (lc Y) 1 (24 - i % 120 / 5) i := this
    omega
  have w1 : pW D s (q + 1) * pD D s (q + 1) i Y = pD D s (q + 1) i Y := Nat.one_mul _
  have bkk := goF_bk hgo
  have blk := s6_block N (i / 120) 1 3 σ hN (by omega) (by omega) (by omega) (by omega) (by omega)
  rw [rf_bk hR (by omega) (by omega), bkk.1] at blk
  replace blk : f6_block N (nI (i / 120)) (nI 1) (nI 3) σ = some (nI (i - 120 * (i / 120)), σ) := blk
  have loop : ∀ (K36 : Int32 → Hp → Option (Unit × Hp)), f6_continues_L36 N (nI s) x2 x3 K6 r6 (nI (i / 120)) (nI (ll Y s)) (nI (i % 120 / 5)) (nI (i % 5)) K36 N (nI 3) σ = K36 (nI (pD D s (q + 1) i Y + 1)) σ := by
    intro K36
    have main := lpc (fun _ _ => none) (f6_continues_B36 N (nI s) x2 x3 K6 r6 (nI (i / 120)) (nI (ll Y s)) (nI (i % 120 / 5)) (nI (i % 5)) K36) (fun t j => t (nI j) σ) (K36 (nI (pD D s (q + 1) i Y + 1)) σ) (pD D s (q + 1) i Y + 1) (by
      intro r
      show f6_continues_B36 _ _ _ _ _ _ _ _ _ _ _ _ _ _ = _
      unfold f6_continues_B36
      simp (disch := omega) only [q_lit, q_gt, q_bd, q_bxl, q_bxr, q_vib, q_cl, q_pos, q_lt, q_le, q_eq, q_neg, q_neg1, q_negz, q_negeq0, q_neg0le, q_rem, q_div, q_sub, q_if1, q_if0, q_okB0, q_okB1, q_dz, q_dn, q_nb, and_true, true_and, and_false, false_and, nI_add, pk_mul, if_true, if_false, ite_true, ite_false, Nat.add_zero, Nat.zero_add, Nat.reduceAdd, s6_isFree N (i / 120) (i % 5) (i % 120 / 5) 1 (pD D s (q + 1) i Y + 1 + 1) i σ hN (by omega) (by omega) (by omega) (by omega) (by omega), fe, dd]) (by
      intro r j hj
      show f6_continues_B36 _ _ _ _ _ _ _ _ _ _ _ _ _ _ = _
      unfold f6_continues_B36
      simp (disch := omega) only [q_lit, q_gt, q_bd, q_bxl, q_bxr, q_vib, q_cl, q_pos, q_lt, q_le, q_eq, q_neg, q_neg1, q_negz, q_negeq0, q_neg0le, q_rem, q_div, q_sub, q_if1, q_if0, q_okB0, q_okB1, q_dz, q_dn, q_nb, and_true, true_and, and_false, false_and, nI_add, pk_mul, if_true, if_false, ite_true, ite_false, Nat.add_zero, Nat.zero_add, Nat.reduceAdd, s6_isFree N (i / 120) (i % 5) (i % 120 / 5) 1 (j + 1) i σ hN (by omega) (by omega) (by omega) (by omega) (by omega), fe, dd]) (i := 3) (n := N) (by omega) (by omega)
    exact main
  have e1 : (i - 120 * (i / 120)) / 5 = i % 120 / 5 := by omega
  have e2 : i - 120 * (i / 120) - (i - 120 * (i / 120)) / 5 * 5 = i % 5 := by omega
  have e2' : i - 120 * (i / 120) - i % 120 / 5 * 5 = i % 5 := by omega
  unfold f6_continues_B6 f6_continues_J90
  simp (disch := omega) only [q_lit, q_gt, q_bd, q_bxl, q_bxr, q_vib, q_cl, q_pos, q_lt, q_le, q_eq, q_neg, q_neg1, q_negz, q_negeq0, q_neg0le, q_rem, q_div, q_sub, q_if1, q_if0, q_okB0, q_okB1, q_dz, q_dn, q_nb, and_true, true_and, and_false, false_and, nI_add, pk_mul, if_true, if_false, ite_true, ite_false, Nat.add_zero, Nat.zero_add, Nat.reduceAdd, blk, e1, e2, e2', loop, s6_of hNw, Nat.add_sub_cancel]
  by_cases z : dS D s 4 - ll Y s ≤ pD D s (q + 1) i Y
  · have nx : pNx D s (q + 1) i Y = none := if_pos (by rw [w1]; exact z)
    have nl : pNl D s (q + 1) i Y = dS D s 4 - ll Y s := if_pos (by rw [w1]; exact z)
    simp (disch := omega) only [q_lit, q_gt, q_bd, q_bxl, q_bxr, q_vib, q_cl, q_pos, q_lt, q_le, q_eq, q_neg, q_neg1, q_negz, q_negeq0, q_neg0le, q_rem, q_div, q_sub, q_if1, q_if0, q_okB0, q_okB1, q_dz, q_dn, q_nb, and_true, true_and, and_false, false_and, nI_add, pk_mul, if_true, if_false, ite_true, ite_false, Nat.add_zero, Nat.zero_add, Nat.reduceAdd]
    rw [nx, nl]
    rfl
  · have nx : pNx D s (q + 1) i Y = goA (lc Y) (i / 120 + 1) := if_neg (by rw [w1]; exact z)
    have nl : pNl D s (q + 1) i Y = om (pNx D s (q + 1) i Y) (pW D s (q + 1) * pD D s (q + 1) i Y) (fun _ => pW D s (q + 1) * (pD D s (q + 1) i Y - 1)) := if_neg (by rw [w1]; exact z)
    simp (disch := omega) only [q_lit, q_gt, q_bd, q_bxl, q_bxr, q_vib, q_cl, q_pos, q_lt, q_le, q_eq, q_neg, q_neg1, q_negz, q_negeq0, q_neg0le, q_rem, q_div, q_sub, q_if1, q_if0, q_okB0, q_okB1, q_dz, q_dn, q_nb, and_true, true_and, and_false, false_and, nI_add, pk_mul, if_true, if_false, ite_true, ite_false, Nat.add_zero, Nat.zero_add, Nat.reduceAdd, s6_goesOn hR N (i / 120) hN]
    rw [nl, nx]
    cases e : goA (lc Y) (i / 120 + 1) with
    | none =>
      simp (disch := omega) only [q_lit, q_gt, q_bd, q_bxl, q_bxr, q_vib, q_cl, q_pos, q_lt, q_le, q_eq, q_neg, q_neg1, q_negz, q_negeq0, q_neg0le, q_rem, q_div, q_sub, q_if1, q_if0, q_okB0, q_okB1, q_dz, q_dn, q_nb, and_true, true_and, and_false, false_and, nI_add, pk_mul, if_true, if_false, ite_true, ite_false, Nat.add_zero, Nat.zero_add, Nat.reduceAdd, om, w1]
    | some i' =>
      have i5 := (goA_some e).2.1
      have w2 : pW D s (q + 1) * (pD D s (q + 1) i Y - 1) = pD D s (q + 1) i Y + 1 - 2 := by
        show 1 * _ = _
        omega
      simp (disch := omega) only [q_lit, q_gt, q_bd, q_bxl, q_bxr, q_vib, q_cl, q_pos, q_lt, q_le, q_eq, q_neg, q_neg1, q_negz, q_negeq0, q_neg0le, q_rem, q_div, q_sub, q_if1, q_if0, q_okB0, q_okB1, q_dz, q_dn, q_nb, and_true, true_and, and_false, false_and, nI_add, pk_mul, if_true, if_false, ite_true, ite_false, Nat.add_zero, Nat.zero_add, Nat.reduceAdd, om, w2]
theorem s6_cont (hS : ∀ s, s < 12 → SOk D s) (N s : Nat) (hN : 500 ≤ N) (hs : s < 12) (h0 : dS D s 0 = 1) (hl : P s) (x2 x3 : Int32) (K : Hp → Option (Unit × Hp)) (z : Int32 → Int32 → Hp → Option (Unit × Hp)) : ∀ (n q i M : Nat) (Y : Ly) (σ : Hp), q + 1 + n = 4 → n + 1 < M → RfR P σ Y → NwR σ 85 D → Pre D s (q + 1) i Y → goF (lc Y) 1 3 (i / 120) = some i → q + 1 ≤ i / 120 → ∃ σ', it z (f6_continues_B6 N (nI s) x2 x3 K) M (nI (i / 120)) (nI (ll Y s)) σ = K σ' ∧ Fr6 σ σ' ∧ RfR P σ' (goY D s n (q + 1) i Y) := by
  intro n
  induction n with
  | zero =>
    intro q i M Y σ h1 h2 hR hNw hpre hgo hpage
    have := hpre.2.2.2.1
    omega
  | succ n ih =>
    intro q i M Y σ h1 h2 hR hNw hpre hgo hpage
    obtain ⟨m, rfl⟩ : ∃ m, M = m + 1 := ⟨M - 1, by omega⟩
    obtain ⟨σ1, e1, f1, p1⟩ := s6_contStep hR hNw N s q i hN hs (by omega) hl hpre hgo (hS s hs) h0 x2 x3 K (it z (f6_continues_B6 N (nI s) x2 x3 K) m)
    rw [it_s, e1]
    show ∃ σ', _ ∧ _ ∧ RfR P σ' (om (pNx D s (q + 1) i Y) (partY D s (q + 1) i Y) (fun i' => goY D s n (q + 1 + 1) i' (partY D s (q + 1) i Y)))
    cases e : pNx D s (q + 1) i Y with
    | none =>
      obtain ⟨m', rfl⟩ : ∃ m', m = m' + 1 := ⟨m - 1, by omega⟩
      refine ⟨σ1, ?_, f1, p1⟩
      rw [it_s]
      show f6_continues_B6 N (nI s) x2 x3 K _ (-nI 1) (nI (ll Y s + pNl D s (q + 1) i Y)) σ1 = K σ1
      unfold f6_continues_B6
      simp (disch := omega) only [q_lit, q_gt, q_bd, q_bxl, q_bxr, q_vib, q_cl, q_pos, q_lt, q_le, q_eq, q_neg, q_neg1, q_negz, q_negeq0, q_neg0le, q_rem, q_div, q_sub, q_if1, q_if0, q_okB0, q_okB1, q_dz, q_dn, q_nb, and_true, true_and, and_false, false_and, nI_add, pk_mul, if_true, if_false, ite_true, ite_false, Nat.add_zero, Nat.zero_add, Nat.reduceAdd]
    | some i' =>
      have nx := hpre.next (hS s hs) h0 e
      have gg := goF_part (hS s hs) h0 hpre e
      obtain ⟨σ', e2, f2, p2⟩ := ih (q + 1) i' m (partY D s (q + 1) i Y) σ1 (by omega) (by omega) p1 (hNw.congr (f1 85 (by omega))) nx.1 gg (by omega)
      refine ⟨σ', ?_, fun k hk => (f2 k hk).trans (f1 k hk), p2⟩
      have el : ll (partY D s (q + 1) i Y) s = ll Y s + pNl D s (q + 1) i Y := upN_s _ _ _
      rw [el] at e2
      exact e2
end L6
