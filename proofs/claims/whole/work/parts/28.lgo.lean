/-! THE PURE PART. The class places a story. -/
theorem part_fit {D : Nat → Nat} {s q i : Nat} {Y : Ly} (hw : 1 ≤ pW D s q) (hw3 : pW D s q ≤ 3) (hd2 : 1 ≤ pD D s q i Y) : pLr D s q i Y + pJ D s q i Y ≤ pD D s q i Y ∧ pNl D s q i Y ≤ pWant D s Y ∧ pNl D s q i Y ≤ pW D s q * pD D s q i Y := by
  unfold pLr pJ pNl
  by_cases z : pWant D s Y ≤ pW D s q * pD D s q i Y
  · have nx : pNx D s q i Y = none := if_pos z
    rw [nx, if_pos z]
    refine ⟨?_, Nat.le_refl _, z⟩
    show (pWant D s Y + pW D s q - 1) / pW D s q + 0 ≤ _
    obtain h | h | h : pW D s q = 1 ∨ pW D s q = 2 ∨ pW D s q = 3 := by omega
    all_goals (rw [h] at z ⊢; omega)
  · rw [if_neg z]
    cases e : pNx D s q i Y with
    | none =>
      show (pW D s q * pD D s q i Y + pW D s q - 1) / pW D s q + 0 ≤ _ ∧ pW D s q * pD D s q i Y ≤ _ ∧ pW D s q * pD D s q i Y ≤ _
      refine ⟨?_, by omega, Nat.le_refl _⟩
      obtain h | h | h : pW D s q = 1 ∨ pW D s q = 2 ∨ pW D s q = 3 := by omega
      all_goals (rw [h]; omega)
    | some i' =>
      show (pW D s q * (pD D s q i Y - 1) + pW D s q - 1) / pW D s q + 1 ≤ _ ∧ pW D s q * (pD D s q i Y - 1) ≤ _ ∧ pW D s q * (pD D s q i Y - 1) ≤ _
      have : pW D s q * (pD D s q i Y - 1) ≤ pW D s q * pD D s q i Y := Nat.mul_le_mul (Nat.le_refl _) (by omega)
      refine ⟨?_, by omega, this⟩
      obtain h | h | h : pW D s q = 1 ∨ pW D s q = 2 ∨ pW D s q = 3 := by omega
      all_goals (rw [h]; omega)
/-- what holds when part q of story s is begun at cell i -/
def Pre (D : Nat → Nat) (s q i : Nat) (Y : Ly) : Prop := ln Y s = q ∧ (q = 0 → ll Y s = 0) ∧ ll Y s ≤ dS D s 4 ∧ Ib (lc Y) (pW D s q) (abv D s q + 2) i
theorem Pre.w {D : Nat → Nat} {s q i : Nat} {Y : Ly} (hD : SOk D s) (h0 : dS D s 0 = 1) : 1 ≤ pW D s q ∧ pW D s q ≤ 3 ∧ abv D s q ≤ 13 := by
  obtain ⟨a0, a1, a2, a3, a4, a5, a6, a7, a8, a9⟩ := hD
  have a10 := a9 h0
  unfold pW abv hd
  split
  · exact ⟨a10.1, a2, by omega⟩
  · exact ⟨Nat.le_refl 1, by omega, by omega⟩
theorem Pre.d {D : Nat → Nat} {s q i : Nat} {Y : Ly} (h : Pre D s q i Y) : 2 ≤ pD D s q i Y ∧ i % 120 / 5 + abv D s q + pD D s q i Y ≤ 24 := by
  have h1 := h.2.2.2.2.2.2
  have h2 := frn_le (lc Y) (pW D s q) (24 - i % 120 / 5) i
  have h3 := h.2.2.2.2.1
  unfold pD
  omega
theorem Pre.next {D : Nat → Nat} {s q i i' : Nat} {Y : Ly} (hD : SOk D s) (h0 : dS D s 0 = 1) (h : Pre D s q i Y) (e : pNx D s q i Y = some i') : Pre D s (q + 1) i' (partY D s q i Y) ∧ i / 120 < i' / 120 := by
  have hw := Pre.w (q := q) (i := i) (Y := Y) hD h0
  have hd2 := h.d
  have ft := part_fit (i := i) (Y := Y) hw.1 hw.2.1 (by omega)
  have e2 : goA (lc Y) (i / 120 + 1) = some i' := by
    unfold pNx at e
    by_cases z : pWant D s Y ≤ pW D s q * pD D s q i Y
    · rw [if_pos z] at e
      cases e
    · rw [if_neg z] at e
      exact e
  obtain ⟨g1, g2, g3, g4, g5⟩ := goA_some e2
  refine ⟨⟨?_, ?_, ?_, ?_⟩, by omega⟩
  · show upN (ln Y) s (q + 1) s = q + 1
    exact upN_s _ _ _
  · intro z
    omega
  · show upN (ll Y) s (ll Y s + pNl D s q i Y) s ≤ _
    rw [upN_s]
    have := h.2.2.1
    have := ft.2.1
    unfold pWant at this
    omega
  · refine ⟨g2, g3, g4, ?_⟩
    show 3 ≤ frn (pR nI D s q i (pW D s q) (pLr D s q i Y) (pNl D s q i Y) (pJ D s q i Y) (lc Y)) 1 (24 - i' % 120 / 5) i'
    rw [frn_congr (c' := lc Y) (by omega)]
    · exact g5
    · intro t h1 h2
      apply pR_out
      · exact Nat.le_refl _
      · have := h.2.2.2.2.2.1
        omega
section L4
variable {g : Nat} {D : Nat → Nat}
theorem s3_part (hg : isP g) (hD : DOk D) (N s q i : Nat) (hN : 500 ≤ N) (hs : s < 12) (h0 : dS D s 0 = 1) (hq : q ≤ 3) {Y : Ly} {σ : Hp} (hP : PgR g σ Y) (hE : EdR σ (edOf g) D) (hpre : Pre D s q i Y) (K8 : Hp → Option (Unit × Hp)) (r8 : Int32 → Int32 → Hp → Option (Unit × Hp)) : ∃ σ', f3_placeStory_B8 N g (nI s) K8 r8 (nI i) (nI q) σ = r8 (om (pNx D s q i Y) (-nI 1) nI) (nI (q + 1)) σ' ∧ (∀ k, k < g + 1 ∨ (g + 2 < k ∧ k < g + 5) ∨ g + 8 < k → σ' k = σ k) ∧ PgR g σ' (partY D s q i Y) := by
  have hS := hD.2.2.1 s hs
  have hw := Pre.w (q := q) (i := i) (Y := Y) hS h0
  have hd2 := hpre.d
  have ft := part_fit (i := i) (Y := Y) hw.1 hw.2.1 (by omega)
  have hib := hpre.2.2.2
  have hi0 := hib.1
  have hcol := hib.2.2.1
  have a4 := hS.2.2.2.2.1
  have hwant : pWant D s Y ≤ 150 := by unfold pWant; omega
  have fin : ∀ σ1, (∀ k, k < g + 5 ∨ g + 8 < k → σ1 k = σ k) → PgR g σ1 (adP D s q i Y) → ∃ σ', f3_paintPart N g (nI s) (nI q) σ1 = some ((), σ') ∧ (∀ k, k < g + 1 ∨ (g + 2 < k ∧ k < g + 5) ∨ g + 8 < k → σ' k = σ k) ∧ PgR g σ' (partY D s q i Y) := by
    intro σ1 f1 p1
    have pp := s3_paintPart hg (ed_fr hg hE (fun k hk => f1 k (by omega))) hD N s q i (pLr D s q i Y) (pNl D s q i Y) (ll Y s) (pJ D s q i Y) hN hs hq hw.1 (fun k hk => by
      have := p1.2.2.2 s q k hs (by
        show q < upN (ln _) s (q + 1) s
        rw [upN_s]
        omega) hk
      rw [this]
      show nI (if s = s ∧ q = q then pVal i (pW D s q) _ _ (ll (if q = 0 then dpY s (pD D s q i Y) Y else Y) s) _ _ k else _) = _
      rw [if_pos ⟨rfl, rfl⟩]
      by_cases z : q = 0
      · rw [if_pos z]
        rfl
      · rw [if_neg z]) hi0 hcol (by omega) (Nat.le_refl _) (by omega)
    refine ⟨_, pp, ?_, ?_, ?_, ?_, ?_⟩
    · intro k hk
      rw [tw_n _ _ _ _ (by omega) (by omega)]
      exact f1 k (by omega)
    · rw [tw_1, p1.1]
      unfold adP
      by_cases z : q = 0
      · rw [if_pos z]
        rfl
      · rw [if_neg z]
        rfl
    · rw [tw_2, p1.2.1]
      unfold adP
      by_cases z : q = 0
      · rw [if_pos z]
        rfl
      · rw [if_neg z]
        rfl
    · intro t ht
      rw [tw_n _ _ _ _ (by omega) (by omega), tw_n _ _ _ _ (by omega) (by omega), tw_n _ _ _ _ (by omega) (by omega)]
      have := p1.2.2.1 t ht
      unfold adP at this
      by_cases z : q = 0
      · rw [if_pos z] at this
        subst z
        exact this
      · rw [if_neg z] at this
        have e : ld (partY D s q i Y) = ld Y := if_neg z
        rw [e]
        exact this
    · intro t q' k ht hq' hk
      rw [tw_n _ _ _ _ (by omega) (by omega)]
      have := p1.2.2.2 t q' k ht (by
        unfold adP
        by_cases z : q = 0
        · rw [if_pos z]
          exact hq'
        · rw [if_neg z]
          exact hq') hk
      rw [this]
      unfold adP
      by_cases z : q = 0
      · rw [if_pos z]
        rfl
      · rw [if_neg z]
        rfl
  have go := s3_findGoOn (σ := σ) (g := g) N i hN hi0
  rw [hP.1] at go
  unfold f3_placeStory_B8 f3_placeStory_J48
  rcases q with _ | q
  · obtain ⟨σ1, e1, f1, p1⟩ := s3_placeStart hg hP hE hD N s i hN hs h0 hpre.1 (hpre.2.1 rfl) hib
    obtain ⟨σ', e2, f2, p2⟩ := fin σ1 f1 p1
    refine ⟨σ', ?_, f2, p2⟩
    simp (disch := omega) only [q_lit, q_gt, q_bd, q_bxl, q_bxr, q_vib, q_cl, q_pos, q_lt, q_le, q_eq, q_neg, q_neg1, q_negz, q_negeq0, q_neg0le, q_rem, q_div, q_sub, q_if1, q_if0, q_okB0, q_okB1, q_dz, q_dn, q_nb, and_true, true_and, and_false, false_and, nI_add, pk_mul, if_true, if_false, ite_true, ite_false, Nat.add_zero, Nat.zero_add, Nat.reduceAdd, go, e1, e2]
  · obtain ⟨σ1, e1, f1, p1⟩ := s3_placeCont hg hP hE hD N s q i hN hs (by omega) hpre.1 hpre.2.2.1 hib
    obtain ⟨σ', e2, f2, p2⟩ := fin σ1 f1 p1
    refine ⟨σ', ?_, f2, p2⟩
    simp (disch := omega) only [q_lit, q_gt, q_bd, q_bxl, q_bxr, q_vib, q_cl, q_pos, q_lt, q_le, q_eq, q_neg, q_neg1, q_negz, q_negeq0, q_neg0le, q_rem, q_div, q_sub, q_if1, q_if0, q_okB0, q_okB1, q_dz, q_dn, q_nb, and_true, true_and, and_false, false_and, nI_add, pk_mul, if_true, if_false, ite_true, ite_false, Nat.add_zero, Nat.zero_add, Nat.reduceAdd, go, e1, e2]
theorem s3_go (hg : isP g) (hD : DOk D) (N s : Nat) (hN : 500 ≤ N) (hs : s < 12) (h0 : dS D s 0 = 1) (K : Hp → Option (Unit × Hp)) (z : Int32 → Int32 → Hp → Option (Unit × Hp)) : ∀ (n q i M : Nat) (Y : Ly) (σ : Hp), q + n = 4 → n + 1 < M → PgR g σ Y → EdR σ (edOf g) D → (0 < n → Pre D s q i Y) → i < 480 → ∃ σ', it z (f3_placeStory_B8 N g (nI s) K) M (nI i) (nI q) σ = K σ' ∧ (∀ k, k < g + 1 ∨ (g + 2 < k ∧ k < g + 5) ∨ g + 8 < k → σ' k = σ k) ∧ PgR g σ' (goY D s n q i Y) := by
  intro n
  induction n with
  | zero =>
    intro q i M Y σ h1 h2 hP hE hpre hi
    obtain ⟨m, rfl⟩ : ∃ m, M = m + 1 := ⟨M - 1, by omega⟩
    rw [it_s]
    refine ⟨σ, ?_, fun _ _ => rfl, hP⟩
    unfold f3_placeStory_B8
    simp (disch := omega) only [q_lit, q_gt, q_bd, q_bxl, q_bxr, q_vib, q_cl, q_pos, q_lt, q_le, q_eq, q_neg, q_neg1, q_negz, q_negeq0, q_neg0le, q_rem, q_div, q_sub, q_if1, q_if0, q_okB0, q_okB1, q_dz, q_dn, q_nb, and_true, true_and, and_false, false_and, nI_add, pk_mul, if_true, if_false, ite_true, ite_false, Nat.add_zero, Nat.zero_add, Nat.reduceAdd]
  | succ n ih =>
    intro q i M Y σ h1 h2 hP hE hpre hi
    obtain ⟨m, rfl⟩ : ∃ m, M = m + 1 := ⟨M - 1, by omega⟩
    have hp := hpre (by omega)
    obtain ⟨σ1, e1, f1, p1⟩ := s3_part hg hD N s q i hN hs h0 (by omega) hP hE hp K (it z (f3_placeStory_B8 N g (nI s) K) m)
    rw [it_s, e1]
    show ∃ σ', _ ∧ _ ∧ PgR g σ' (om (pNx D s q i Y) (partY D s q i Y) (fun i' => goY D s n (q + 1) i' (partY D s q i Y)))
    cases e : pNx D s q i Y with
    | none =>
      obtain ⟨m', rfl⟩ : ∃ m', m = m' + 1 := ⟨m - 1, by omega⟩
      refine ⟨σ1, ?_, f1, p1⟩
      rw [it_s]
      show f3_placeStory_B8 N g (nI s) K _ (-nI 1) (nI (q + 1)) σ1 = K σ1
      unfold f3_placeStory_B8
      by_cases z4 : 4 ≤ q + 1
      · simp (disch := omega) only [q_lit, q_gt, q_bd, q_bxl, q_bxr, q_vib, q_cl, q_pos, q_lt, q_le, q_eq, q_neg, q_neg1, q_negz, q_negeq0, q_neg0le, q_rem, q_div, q_sub, q_if1, q_if0, q_okB0, q_okB1, q_dz, q_dn, q_nb, and_true, true_and, and_false, false_and, nI_add, pk_mul, if_true, if_false, ite_true, ite_false, Nat.add_zero, Nat.zero_add, Nat.reduceAdd]
      · simp (disch := omega) only [q_lit, q_gt, q_bd, q_bxl, q_bxr, q_vib, q_cl, q_pos, q_lt, q_le, q_eq, q_neg, q_neg1, q_negz, q_negeq0, q_neg0le, q_rem, q_div, q_sub, q_if1, q_if0, q_okB0, q_okB1, q_dz, q_dn, q_nb, and_true, true_and, and_false, false_and, nI_add, pk_mul, if_true, if_false, ite_true, ite_false, Nat.add_zero, Nat.zero_add, Nat.reduceAdd]
    | some i' =>
      have nx := hp.next (hD.2.2.1 s hs) h0 e
      obtain ⟨σ', e2, f2, p2⟩ := ih (q + 1) i' m (partY D s q i Y) σ1 (by omega) (by omega) p1 (ed_fr hg hE (fun k hk => f1 k (by omega))) (fun _ => nx.1) nx.1.2.2.2.1
      exact ⟨σ', e2, fun k hk => (f2 k hk).trans (f1 k hk), p2⟩
theorem s3_placeStory (hg : isP g) (hD : DOk D) (N s : Nat) (hN : 500 ≤ N) (hs : s < 12) (h0 : dS D s 0 = 1) {Y : Ly} {σ : Hp} (hP : PgR g σ Y) (hE : EdR σ (edOf g) D) (hl : ln Y s = 0) (hl2 : ll Y s = 0) : ∃ σ', f3_placeStory N g (nI s) σ = some ((), σ') ∧ (∀ k, k < g + 1 ∨ (g + 2 < k ∧ k < g + 5) ∨ g + 8 < k → σ' k = σ k) ∧ PgR g σ' (placeY D s Y) := by
  have fs := s3_findStart (g := g) N s hN hE hD hs h0
  rw [hP.1] at fs
  unfold f3_placeStory placeY
  simp (disch := omega) only [q_lit, q_gt, q_bd, q_bxl, q_bxr, q_vib, q_cl, q_pos, q_lt, q_le, q_eq, q_neg, q_neg1, q_negz, q_negeq0, q_neg0le, q_rem, q_div, q_sub, q_if1, q_if0, q_okB0, q_okB1, q_dz, q_dn, q_nb, and_true, true_and, and_false, false_and, nI_add, pk_mul, if_true, if_false, ite_true, ite_false, Nat.add_zero, Nat.zero_add, Nat.reduceAdd, fs]
  cases e : findSt (lc Y) D s with
  | none =>
    obtain ⟨m, rfl⟩ : ∃ m, N = m + 1 := ⟨N - 1, by omega⟩
    refine ⟨σ, ?_, fun _ _ => rfl, hP⟩
    unfold f3_placeStory_L8
    rw [it_s]
    show f3_placeStory_B8 (m + 1) g (nI s) _ _ (-nI 1) (nI 0) σ = _
    unfold f3_placeStory_B8
    simp (disch := omega) only [q_lit, q_gt, q_bd, q_bxl, q_bxr, q_vib, q_cl, q_pos, q_lt, q_le, q_eq, q_neg, q_neg1, q_negz, q_negeq0, q_neg0le, q_rem, q_div, q_sub, q_if1, q_if0, q_okB0, q_okB1, q_dz, q_dn, q_nb, and_true, true_and, and_false, false_and, nI_add, pk_mul, if_true, if_false, ite_true, ite_false, Nat.add_zero, Nat.zero_add, Nat.reduceAdd]
  | some i =>
    have ib := findSt_some (hD.2.2.1 s hs) h0 e
    exact s3_go hg hD N s hN hs h0 _ _ 4 0 i N Y σ (by omega) (by omega) hP hE (fun _ => ⟨hl, fun _ => hl2, by omega, ib⟩) ib.1
end L4
