/-! THE PURE PART. The class's layout: a part. -/
def PgR (g : Nat) (σ : Hp) (Y : Ly) : Prop :=
  σ (g + 1) = lc Y ∧ σ (g + 2) = lo Y ∧ (∀ s, s < 12 → σ (g + 5) s = nI (ln Y s) ∧ σ (g + 7) s = nI (ll Y s) ∧ σ (g + 8) s = nI (ld Y s) ∧ ln Y s ≤ 4) ∧ (∀ s q k, s < 12 → q < ln Y s → k < 9 → σ (g + 6) ((s * 4 + q) * 9 + k) = nI (lp Y s q k))
def adY (s q i w rows lines j a : Nat) (Y : Ly) : Ly := (lc Y, lo Y, upN (ln Y) s (q + 1), upN (ll Y) s (ll Y s + lines), ld Y, fun s' q' k => if s' = s ∧ q' = q then pVal i w rows lines (ll Y s) j a k else lp Y s' q' k)
def dpY (s d : Nat) (Y : Ly) : Ly := (lc Y, lo Y, ln Y, ll Y, upN (ld Y) s d, lp Y)
section L2
variable {σ : Hp} {g : Nat} {D : Nat → Nat} {Y : Ly}
theorem s3_add (hg : isP g) (hE : EdR σ (edOf g) D) (hP : PgR g σ Y) (N s q i w rows lines j : Nat) (hs : s < 12) (hq : q ≤ 3) (hl : ln Y s = q) (hi : i < 480) (hj : j ≤ 1) : ∃ σ', f3_addPart N g (nI s) (nI i) (nI w) (nI rows) (nI lines) (nI j) σ = some ((), σ') ∧ (∀ k, k < g + 5 ∨ g + 7 < k → σ' k = σ k) ∧ PgR g σ' (adY s q i w rows lines j (abv D s q) Y) := by
  obtain ⟨p1, p2, p3, p4⟩ := hP
  obtain ⟨σ', e1, e2, e3, e4, e5, e6⟩ := s3_addPart hg hE N s q i w rows lines (ll Y s) j hs hq (by rw [(p3 s hs).1, hl]) (p3 s hs).2.1 hi hj
  refine ⟨σ', e1, fun k hk => e2 k (by omega) (by omega) (by omega), ?_, ?_, ?_, ?_⟩
  · rw [e2 (g + 1) (by omega) (by omega) (by omega), p1]
    rfl
  · rw [e2 (g + 2) (by omega) (by omega) (by omega), p2]
    rfl
  · intro t ht
    obtain ⟨u1, u2, u3, u4⟩ := p3 t ht
    rw [e3, e4, e2 (g + 8) (by omega) (by omega) (by omega)]
    show _ = nI (upN (ln Y) s (q + 1) t) ∧ _ = nI (upN (ll Y) s (ll Y s + lines) t) ∧ σ (g + 8) t = nI (ld Y t) ∧ upN (ln Y) s (q + 1) t ≤ 4
    by_cases z : t = s
    · subst z
      rw [if_pos rfl, if_pos rfl, upN_s, upN_s]
      exact ⟨rfl, rfl, u3, by omega⟩
    · rw [if_neg z, if_neg z, upN_n _ _ _ z, upN_n _ _ _ z]
      exact ⟨u1, u2, u3, u4⟩
  · intro t q' k ht hq' hk
    replace hq' : q' < upN (ln Y) s (q + 1) t := hq'
    show _ = nI (if t = s ∧ q' = q then pVal i w rows lines (ll Y s) j (abv D s q) k else lp Y t q' k)
    by_cases z : t = s
    · subst z
      rw [upN_s] at hq'
      by_cases z2 : q' = q
      · subst z2
        rw [if_pos ⟨rfl, rfl⟩]
        exact e5 k hk
      · rw [if_neg (fun h => z2 h.2), e6 _ (by omega)]
        exact p4 t q' k ht (by omega) hk
    · rw [upN_n _ _ _ z] at hq'
      have := (p3 t ht).2.2.2
      rw [if_neg (fun h => z h.1), e6 _ (by omega)]
      exact p4 t q' k ht hq' hk
theorem s3_dep (hP : PgR g σ Y) (N s d : Nat) (hs : s < 12) : f3_putStartDepth N g (nI s) (nI d) σ = some ((), st σ (g + 8) s (nI d)) ∧ PgR g (st σ (g + 8) s (nI d)) (dpY s d Y) := by
  obtain ⟨p1, p2, p3, p4⟩ := hP
  refine ⟨?_, ?_, ?_, ?_, ?_⟩
  · unfold f3_putStartDepth
    simp (disch := omega) only [q_lit, q_gt, q_bd, q_bxl, q_bxr, q_vib, q_cl, q_pos, q_lt, q_le, q_eq, q_neg, q_neg1, q_negz, q_negeq0, q_neg0le, q_rem, q_div, q_sub, q_if1, q_if0, q_okB0, q_okB1, q_dz, q_dn, q_nb, and_true, true_and, and_false, false_and, nI_add, pk_mul, if_true, if_false, ite_true, ite_false, Nat.add_zero, Nat.zero_add, Nat.reduceAdd, s5_isStoryIndex]
  · simp (disch := omega) only [q_lit, q_gt, q_bd, q_bxl, q_bxr, q_vib, q_cl, q_pos, q_lt, q_le, q_eq, q_neg, q_neg1, q_negz, q_negeq0, q_neg0le, q_rem, q_div, q_sub, q_if1, q_if0, q_okB0, q_okB1, q_dz, q_dn, q_nb, and_true, true_and, and_false, false_and, nI_add, pk_mul, if_true, if_false, ite_true, ite_false, Nat.add_zero, Nat.zero_add, Nat.reduceAdd, st_row]
    exact p1
  · simp (disch := omega) only [q_lit, q_gt, q_bd, q_bxl, q_bxr, q_vib, q_cl, q_pos, q_lt, q_le, q_eq, q_neg, q_neg1, q_negz, q_negeq0, q_neg0le, q_rem, q_div, q_sub, q_if1, q_if0, q_okB0, q_okB1, q_dz, q_dn, q_nb, and_true, true_and, and_false, false_and, nI_add, pk_mul, if_true, if_false, ite_true, ite_false, Nat.add_zero, Nat.zero_add, Nat.reduceAdd, st_row]
    exact p2
  · intro t ht
    obtain ⟨u1, u2, u3, u4⟩ := p3 t ht
    simp (disch := omega) only [q_lit, q_gt, q_bd, q_bxl, q_bxr, q_vib, q_cl, q_pos, q_lt, q_le, q_eq, q_neg, q_neg1, q_negz, q_negeq0, q_neg0le, q_rem, q_div, q_sub, q_if1, q_if0, q_okB0, q_okB1, q_dz, q_dn, q_nb, and_true, true_and, and_false, false_and, nI_add, pk_mul, if_true, if_false, ite_true, ite_false, Nat.add_zero, Nat.zero_add, Nat.reduceAdd, st_row, st_get]
    show _ ∧ _ ∧ _ = nI (upN (ld Y) s d t) ∧ _
    refine ⟨u1, u2, ?_, u4⟩
    by_cases z : t = s
    · subst z
      rw [if_pos rfl, upN_s]
    · rw [if_neg z, upN_n _ _ _ z]
      exact u3
  · intro t q k ht hq hk
    simp (disch := omega) only [q_lit, q_gt, q_bd, q_bxl, q_bxr, q_vib, q_cl, q_pos, q_lt, q_le, q_eq, q_neg, q_neg1, q_negz, q_negeq0, q_neg0le, q_rem, q_div, q_sub, q_if1, q_if0, q_okB0, q_okB1, q_dz, q_dn, q_nb, and_true, true_and, and_false, false_and, nI_add, pk_mul, if_true, if_false, ite_true, ite_false, Nat.add_zero, Nat.zero_add, Nat.reduceAdd, st_row]
    exact p4 t q k ht hq hk
theorem Ib.cell {c : Nat → Int32} {w h i : Nat} (h1 : Ib c w h i) (N g : Nat) (σ : Hp) (hN : 500 ≤ N) (hw : 1 ≤ w) (e : σ (g + 1) = c) : f3_freeRows N g (nI i) (nI w) σ = some (nI (frn c w (24 - i % 120 / 5) i), σ) := by
  rw [s3_freeRows N g (i / 120) (i % 120 / 5) (i % 5) w i σ hN (by have := h1.1; omega) (by have := h1.1; omega) h1.2.2.1 hw (by omega), e]
theorem s3_linesCut (hP : PgR g σ Y) (hE : EdR σ (edOf g) D) (N s : Nat) (hs : s < 12) (h : ll Y s ≤ dS D s 4) : f3_linesCut N g (nI s) σ = some (nI (dS D s 4 - ll Y s), σ) := by
  unfold f3_linesCut f3_linesOnPages
  simp (disch := omega) only [q_lit, q_gt, q_bd, q_bxl, q_bxr, q_vib, q_cl, q_pos, q_lt, q_le, q_eq, q_neg, q_neg1, q_negz, q_negeq0, q_neg0le, q_rem, q_div, q_sub, q_if1, q_if0, q_okB0, q_okB1, q_dz, q_dn, q_nb, and_true, true_and, and_false, false_and, nI_add, pk_mul, if_true, if_false, ite_true, ite_false, Nat.add_zero, Nat.zero_add, Nat.reduceAdd, s1_sn hE, s5_isStoryIndex, (hP.2.2.1 s hs).2.1]
/-- what the class does before the painting of a part -/
def adP (D : Nat → Nat) (s q i : Nat) (Y : Ly) : Ly := adY s q i (pW D s q) (abv D s q + pLr D s q i Y + pJ D s q i Y) (pNl D s q i Y) (pJ D s q i Y) (abv D s q) (if q = 0 then dpY s (pD D s q i Y) Y else Y)
theorem s3_placeStart (hg : isP g) (hP : PgR g σ Y) (hE : EdR σ (edOf g) D) (hD : DOk D) (N s i : Nat) (hN : 500 ≤ N) (hs : s < 12) (h0 : dS D s 0 = 1) (hl : ln Y s = 0) (hl2 : ll Y s = 0) (hi : Ib (lc Y) (dS D s 2) (hd D s + 2) i) : ∃ σ', f3_placeStart N g (nI s) (nI i) (om (goA (lc Y) (i / 120 + 1)) (-nI 1) nI) σ = some (om (pNx D s 0 i Y) (-nI 1) nI, σ') ∧ (∀ k, k < g + 5 ∨ g + 8 < k → σ' k = σ k) ∧ PgR g σ' (adP D s 0 i Y) := by
  obtain ⟨a0, a1, a2, a3, a4, a5, a6, a7, a8, a9⟩ := hD.2.2.1 s hs
  have a10 := a9 h0
  have hh : hd D s ≤ 13 := by unfold hd; omega
  have hfr := frn_le (lc Y) (dS D s 2) (24 - i % 120 / 5) i
  have hfr2 := hi.2.2.2
  have hi0 := hi.1
  have dd : frn (lc Y) (dS D s 2) (24 - i % 120 / 5) i = pD D s 0 i Y + hd D s := by
    show _ = frn (lc Y) (dS D s 2) (24 - i % 120 / 5) i - hd D s + hd D s
    omega
  have dle : pD D s 0 i Y ≤ 24 := by
    show frn (lc Y) (dS D s 2) (24 - i % 120 / 5) i - hd D s ≤ 24
    omega
  have d2 : 2 ≤ pD D s 0 i Y := by
    show 2 ≤ frn (lc Y) (dS D s 2) (24 - i % 120 / 5) i - hd D s
    omega
  have wn : pWant D s Y = dS D s 4 := by unfold pWant; omega
  obtain ⟨dep1, dep2⟩ := s3_dep hP N s (pD D s 0 i Y) hs
  have hw3 : dS D s 2 * pD D s 0 i Y ≤ 3 * 24 := Nat.mul_le_mul a2 dle
  have cut : (σ (g + 1) = lc Y) := hP.1
  have hE2 : EdR (st σ (g + 8) s (nI (pD D s 0 i Y))) (edOf g) D := ed_fr hg hE (fun k hk => st_row _ _ _ _ (by omega))
  unfold f3_placeStart
  simp (disch := omega) only [q_lit, q_gt, q_bd, q_bxl, q_bxr, q_vib, q_cl, q_pos, q_lt, q_le, q_eq, q_neg, q_neg1, q_negz, q_negeq0, q_neg0le, q_rem, q_div, q_sub, q_if1, q_if0, q_okB0, q_okB1, q_dz, q_dn, q_nb, and_true, true_and, and_false, false_and, nI_add, pk_mul, if_true, if_false, ite_true, ite_false, Nat.add_zero, Nat.zero_add, Nat.reduceAdd, s1_sn hE, s1_headRows hE, hi.cell N g σ hN (by omega) hP.1, dd, Nat.add_sub_cancel, dep1]
  by_cases z : dS D s 4 ≤ dS D s 2 * pD D s 0 i Y
  · have nx : pNx D s 0 i Y = none := if_pos (by rw [wn]; exact z)
    have nl : pNl D s 0 i Y = dS D s 4 := (if_pos (by rw [wn]; exact z)).trans wn
    have j0 : pJ D s 0 i Y = 0 := by unfold pJ; rw [nx]; rfl
    have lr : pLr D s 0 i Y = locN (dS D s 4) (dS D s 2) 0 := by unfold pLr locN; rw [nl]; rfl
    obtain ⟨σ', e1, e2, e3⟩ := s3_add hg hE2 dep2 N s 0 i (dS D s 2) (hd D s + locN (dS D s 4) (dS D s 2) 0) (dS D s 4) 0 hs (by omega) hl hi0 (by omega)
    simp (disch := omega) only [q_lit, q_gt, q_bd, q_bxl, q_bxr, q_vib, q_cl, q_pos, q_lt, q_le, q_eq, q_neg, q_neg1, q_negz, q_negeq0, q_neg0le, q_rem, q_div, q_sub, q_if1, q_if0, q_okB0, q_okB1, q_dz, q_dn, q_nb, and_true, true_and, and_false, false_and, nI_add, pk_mul, if_true, if_false, ite_true, ite_false, Nat.add_zero, Nat.zero_add, Nat.reduceAdd, s3_loc N (dS D s 4) (dS D s 2) 0, e1]
    refine ⟨σ', by rw [nx]; rfl, fun k hk => (e2 k (by omega)).trans (st_row _ _ _ _ (by omega)), ?_⟩
    unfold adP
    rw [nl, j0, lr]
    exact e3
  · have nx : pNx D s 0 i Y = goA (lc Y) (i / 120 + 1) := if_neg (by rw [wn]; exact z)
    have nl : pNl D s 0 i Y = om (pNx D s 0 i Y) (dS D s 2 * pD D s 0 i Y) (fun _ => dS D s 2 * (pD D s 0 i Y - 1)) := if_neg (by rw [wn]; exact z)
    simp (disch := omega) only [q_lit, q_gt, q_bd, q_bxl, q_bxr, q_vib, q_cl, q_pos, q_lt, q_le, q_eq, q_neg, q_neg1, q_negz, q_negeq0, q_neg0le, q_rem, q_div, q_sub, q_if1, q_if0, q_okB0, q_okB1, q_dz, q_dn, q_nb, and_true, true_and, and_false, false_and, nI_add, pk_mul, if_true, if_false, ite_true, ite_false, Nat.add_zero, Nat.zero_add, Nat.reduceAdd]
    rw [nx]
    cases e : goA (lc Y) (i / 120 + 1) with
    | none =>
      rw [e] at nx
      have j0 : pJ D s 0 i Y = 0 := by unfold pJ; rw [nx]; rfl
      rw [nx] at nl
      replace nl : pNl D s 0 i Y = dS D s 2 * pD D s 0 i Y := nl
      have lr : pLr D s 0 i Y = pD D s 0 i Y := by
        unfold pLr
        rw [nl]
        show (dS D s 2 * pD D s 0 i Y + dS D s 2 - 1) / dS D s 2 = _
        obtain h | h | h : dS D s 2 = 1 ∨ dS D s 2 = 2 ∨ dS D s 2 = 3 := by omega
        all_goals (rw [h]; omega)
      obtain ⟨σ', e1, e2, e3⟩ := s3_add hg hE2 dep2 N s 0 i (dS D s 2) (hd D s + pD D s 0 i Y) (dS D s 2 * pD D s 0 i Y) 0 hs (by omega) hl hi0 (by omega)
      rw [show om (none : Option Nat) (-nI 1) nI = -nI 1 from rfl]
      unfold f3_placeStart_J95 f3_placeStart_J111
      simp (disch := omega) only [q_lit, q_gt, q_bd, q_bxl, q_bxr, q_vib, q_cl, q_pos, q_lt, q_le, q_eq, q_neg, q_neg1, q_negz, q_negeq0, q_neg0le, q_rem, q_div, q_sub, q_if1, q_if0, q_okB0, q_okB1, q_dz, q_dn, q_nb, and_true, true_and, and_false, false_and, nI_add, pk_mul, if_true, if_false, ite_true, ite_false, Nat.add_zero, Nat.zero_add, Nat.reduceAdd, eq_self, e1]
      refine ⟨σ', rfl, fun k hk => (e2 k (by omega)).trans (st_row _ _ _ _ (by omega)), ?_⟩
      unfold adP
      rw [nl, j0, lr]
      exact e3
    | some i' =>
      rw [e] at nx
      have i5 := (goA_some e).2.1
      have j0 : pJ D s 0 i Y = 1 := by unfold pJ; rw [nx]; rfl
      rw [nx] at nl
      replace nl : pNl D s 0 i Y = dS D s 2 * (pD D s 0 i Y - 1) := nl
      have lr : pLr D s 0 i Y = pD D s 0 i Y - 1 := by
        unfold pLr
        rw [nl]
        show (dS D s 2 * (pD D s 0 i Y - 1) + dS D s 2 - 1) / dS D s 2 = _
        obtain h | h | h : dS D s 2 = 1 ∨ dS D s 2 = 2 ∨ dS D s 2 = 3 := by omega
        all_goals (rw [h]; omega)
      obtain ⟨σ', e1, e2, e3⟩ := s3_add hg hE2 dep2 N s 0 i (dS D s 2) (hd D s + pD D s 0 i Y) (dS D s 2 * (pD D s 0 i Y - 1)) 1 hs (by omega) hl hi0 (by omega)
      rw [show om (some i') (-nI 1) nI = nI i' from rfl]
      unfold f3_placeStart_J95 f3_placeStart_J111
      simp (disch := omega) only [q_lit, q_gt, q_bd, q_bxl, q_bxr, q_vib, q_cl, q_pos, q_lt, q_le, q_eq, q_neg, q_neg1, q_negz, q_negeq0, q_neg0le, q_rem, q_div, q_sub, q_if1, q_if0, q_okB0, q_okB1, q_dz, q_dn, q_nb, and_true, true_and, and_false, false_and, nI_add, pk_mul, if_true, if_false, ite_true, ite_false, Nat.add_zero, Nat.zero_add, Nat.reduceAdd, eq_self, e1]
      refine ⟨σ', rfl, fun k hk => (e2 k (by omega)).trans (st_row _ _ _ _ (by omega)), ?_⟩
      unfold adP
      rw [nl, j0, lr, show abv D s 0 + (pD D s 0 i Y - 1) + 1 = hd D s + pD D s 0 i Y by show hd D s + _ + 1 = _; omega]
      exact e3
theorem s3_placeCont (hg : isP g) (hP : PgR g σ Y) (hE : EdR σ (edOf g) D) (hD : DOk D) (N s q i : Nat) (hN : 500 ≤ N) (hs : s < 12) (hq : q ≤ 2) (hl : ln Y s = q + 1) (hl2 : ll Y s ≤ dS D s 4) (hi : Ib (lc Y) 1 3 i) : ∃ σ', f3_placeContinuation N g (nI s) (nI i) (om (goA (lc Y) (i / 120 + 1)) (-nI 1) nI) σ = some (om (pNx D s (q + 1) i Y) (-nI 1) nI, σ') ∧ (∀ k, k < g + 5 ∨ g + 8 < k → σ' k = σ k) ∧ PgR g σ' (adP D s (q + 1) i Y) := by
  obtain ⟨a0, a1, a2, a3, a4, a5, a6, a7, a8, a9⟩ := hD.2.2.1 s hs
  have hfr := frn_le (lc Y) 1 (24 - i % 120 / 5) i
  have hfr2 := hi.2.2.2
  have hi0 := hi.1
  have dd : frn (lc Y) 1 (24 - i % 120 / 5) i = pD D s (q + 1) i Y + 1 := by
    show _ = frn (lc Y) 1 (24 - i % 120 / 5) i - 1 + 1
    omega
  have dle : pD D s (q + 1) i Y ≤ 24 := by
    show frn (lc Y) 1 (24 - i % 120 / 5) i - 1 ≤ 24
    omega
  have d2 : 2 ≤ pD D s (q + 1) i Y := by
    show 2 ≤ frn (lc Y) 1 (24 - i % 120 / 5) i - 1
    omega
  have w1 : pW D s (q + 1) * pD D s (q + 1) i Y = pD D s (q + 1) i Y := Nat.one_mul _
  have lrn : pLr D s (q + 1) i Y = pNl D s (q + 1) i Y := by
    show (pNl D s (q + 1) i Y + 1 - 1) / 1 = _
    omega
  unfold f3_placeContinuation
  simp (disch := omega) only [q_lit, q_gt, q_bd, q_bxl, q_bxr, q_vib, q_cl, q_pos, q_lt, q_le, q_eq, q_neg, q_neg1, q_negz, q_negeq0, q_neg0le, q_rem, q_div, q_sub, q_if1, q_if0, q_okB0, q_okB1, q_dz, q_dn, q_nb, and_true, true_and, and_false, false_and, nI_add, pk_mul, if_true, if_false, ite_true, ite_false, Nat.add_zero, Nat.zero_add, Nat.reduceAdd, hi.cell N g σ hN (by omega) hP.1, dd, Nat.add_sub_cancel, s3_linesCut hP hE]
  by_cases z : dS D s 4 - ll Y s ≤ pD D s (q + 1) i Y
  · have nx : pNx D s (q + 1) i Y = none := if_pos (by rw [w1]; exact z)
    have nl : pNl D s (q + 1) i Y = dS D s 4 - ll Y s := if_pos (by rw [w1]; exact z)
    have j0 : pJ D s (q + 1) i Y = 0 := by unfold pJ; rw [nx]; rfl
    obtain ⟨σ', e1, e2, e3⟩ := s3_add hg hE hP N s (q + 1) i 1 (1 + (dS D s 4 - ll Y s)) (dS D s 4 - ll Y s) 0 hs (by omega) hl hi0 (by omega)
    simp (disch := omega) only [q_lit, q_gt, q_bd, q_bxl, q_bxr, q_vib, q_cl, q_pos, q_lt, q_le, q_eq, q_neg, q_neg1, q_negz, q_negeq0, q_neg0le, q_rem, q_div, q_sub, q_if1, q_if0, q_okB0, q_okB1, q_dz, q_dn, q_nb, and_true, true_and, and_false, false_and, nI_add, pk_mul, if_true, if_false, ite_true, ite_false, Nat.add_zero, Nat.zero_add, Nat.reduceAdd, e1]
    refine ⟨σ', by rw [nx]; rfl, fun k hk => e2 k (by omega), ?_⟩
    unfold adP
    rw [lrn, nl, j0]
    exact e3
  · have nx : pNx D s (q + 1) i Y = goA (lc Y) (i / 120 + 1) := if_neg (by rw [w1]; exact z)
    have nl : pNl D s (q + 1) i Y = om (pNx D s (q + 1) i Y) (pW D s (q + 1) * pD D s (q + 1) i Y) (fun _ => pW D s (q + 1) * (pD D s (q + 1) i Y - 1)) := if_neg (by rw [w1]; exact z)
    simp (disch := omega) only [q_lit, q_gt, q_bd, q_bxl, q_bxr, q_vib, q_cl, q_pos, q_lt, q_le, q_eq, q_neg, q_neg1, q_negz, q_negeq0, q_neg0le, q_rem, q_div, q_sub, q_if1, q_if0, q_okB0, q_okB1, q_dz, q_dn, q_nb, and_true, true_and, and_false, false_and, nI_add, pk_mul, if_true, if_false, ite_true, ite_false, Nat.add_zero, Nat.zero_add, Nat.reduceAdd]
    rw [nx]
    cases e : goA (lc Y) (i / 120 + 1) with
    | none =>
      rw [e] at nx
      have j0 : pJ D s (q + 1) i Y = 0 := by unfold pJ; rw [nx]; rfl
      rw [nx] at nl
      replace nl : pNl D s (q + 1) i Y = pD D s (q + 1) i Y := nl.trans w1
      obtain ⟨σ', e1, e2, e3⟩ := s3_add hg hE hP N s (q + 1) i 1 (pD D s (q + 1) i Y + 1) (pD D s (q + 1) i Y) 0 hs (by omega) hl hi0 (by omega)
      rw [show om (none : Option Nat) (-nI 1) nI = -nI 1 from rfl]
      unfold f3_placeContinuation_J50 f3_placeContinuation_J74
      simp (disch := omega) only [q_lit, q_gt, q_bd, q_bxl, q_bxr, q_vib, q_cl, q_pos, q_lt, q_le, q_eq, q_neg, q_neg1, q_negz, q_negeq0, q_neg0le, q_rem, q_div, q_sub, q_if1, q_if0, q_okB0, q_okB1, q_dz, q_dn, q_nb, and_true, true_and, and_false, false_and, nI_add, pk_mul, if_true, if_false, ite_true, ite_false, Nat.add_zero, Nat.zero_add, Nat.reduceAdd, eq_self, Nat.add_sub_cancel, e1]
      refine ⟨σ', rfl, fun k hk => e2 k (by omega), ?_⟩
      unfold adP
      rw [lrn, nl, j0, show abv D s (q + 1) + pD D s (q + 1) i Y + 0 = pD D s (q + 1) i Y + 1 by show 1 + _ + 0 = _; omega]
      exact e3
    | some i' =>
      rw [e] at nx
      have i5 := (goA_some e).2.1
      have j0 : pJ D s (q + 1) i Y = 1 := by unfold pJ; rw [nx]; rfl
      rw [nx] at nl
      replace nl : pNl D s (q + 1) i Y = pD D s (q + 1) i Y + 1 - 2 := by
        rw [nl]
        show 1 * (pD D s (q + 1) i Y - 1) = _
        omega
      obtain ⟨σ', e1, e2, e3⟩ := s3_add hg hE hP N s (q + 1) i 1 (pD D s (q + 1) i Y + 1) (pD D s (q + 1) i Y + 1 - 2) 1 hs (by omega) hl hi0 (by omega)
      rw [show om (some i') (-nI 1) nI = nI i' from rfl]
      unfold f3_placeContinuation_J50 f3_placeContinuation_J74
      simp (disch := omega) only [q_lit, q_gt, q_bd, q_bxl, q_bxr, q_vib, q_cl, q_pos, q_lt, q_le, q_eq, q_neg, q_neg1, q_negz, q_negeq0, q_neg0le, q_rem, q_div, q_sub, q_if1, q_if0, q_okB0, q_okB1, q_dz, q_dn, q_nb, and_true, true_and, and_false, false_and, nI_add, pk_mul, if_true, if_false, ite_true, ite_false, Nat.add_zero, Nat.zero_add, Nat.reduceAdd, eq_self, e1]
      refine ⟨σ', rfl, fun k hk => e2 k (by omega), ?_⟩
      unfold adP
      rw [lrn, nl, j0, show abv D s (q + 1) + (pD D s (q + 1) i Y + 1 - 2) + 1 = pD D s (q + 1) i Y + 1 by show 1 + _ + 1 = _; omega]
      exact e3
end L2
