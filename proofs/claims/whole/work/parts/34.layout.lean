/-! THE PURE PART. The whole layout, on both sides. -/
def adR (v : Nat → Int32) (D : Nat → Nat) : Nat → (Nat → Int32) → (Nat → Int32)
  | 0, f => f
  | a + 1, f => if dA D a 0 = 1 then fl (v a) (120 * dA D a 1 + 5 * dA D a 3 + dA D a 2) (dA D a 4) (dA D a 5) (adR v D a f) else adR v D a f
theorem adR_s (v : Nat → Int32) (D : Nat → Nat) (a : Nat) (f : Nat → Int32) : adR v D (a + 1) f = if dA D a 0 = 1 then fl (v a) (120 * dA D a 1 + 5 * dA D a 3 + dA D a 2) (dA D a 4) (dA D a 5) (adR v D a f) else adR v D a f := rfl
theorem adR_pt (v : Nat → Int32) (D : Nat → Nat) {f f' : Nat → Int32} {t : Nat} (h : f t = f' t) : ∀ n, adR v D n f t = adR v D n f' t
  | 0 => h
  | n + 1 => by
    rw [adR_s, adR_s]
    by_cases z : dA D n 0 = 1
    · rw [if_pos z, if_pos z]
      exact fl_pt _ _ _ (adR_pt v D h n) _
    · rw [if_neg z, if_neg z]
      exact adR_pt v D h n
def adsY (D : Nat → Nat) (Y : Ly) : Ly := (adR (fun _ => nI 1) D 8 (lc Y), adR (fun a => nI (100 + a)) D 8 (lo Y), ln Y, ll Y, ld Y, lp Y)
def layN (D : Nat → Nat) (w : Nat) (Y0 : Ly) : Nat → Ly
  | 0 => adsY D Y0
  | n + 1 => if ordN D n = w then layN D w Y0 n else placeY D (ordN D n) (layN D w Y0 n)
def Ly0 (Y : Ly) : Prop := (∀ i, i < 480 → lc Y i = nI 0) ∧ (∀ i, i < 480 → lo Y i = -nI 1) ∧ (∀ s, ln Y s = 0) ∧ (∀ s, ll Y s = 0) ∧ (∀ s, ld Y s = 0)
/-! what the placing of a story leaves alone -/
def SameS (t : Nat) (Y Y' : Ly) : Prop := ln Y' t = ln Y t ∧ ll Y' t = ll Y t ∧ ld Y' t = ld Y t ∧ ∀ q k, lp Y' t q k = lp Y t q k
theorem SameS.trans {t : Nat} {Y Y' Y'' : Ly} (h : SameS t Y Y') (h2 : SameS t Y' Y'') : SameS t Y Y'' :=
  ⟨h2.1.trans h.1, h2.2.1.trans h.2.1, h2.2.2.1.trans h.2.2.1, fun q k => (h2.2.2.2 q k).trans (h.2.2.2 q k)⟩
theorem partY_other {D : Nat → Nat} {s q i t : Nat} {Y : Ly} (h : t ≠ s) : SameS t Y (partY D s q i Y) := by
  refine ⟨upN_n _ _ _ h, upN_n _ _ _ h, ?_, fun q' k => if_neg (fun e => h e.1)⟩
  show (if q = 0 then upN (ld Y) s (pD D s q i Y) else ld Y) t = _
  by_cases z : q = 0
  · rw [if_pos z, upN_n _ _ _ h]
  · rw [if_neg z]
theorem goY_other {D : Nat → Nat} {s t : Nat} (h : t ≠ s) : ∀ (n q i : Nat) (Y : Ly), SameS t Y (goY D s n q i Y)
  | 0, _, _, _ => ⟨rfl, rfl, rfl, fun _ _ => rfl⟩
  | n + 1, q, i, Y => by
    show SameS t Y (om (pNx D s q i Y) (partY D s q i Y) (fun i' => goY D s n (q + 1) i' (partY D s q i Y)))
    cases pNx D s q i Y with
    | none => exact partY_other h
    | some i' => exact (partY_other h).trans (goY_other h n (q + 1) i' _)
theorem placeY_other {D : Nat → Nat} {s t : Nat} {Y : Ly} (h : t ≠ s) : SameS t Y (placeY D s Y) := by
  unfold placeY
  cases findSt (lc Y) D s with
  | none => exact ⟨rfl, rfl, rfl, fun _ _ => rfl⟩
  | some i => exact goY_other h _ _ _ _
theorem layN_fresh {D : Nat → Nat} {w : Nat} {Y0 : Ly} (h0 : Ly0 Y0) : ∀ (n t : Nat), (∀ j, j < n → ordN D j = w ∨ ordN D j ≠ t) → ln (layN D w Y0 n) t = 0 ∧ ll (layN D w Y0 n) t = 0 ∧ ld (layN D w Y0 n) t = 0
  | 0, t, _ => ⟨h0.2.2.1 t, h0.2.2.2.1 t, h0.2.2.2.2 t⟩
  | n + 1, t, h => by
    have ih := layN_fresh h0 n t (fun j hj => h j (by omega))
    unfold layN
    by_cases z : ordN D n = w
    · rw [if_pos z]
      exact ih
    · rw [if_neg z]
      have := placeY_other (D := D) (s := ordN D n) (t := t) (Y := layN D w Y0 n) (fun e => ((h n (by omega)).resolve_left z) e.symm)
      rw [this.1, this.2.1, this.2.2.1]
      exact ih
theorem ordN_ne {D : Nat → Nat} {i j : Nat} (h : i < j) (hj : j < nS D) : ordN D i ≠ ordN D j := fun e => by
  have := (ordN_I D).2.1 i j h hj
  rw [e] at this
  omega
section Z1
variable {σ : Hp} {D : Nat → Nat} {g : Nat}
theorem s1_storyCount (b : Nat) (hE : EdR σ b D) (hD : DOk D) (N : Nat) (hN : 500 ≤ N) : f1_storyCount N b σ = some (nI (nS D), σ) := by
  have main := lpc (fun _ _ _ => none) (f1_storyCount_B4 N b (fun x2_4 σL4 => some (x2_4, σL4))) (fun t j => t (nI (cntB (fun o => decide (dS D o 0 = 1)) j)) (nI j) σ) (some (nI (nS D), σ)) 12 (by
    intro r
    show f1_storyCount_B4 _ _ _ _ _ _ _ = _
    unfold f1_storyCount_B4
    simp (disch := omega) only [q_lit, q_gt, q_bd, q_bxl, q_bxr, q_vib, q_cl, q_pos, q_lt, q_le, q_eq, q_neg, q_neg1, q_negz, q_negeq0, q_neg0le, q_rem, q_div, q_sub, q_if1, q_if0, q_okB0, q_okB1, q_dz, q_dn, q_nb, and_true, true_and, and_false, false_and, nI_add, pk_mul, if_true, if_false, ite_true, ite_false, Nat.add_zero, Nat.zero_add, Nat.reduceAdd]
    rfl) (by
    intro r j hj
    have hc := cntB_le (fun o => decide (dS D o 0 = 1)) j
    show f1_storyCount_B4 _ _ _ _ _ _ _ = r (nI (cntB (fun o => decide (dS D o 0 = 1)) j + if decide (dS D j 0 = 1) then 1 else 0)) (nI (j + 1)) σ
    unfold f1_storyCount_B4 f1_storyCount_J22
    simp (disch := omega) only [q_lit, q_gt, q_bd, q_bxl, q_bxr, q_vib, q_cl, q_pos, q_lt, q_le, q_eq, q_neg, q_neg1, q_negz, q_negeq0, q_neg0le, q_rem, q_div, q_sub, q_if1, q_if0, q_okB0, q_okB1, q_dz, q_dn, q_nb, and_true, true_and, and_false, false_and, nI_add, pk_mul, if_true, if_false, ite_true, ite_false, Nat.add_zero, Nat.zero_add, Nat.reduceAdd, hE.2.2.1 j hj]
    rcases bit_cases (hD.2.2.1 j hj).1 with e | e
    · rw [e]
      simp (disch := omega) only [q_lit, q_gt, q_bd, q_bxl, q_bxr, q_vib, q_cl, q_pos, q_lt, q_le, q_eq, q_neg, q_neg1, q_negz, q_negeq0, q_neg0le, q_rem, q_div, q_sub, q_if1, q_if0, q_okB0, q_okB1, q_dz, q_dn, q_nb, and_true, true_and, and_false, false_and, nI_add, pk_mul, if_true, if_false, ite_true, ite_false, Nat.add_zero, Nat.zero_add, Nat.reduceAdd]
      rfl
    · rw [e]
      simp (disch := omega) only [q_lit, q_gt, q_bd, q_bxl, q_bxr, q_vib, q_cl, q_pos, q_lt, q_le, q_eq, q_neg, q_neg1, q_negz, q_negeq0, q_neg0le, q_rem, q_div, q_sub, q_if1, q_if0, q_okB0, q_okB1, q_dz, q_dn, q_nb, and_true, true_and, and_false, false_and, nI_add, pk_mul, if_true, if_false, ite_true, ite_false, Nat.add_zero, Nat.zero_add, Nat.reduceAdd]
      rfl) (i := 0) (n := N) (by omega) (by omega)
  exact main
theorem s3_clear (N : Nat) (hN : 500 ≤ N) : ∃ σ', f3_clear N g σ = some ((), σ') ∧ (∀ k, k < g + 1 ∨ (g + 2 < k ∧ k < g + 5) ∨ k = g + 6 ∨ g + 8 < k → σ' k = σ k) ∧ (∀ i, i < 480 → σ' (g + 1) i = nI 0) ∧ (∀ i, i < 480 → σ' (g + 2) i = -nI 1) ∧ (∀ s, s < 12 → σ' (g + 5) s = nI 0 ∧ σ' (g + 7) s = nI 0 ∧ σ' (g + 8) s = nI 0) := by
  obtain ⟨σ1, ⟨a1, a2, a3⟩, a4⟩ := lpx (fun _ _ => none) (f3_clear_B2 N g (fun σL2 => f3_clear_L31 N g (fun σL31 => some ((), σL31)) N (nI 0) σL2)) (fun t j σ => t (nI j) σ) (fun σL2 => f3_clear_L31 N g (fun σL31 => some ((), σL31)) N (nI 0) σL2) 480 (fun m τ => (∀ k, k ≠ g + 1 → k ≠ g + 2 → τ k = σ k) ∧ (∀ i, i < m → τ (g + 1) i = nI 0) ∧ (∀ i, i < m → τ (g + 2) i = -nI 1)) (by
    intro r τ hI
    show f3_clear_B2 _ _ _ _ _ _ = _
    unfold f3_clear_B2
    simp (disch := omega) only [q_lit, q_gt, q_bd, q_bxl, q_bxr, q_vib, q_cl, q_pos, q_lt, q_le, q_eq, q_neg, q_neg1, q_negz, q_negeq0, q_neg0le, q_rem, q_div, q_sub, q_if1, q_if0, q_okB0, q_okB1, q_dz, q_dn, q_nb, and_true, true_and, and_false, false_and, nI_add, pk_mul, if_true, if_false, ite_true, ite_false, Nat.add_zero, Nat.zero_add, Nat.reduceAdd]) (by
    intro r j τ hj hI
    obtain ⟨i1, i2, i3⟩ := hI
    refine ⟨st (st τ (g + 1) j (nI 0)) (g + 2) j (-nI 1), ⟨?_, ?_, ?_⟩, ?_⟩
    · intro k k1 k2
      rw [st_row _ _ _ _ k2, st_row _ _ _ _ k1]
      exact i1 k k1 k2
    · intro i hi
      rw [st_row _ _ _ _ (by omega), st_get]
      by_cases z : i = j
      · rw [if_pos ⟨rfl, z⟩]
      · rw [if_neg (fun h => z h.2)]
        exact i2 i (by omega)
    · intro i hi
      rw [st_get]
      by_cases z : i = j
      · rw [if_pos ⟨rfl, z⟩]
      · rw [if_neg (fun h => z h.2), st_row _ _ _ _ (by omega)]
        exact i3 i (by omega)
    · show f3_clear_B2 _ _ _ _ _ _ = _
      unfold f3_clear_B2
      simp (disch := omega) only [q_lit, q_gt, q_bd, q_bxl, q_bxr, q_vib, q_cl, q_pos, q_lt, q_le, q_eq, q_neg, q_neg1, q_negz, q_negeq0, q_neg0le, q_rem, q_div, q_sub, q_if1, q_if0, q_okB0, q_okB1, q_dz, q_dn, q_nb, and_true, true_and, and_false, false_and, nI_add, pk_mul, if_true, if_false, ite_true, ite_false, Nat.add_zero, Nat.zero_add, Nat.reduceAdd]) 480 0 N σ (by omega) (by omega) ⟨fun _ _ _ => rfl, fun i h => absurd h (Nat.not_lt_zero i), fun i h => absurd h (Nat.not_lt_zero i)⟩
  obtain ⟨σ2, ⟨b1, b2⟩, b3⟩ := lpx (fun _ _ => none) (f3_clear_B31 N g (fun σL31 => some ((), σL31))) (fun t j σ => t (nI j) σ) (fun σL31 => some ((), σL31)) 12 (fun m τ => (∀ k, k ≠ g + 5 → k ≠ g + 7 → k ≠ g + 8 → τ k = σ1 k) ∧ (∀ s, s < m → τ (g + 5) s = nI 0 ∧ τ (g + 7) s = nI 0 ∧ τ (g + 8) s = nI 0)) (by
    intro r τ hI
    show f3_clear_B31 _ _ _ _ _ _ = _
    unfold f3_clear_B31
    simp (disch := omega) only [q_lit, q_gt, q_bd, q_bxl, q_bxr, q_vib, q_cl, q_pos, q_lt, q_le, q_eq, q_neg, q_neg1, q_negz, q_negeq0, q_neg0le, q_rem, q_div, q_sub, q_if1, q_if0, q_okB0, q_okB1, q_dz, q_dn, q_nb, and_true, true_and, and_false, false_and, nI_add, pk_mul, if_true, if_false, ite_true, ite_false, Nat.add_zero, Nat.zero_add, Nat.reduceAdd]) (by
    intro r j τ hj hI
    obtain ⟨i1, i2⟩ := hI
    refine ⟨st (st (st τ (g + 5) j (nI 0)) (g + 7) j (nI 0)) (g + 8) j (nI 0), ⟨?_, ?_⟩, ?_⟩
    · intro k k1 k2 k3
      rw [st_row _ _ _ _ k3, st_row _ _ _ _ k2, st_row _ _ _ _ k1]
      exact i1 k k1 k2 k3
    · intro s hs
      by_cases z : s = j
      · subst z
        simp (disch := omega) only [q_lit, q_gt, q_bd, q_bxl, q_bxr, q_vib, q_cl, q_pos, q_lt, q_le, q_eq, q_neg, q_neg1, q_negz, q_negeq0, q_neg0le, q_rem, q_div, q_sub, q_if1, q_if0, q_okB0, q_okB1, q_dz, q_dn, q_nb, and_true, true_and, and_false, false_and, nI_add, pk_mul, if_true, if_false, ite_true, ite_false, Nat.add_zero, Nat.zero_add, Nat.reduceAdd, st_get]
      · have := i2 s (by omega)
        simp (disch := omega) only [q_lit, q_gt, q_bd, q_bxl, q_bxr, q_vib, q_cl, q_pos, q_lt, q_le, q_eq, q_neg, q_neg1, q_negz, q_negeq0, q_neg0le, q_rem, q_div, q_sub, q_if1, q_if0, q_okB0, q_okB1, q_dz, q_dn, q_nb, and_true, true_and, and_false, false_and, nI_add, pk_mul, if_true, if_false, ite_true, ite_false, Nat.add_zero, Nat.zero_add, Nat.reduceAdd, st_get]
        exact this
    · show f3_clear_B31 _ _ _ _ _ _ = _
      unfold f3_clear_B31
      simp (disch := omega) only [q_lit, q_gt, q_bd, q_bxl, q_bxr, q_vib, q_cl, q_pos, q_lt, q_le, q_eq, q_neg, q_neg1, q_negz, q_negeq0, q_neg0le, q_rem, q_div, q_sub, q_if1, q_if0, q_okB0, q_okB1, q_dz, q_dn, q_nb, and_true, true_and, and_false, false_and, nI_add, pk_mul, if_true, if_false, ite_true, ite_false, Nat.add_zero, Nat.zero_add, Nat.reduceAdd]) 12 0 N σ1 (by omega) (by omega) ⟨fun _ _ _ _ => rfl, fun s h => absurd h (Nat.not_lt_zero s)⟩
  refine ⟨σ2, a4.trans b3, ?_, ?_, ?_, b2⟩
  · intro k hk
    rw [b1 k (by omega) (by omega) (by omega)]
    exact a1 k (by omega) (by omega)
  · intro i hi
    rw [b1 _ (by omega) (by omega) (by omega)]
    exact a2 i hi
  · intro i hi
    rw [b1 _ (by omega) (by omega) (by omega)]
    exact a3 i hi
theorem s3_paintAds (hg : isP g) (hE : EdR σ (edOf g) D) (hD : DOk D) (N : Nat) (hN : 500 ≤ N) : f3_paintAdvertisements N g σ = some ((), tw g (adR (fun _ => nI 1) D 8 (σ (g + 1))) (adR (fun a => nI (100 + a)) D 8 (σ (g + 2))) σ) := by
  have main := lpc (fun _ _ => none) (f3_paintAdvertisements_B2 N g (fun σL2 => some ((), σL2))) (fun t j => t (nI j) (tw g (adR (fun _ => nI 1) D j (σ (g + 1))) (adR (fun a => nI (100 + a)) D j (σ (g + 2))) σ)) (some ((), tw g (adR (fun _ => nI 1) D 8 (σ (g + 1))) (adR (fun a => nI (100 + a)) D 8 (σ (g + 2))) σ)) 8 (by
    intro r
    show f3_paintAdvertisements_B2 _ _ _ _ _ _ = _
    unfold f3_paintAdvertisements_B2
    simp (disch := omega) only [q_lit, q_gt, q_bd, q_bxl, q_bxr, q_vib, q_cl, q_pos, q_lt, q_le, q_eq, q_neg, q_neg1, q_negz, q_negeq0, q_neg0le, q_rem, q_div, q_sub, q_if1, q_if0, q_okB0, q_okB1, q_dz, q_dn, q_nb, and_true, true_and, and_false, false_and, nI_add, pk_mul, if_true, if_false, ite_true, ite_false, Nat.add_zero, Nat.zero_add, Nat.reduceAdd]) (by
    intro r j hj
    show f3_paintAdvertisements_B2 _ _ _ _ _ _ = _
    obtain ⟨a0, a1, a2, a3, a4, a5, a6⟩ := hD.2.2.2 j hj
    have hE2 : EdR (tw g (adR (fun _ => nI 1) D j (σ (g + 1))) (adR (fun a => nI (100 + a)) D j (σ (g + 2))) σ) (edOf g) D := ed_fr hg hE (fun k hk => tw_n _ _ _ _ (by omega) (by omega))
    rw [adR_s, adR_s]
    unfold f3_paintAdvertisements_B2 f3_paintAdvertisements_J78 f5_cellIndex
    simp (disch := omega) only [q_lit, q_gt, q_bd, q_bxl, q_bxr, q_vib, q_cl, q_pos, q_lt, q_le, q_eq, q_neg, q_neg1, q_negz, q_negeq0, q_neg0le, q_rem, q_div, q_sub, q_if1, q_if0, q_okB0, q_okB1, q_dz, q_dn, q_nb, and_true, true_and, and_false, false_and, nI_add, pk_mul, if_true, if_false, ite_true, ite_false, Nat.add_zero, Nat.zero_add, Nat.reduceAdd, s1_hasAd hE2 hD, s1_an hE2]
    rcases bit_cases a0 with e | e
    · rw [e]
      simp (disch := omega) only [q_lit, q_gt, q_bd, q_bxl, q_bxr, q_vib, q_cl, q_pos, q_lt, q_le, q_eq, q_neg, q_neg1, q_negz, q_negeq0, q_neg0le, q_rem, q_div, q_sub, q_if1, q_if0, q_okB0, q_okB1, q_dz, q_dn, q_nb, and_true, true_and, and_false, false_and, nI_add, pk_mul, if_true, if_false, ite_true, ite_false, Nat.add_zero, Nat.zero_add, Nat.reduceAdd]
    · rw [e]
      rw [show dA D j 1 * 120 + dA D j 3 * 5 + dA D j 2 = 120 * dA D j 1 + 5 * dA D j 3 + dA D j 2 by omega]
      simp (disch := omega) only [q_lit, q_gt, q_bd, q_bxl, q_bxr, q_vib, q_cl, q_pos, q_lt, q_le, q_eq, q_neg, q_neg1, q_negz, q_negeq0, q_neg0le, q_rem, q_div, q_sub, q_if1, q_if0, q_okB0, q_okB1, q_dz, q_dn, q_nb, and_true, true_and, and_false, false_and, nI_add, pk_mul, if_true, if_false, ite_true, ite_false, Nat.add_zero, Nat.zero_add, Nat.reduceAdd, s3_paint, pnt_tw]) (i := 0) (n := N) (by omega) (by omega)
  replace main : f3_paintAdvertisements N g (tw g (σ (g + 1)) (σ (g + 2)) σ) = _ := main
  rw [tw_self] at main
  exact main
theorem s3_layOut (hg : isP g) (hE : EdR σ (edOf g) D) (hD : DOk D) (N : Nat) (hN : 500 ≤ N) : ∃ σ' Y0, f3_layOut N g σ = some ((), σ') ∧ (∀ k, k ≤ g ∨ g + 8 < k → σ' k = σ k) ∧ Ly0 Y0 ∧ PgR g σ' (layN D 99 Y0 (nS D)) ∧ (∀ s, s < 12 → dS D s 0 = 1 → σ' (g + 4) s = nI (cnt D s)) ∧ (∀ k, k < nS D → σ' (g + 3) k = nI (ordN D k)) := by
  obtain ⟨σ1, c1, c2, c3, c4, c5⟩ := s3_clear (σ := σ) (g := g) N hN
  have hE1 : EdR σ1 (edOf g) D := ed_fr hg hE (fun k hk => c2 k (by omega))
  have p1 := s3_paintAds hg hE1 hD N hN
  have hE2 : EdR (tw g (adR (fun _ => nI 1) D 8 (σ1 (g + 1))) (adR (fun a => nI (100 + a)) D 8 (σ1 (g + 2))) σ1) (edOf g) D := ed_fr hg hE1 (fun k hk => tw_n _ _ _ _ (by omega) (by omega))
  obtain ⟨σ3, r1, r2, r3, r4⟩ := s3_rankStories hg hE2 hD N hN
  have hE3 : EdR σ3 (edOf g) D := ed_fr hg hE2 (fun k hk => r2 k (by omega) (by omega))
  have h0 : Ly0 ((σ1 (g + 1), σ1 (g + 2), fun _ => 0, fun _ => 0, fun _ => 0, fun _ _ _ => 0) : Ly) := ⟨c3, c4, fun _ => rfl, fun _ => rfl, fun _ => rfl⟩
  revert h0
  generalize hY : ((σ1 (g + 1), σ1 (g + 2), fun _ => 0, fun _ => 0, fun _ => 0, fun _ _ _ => 0) : Ly) = Y0
  intro h0
  have P0 : PgR g σ3 (layN D 99 Y0 0) := by
    rw [← hY]
    refine ⟨?_, ?_, fun s hs => ?_, fun s q k hs hq => absurd hq (Nat.not_lt_zero q)⟩
    · rw [r2 _ (by omega) (by omega), tw_1]
      rfl
    · rw [r2 _ (by omega) (by omega), tw_2]
      rfl
    · rw [r2 _ (by omega) (by omega), r2 _ (by omega) (by omega), r2 _ (by omega) (by omega), tw_n _ _ _ _ (by omega) (by omega), tw_n _ _ _ _ (by omega) (by omega), tw_n _ _ _ _ (by omega) (by omega)]
      exact ⟨(c5 s hs).1, (c5 s hs).2.1, (c5 s hs).2.2, Nat.zero_le 4⟩
  have hI := ordN_I D
  have hle := nS_le D
  obtain ⟨σ4, ⟨l1, l2⟩, l3⟩ := lpx (fun _ _ => none) (f3_layOut_B22 N g (nI (nS D)) (fun σL22 => some ((), σL22))) (fun t j σ => t (nI j) σ) (fun σL22 => some ((), σL22)) (nS D) (fun m τ => (∀ k, k < g + 1 ∨ (g + 2 < k ∧ k < g + 5) ∨ g + 8 < k → τ k = σ3 k) ∧ PgR g τ (layN D 99 Y0 m)) (by
    intro r τ hI
    show f3_layOut_B22 _ _ _ _ _ _ _ = _
    unfold f3_layOut_B22
    simp (disch := omega) only [q_lit, q_gt, q_bd, q_bxl, q_bxr, q_vib, q_cl, q_pos, q_lt, q_le, q_eq, q_neg, q_neg1, q_negz, q_negeq0, q_neg0le, q_rem, q_div, q_sub, q_if1, q_if0, q_okB0, q_okB1, q_dz, q_dn, q_nb, and_true, true_and, and_false, false_and, nI_add, pk_mul, if_true, if_false, ite_true, ite_false, Nat.add_zero, Nat.zero_add, Nat.reduceAdd]) (by
    intro r j τ hj hI2
    obtain ⟨i1, i2⟩ := hI2
    have ho := hI.1 j hj
    have fr := layN_fresh (D := D) (w := 99) h0 j (ordN D j) (fun k hk => Or.inr (ordN_ne hk hj))
    obtain ⟨τ', t1, t2, t3⟩ := s3_placeStory hg hD N (ordN D j) hN ho.1 ho.2 i2 (ed_fr hg hE3 (fun k hk => i1 k (by omega))) fr.1 fr.2.1
    refine ⟨τ', ⟨fun k hk => (t2 k hk).trans (i1 k hk), ?_⟩, ?_⟩
    · show PgR g τ' (if ordN D j = 99 then _ else _)
      rw [if_neg (by omega)]
      exact t3
    · show f3_layOut_B22 _ _ _ _ _ _ _ = _
      unfold f3_layOut_B22 f3_storyOfRank
      simp (disch := omega) only [q_lit, q_gt, q_bd, q_bxl, q_bxr, q_vib, q_cl, q_pos, q_lt, q_le, q_eq, q_neg, q_neg1, q_negz, q_negeq0, q_neg0le, q_rem, q_div, q_sub, q_if1, q_if0, q_okB0, q_okB1, q_dz, q_dn, q_nb, and_true, true_and, and_false, false_and, nI_add, pk_mul, if_true, if_false, ite_true, ite_false, Nat.add_zero, Nat.zero_add, Nat.reduceAdd, s5_isStoryIndex, i1 (g + 3) (by omega), r4 j hj, t1]) (nS D) 0 N σ3 (by omega) (by omega) ⟨fun _ _ => rfl, P0⟩
  refine ⟨σ4, Y0, ?_, ?_, h0, l2, ?_, ?_⟩
  · unfold f3_layOut
    simp (disch := omega) only [q_lit, q_gt, q_bd, q_bxl, q_bxr, q_vib, q_cl, q_pos, q_lt, q_le, q_eq, q_neg, q_neg1, q_negz, q_negeq0, q_neg0le, q_rem, q_div, q_sub, q_if1, q_if0, q_okB0, q_okB1, q_dz, q_dn, q_nb, and_true, true_and, and_false, false_and, nI_add, pk_mul, if_true, if_false, ite_true, ite_false, Nat.add_zero, Nat.zero_add, Nat.reduceAdd, c1, p1, r1, s1_storyCount (edOf g) hE3 hD N hN]
    exact l3
  · intro k hk
    rw [l1 k (by omega), r2 k (by omega) (by omega), tw_n _ _ _ _ (by omega) (by omega)]
    exact c2 k (by omega)
  · intro s hs h1
    rw [l1 _ (by omega)]
    exact r3 s hs h1
  · intro k hk
    rw [l1 _ (by omega)]
    exact r4 k hk
theorem s6_lays (hNw : NwR σ 85 D) (hD : DOk D) (N w : Nat) (wI : Int32) (hw : ∀ s, s < 12 → (nI s = wI ↔ s = w)) (hN : 500 ≤ N) (Y0 : Ly) (h0 : Ly0 Y0) : ∃ σ', f6_lays N wI σ = some ((), σ') ∧ (∀ k, k < 84 ∨ (84 < k ∧ k < 89) ∨ 95 < k → σ' k = σ k) ∧ (∀ i, i ≠ 14 → σ' 84 i = σ 84 i) ∧ σ' 84 14 = nI (nS D) ∧ (∀ k, k < nS D → σ' 91 k = nI (ordN D k)) ∧ RfR (fun s => s ≠ w ∧ dS D s 0 = 1) σ' (layN D w Y0 (nS D)) := by
  have hI := ordN_I D
  have hle := nS_le D
  obtain ⟨σ1, ⟨a1, a2, a3⟩, a4⟩ := lpx (fun _ _ => none) (f6_lays_B2 N wI (fun σL2 => f6_lays_L31 N wI (fun σL31 => bd (f6_ranks N σL31) (fun _ σ93 => f6_lays_L98 N wI (fun σL98 => some ((), σL98)) N (nI 0) σ93)) N (nI 0) σL2)) (fun t j σ => t (nI j) σ) (fun σL2 => f6_lays_L31 N wI (fun σL31 => bd (f6_ranks N σL31) (fun _ σ93 => f6_lays_L98 N wI (fun σL98 => some ((), σL98)) N (nI 0) σ93)) N (nI 0) σL2) 480 (fun m τ => (∀ k, k ≠ 89 → k ≠ 90 → τ k = σ k) ∧ (∀ i, i < m → τ 89 i = nI 0) ∧ (∀ i, i < m → τ 90 i = -nI 1)) (by
    intro r τ hI
    show f6_lays_B2 _ _ _ _ _ _ = _
    unfold f6_lays_B2
    simp (disch := omega) only [q_lit, q_gt, q_bd, q_bxl, q_bxr, q_vib, q_cl, q_pos, q_lt, q_le, q_eq, q_neg, q_neg1, q_negz, q_negeq0, q_neg0le, q_rem, q_div, q_sub, q_if1, q_if0, q_okB0, q_okB1, q_dz, q_dn, q_nb, and_true, true_and, and_false, false_and, nI_add, pk_mul, if_true, if_false, ite_true, ite_false, Nat.add_zero, Nat.zero_add, Nat.reduceAdd]) (by
    intro r j τ hj hI
    obtain ⟨i1, i2, i3⟩ := hI
    refine ⟨st (st τ 89 j (nI 0)) 90 j (-nI 1), ⟨?_, ?_, ?_⟩, ?_⟩
    · intro k k1 k2
      rw [st_row _ _ _ _ k2, st_row _ _ _ _ k1]
      exact i1 k k1 k2
    · intro i hi
      rw [st_row _ _ _ _ (by omega), st_get]
      by_cases z : i = j
      · rw [if_pos ⟨rfl, z⟩]
      · rw [if_neg (fun h => z h.2)]
        exact i2 i (by omega)
    · intro i hi
      rw [st_get]
      by_cases z : i = j
      · rw [if_pos ⟨rfl, z⟩]
      · rw [if_neg (fun h => z h.2), st_row _ _ _ _ (by omega)]
        exact i3 i (by omega)
    · show f6_lays_B2 _ _ _ _ _ _ = _
      unfold f6_lays_B2
      simp (disch := omega) only [q_lit, q_gt, q_bd, q_bxl, q_bxr, q_vib, q_cl, q_pos, q_lt, q_le, q_eq, q_neg, q_neg1, q_negz, q_negeq0, q_neg0le, q_rem, q_div, q_sub, q_if1, q_if0, q_okB0, q_okB1, q_dz, q_dn, q_nb, and_true, true_and, and_false, false_and, nI_add, pk_mul, if_true, if_false, ite_true, ite_false, Nat.add_zero, Nat.zero_add, Nat.reduceAdd]) 480 0 N σ (by omega) (by omega) ⟨fun _ _ _ => rfl, fun i h => absurd h (Nat.not_lt_zero i), fun i h => absurd h (Nat.not_lt_zero i)⟩
  have ads := lpc (fun _ _ => none) (f6_lays_B31 N wI (fun σL31 => bd (f6_ranks N σL31) (fun _ σ93 => f6_lays_L98 N wI (fun σL98 => some ((), σL98)) N (nI 0) σ93))) (fun t j => t (nI j) (tw 88 (adR (fun _ => nI 1) D j (σ1 89)) (adR (fun a => nI (100 + a)) D j (σ1 90)) σ1)) (bd (f6_ranks N (tw 88 (adR (fun _ => nI 1) D 8 (σ1 89)) (adR (fun a => nI (100 + a)) D 8 (σ1 90)) σ1)) (fun _ σ93 => f6_lays_L98 N wI (fun σL98 => some ((), σL98)) N (nI 0) σ93)) 8 (by
    intro r
    show f6_lays_B31 _ _ _ _ _ _ = _
    unfold f6_lays_B31
    simp (disch := omega) only [q_lit, q_gt, q_bd, q_bxl, q_bxr, q_vib, q_cl, q_pos, q_lt, q_le, q_eq, q_neg, q_neg1, q_negz, q_negeq0, q_neg0le, q_rem, q_div, q_sub, q_if1, q_if0, q_okB0, q_okB1, q_dz, q_dn, q_nb, and_true, true_and, and_false, false_and, nI_add, pk_mul, if_true, if_false, ite_true, ite_false, Nat.add_zero, Nat.zero_add, Nat.reduceAdd]) (by
    intro r j hj
    show f6_lays_B31 _ _ _ _ _ _ = _
    obtain ⟨q0, q1, q2, q3, q4, q5, q6⟩ := hD.2.2.2 j hj
    have hN2 : NwR (tw 88 (adR (fun _ => nI 1) D j (σ1 89)) (adR (fun a => nI (100 + a)) D j (σ1 90)) σ1) 85 D := hNw.congr ((tw_n 88 _ _ _ (by omega) (by omega)).trans (a1 85 (by omega) (by omega)))
    rw [adR_s, adR_s]
    unfold f6_lays_B31 f6_lays_J86
    simp (disch := omega) only [q_lit, q_gt, q_bd, q_bxl, q_bxr, q_vib, q_cl, q_pos, q_lt, q_le, q_eq, q_neg, q_neg1, q_negz, q_negeq0, q_neg0le, q_rem, q_div, q_sub, q_if1, q_if0, q_okB0, q_okB1, q_dz, q_dn, q_nb, and_true, true_and, and_false, false_and, nI_add, pk_mul, if_true, if_false, ite_true, ite_false, Nat.add_zero, Nat.zero_add, Nat.reduceAdd, s6_ad hN2]
    rcases bit_cases q0 with e | e
    · rw [e]
      simp (disch := omega) only [q_lit, q_gt, q_bd, q_bxl, q_bxr, q_vib, q_cl, q_pos, q_lt, q_le, q_eq, q_neg, q_neg1, q_negz, q_negeq0, q_neg0le, q_rem, q_div, q_sub, q_if1, q_if0, q_okB0, q_okB1, q_dz, q_dn, q_nb, and_true, true_and, and_false, false_and, nI_add, pk_mul, if_true, if_false, ite_true, ite_false, Nat.add_zero, Nat.zero_add, Nat.reduceAdd]
    · rw [e]
      simp (disch := omega) only [q_lit, q_gt, q_bd, q_bxl, q_bxr, q_vib, q_cl, q_pos, q_lt, q_le, q_eq, q_neg, q_neg1, q_negz, q_negeq0, q_neg0le, q_rem, q_div, q_sub, q_if1, q_if0, q_okB0, q_okB1, q_dz, q_dn, q_nb, and_true, true_and, and_false, false_and, nI_add, pk_mul, if_true, if_false, ite_true, ite_false, Nat.add_zero, Nat.zero_add, Nat.reduceAdd, s6_fillsT N (dA D j 1) (dA D j 2) (dA D j 3) (dA D j 4) (dA D j 5) (120 * dA D j 1 + 5 * dA D j 3 + dA D j 2) (nI 1) (nI (100 + j)) (adR (fun _ => nI 1) D j (σ1 89)) (adR (fun a => nI (100 + a)) D j (σ1 90)) σ1 hN (by omega) (by omega) (by omega) (by omega) (by omega) (by omega) rfl]) (i := 0) (n := N) (by omega) (by omega)
  have tws : tw 88 (adR (fun _ => nI 1) D 0 (σ1 89)) (adR (fun a => nI (100 + a)) D 0 (σ1 90)) σ1 = σ1 := tw_self 88 σ1
  replace ads : f6_lays_L31 N wI (fun σL31 => bd (f6_ranks N σL31) (fun _ σ93 => f6_lays_L98 N wI (fun σL98 => some ((), σL98)) N (nI 0) σ93)) N (nI 0) (tw 88 (adR (fun _ => nI 1) D 0 (σ1 89)) (adR (fun a => nI (100 + a)) D 0 (σ1 90)) σ1) = _ := ads
  rw [tws] at ads
  have hN2 : NwR (tw 88 (adR (fun _ => nI 1) D 8 (σ1 89)) (adR (fun a => nI (100 + a)) D 8 (σ1 90)) σ1) 85 D := hNw.congr ((tw_n 88 _ _ _ (by omega) (by omega)).trans (a1 85 (by omega) (by omega)))
  obtain ⟨σ3, r1, r2, r3, r4, r5⟩ := s6_ranks hN2 hD N hN
  have hN3 : NwR σ3 85 D := hN2.congr (r2 85 (by omega) (by omega))
  have P0 : RfR (fun s => ∃ j, j < 0 ∧ ordN D j = s ∧ s ≠ w) σ3 (layN D w Y0 0) := by
    refine ⟨fun i hi => ?_, fun i hi => ?_, fun s hs hp => ?_⟩
    · rw [r2 89 (by omega) (by omega), show (89 : Nat) = 88 + 1 from rfl, tw_1]
      exact adR_pt _ _ ((a2 i hi).trans (h0.1 i hi).symm) 8
    · rw [r2 90 (by omega) (by omega), show (90 : Nat) = 88 + 2 from rfl, tw_2]
      exact adR_pt _ _ ((a3 i hi).trans (h0.2.1 i hi).symm) 8
    · obtain ⟨j, hj, _⟩ := hp
      exact absurd hj (Nat.not_lt_zero j)
  obtain ⟨σ4, ⟨l1, l2⟩, l3⟩ := lpx (fun _ _ => none) (f6_lays_B98 N wI (fun σL98 => some ((), σL98))) (fun t j σ => t (nI j) σ) (fun σL98 => some ((), σL98)) (nS D) (fun m τ => (∀ k, k < 89 ∨ k = 91 ∨ 95 < k → τ k = σ3 k) ∧ RfR (fun s => ∃ j, j < m ∧ ordN D j = s ∧ s ≠ w) τ (layN D w Y0 m)) (by
    intro r τ hI2
    show f6_lays_B98 _ _ _ _ _ _ = _
    unfold f6_lays_B98
    simp (disch := omega) only [q_lit, q_gt, q_bd, q_bxl, q_bxr, q_vib, q_cl, q_pos, q_lt, q_le, q_eq, q_neg, q_neg1, q_negz, q_negeq0, q_neg0le, q_rem, q_div, q_sub, q_if1, q_if0, q_okB0, q_okB1, q_dz, q_dn, q_nb, and_true, true_and, and_false, false_and, nI_add, pk_mul, if_true, if_false, ite_true, ite_false, Nat.add_zero, Nat.zero_add, Nat.reduceAdd, hI2.1 84, r4]) (by
    intro r j τ hj hI2
    obtain ⟨i1, i2⟩ := hI2
    have ho := hI.1 j hj
    show ∃ σ', _ ∧ f6_lays_B98 _ _ _ _ _ _ = _
    unfold f6_lays_B98 f6_lays_J126
    simp (disch := omega) only [q_lit, q_gt, q_bd, q_bxl, q_bxr, q_vib, q_cl, q_pos, q_lt, q_le, q_eq, q_neg, q_neg1, q_negz, q_negeq0, q_neg0le, q_rem, q_div, q_sub, q_if1, q_if0, q_okB0, q_okB1, q_dz, q_dn, q_nb, and_true, true_and, and_false, false_and, nI_add, pk_mul, if_true, if_false, ite_true, ite_false, Nat.add_zero, Nat.zero_add, Nat.reduceAdd, i1 84, i1 91, r4, r5 j hj]
    have hw1 := hw (ordN D j) ho.1
    by_cases z : ordN D j = w
    · rw [if_pos (hw1.mpr z)]
      refine ⟨τ, ⟨i1, ?_⟩, rfl⟩
      show RfR _ τ (if ordN D j = w then _ else _)
      rw [if_pos z]
      refine ⟨i2.1, i2.2.1, fun s hs hp => i2.2.2 s hs ?_⟩
      obtain ⟨k, k1, k2, k3⟩ := hp
      refine ⟨k, ?_, k2, k3⟩
      have : k ≠ j := fun e => k3 (by rw [← k2, e, z])
      omega
    · rw [if_neg (fun h => z (hw1.mp h))]
      have fr := layN_fresh (D := D) (w := w) h0 j (ordN D j) (fun k hk => Or.inr (ordN_ne hk hj))
      obtain ⟨τ', t1, t2, t3⟩ := s6_places i2 (hN3.congr (i1 85 (by omega))) hD.2.2.1 N (ordN D j) hN ho.1 fr.1 fr.2.1 ho.2
      refine ⟨τ', ⟨fun k hk => (t2 k hk).trans (i1 k hk), ?_⟩, by simp (disch := omega) only [q_lit, q_gt, q_bd, q_bxl, q_bxr, q_vib, q_cl, q_pos, q_lt, q_le, q_eq, q_neg, q_neg1, q_negz, q_negeq0, q_neg0le, q_rem, q_div, q_sub, q_if1, q_if0, q_okB0, q_okB1, q_dz, q_dn, q_nb, and_true, true_and, and_false, false_and, nI_add, pk_mul, if_true, if_false, ite_true, ite_false, Nat.add_zero, Nat.zero_add, Nat.reduceAdd, t1]⟩
      show RfR _ τ' (if ordN D j = w then _ else _)
      rw [if_neg z]
      refine ⟨t3.1, t3.2.1, fun s hs hp => t3.2.2 s hs ?_⟩
      obtain ⟨k, k1, k2, k3⟩ := hp
      by_cases e : k = j
      · right
        rw [← k2, e]
      · left
        exact ⟨k, by omega, k2, k3⟩) (nS D) 0 N σ3 (by omega) (by omega) ⟨fun _ _ => rfl, P0⟩
  refine ⟨σ4, ?_, ?_, ?_, ?_, ?_, ?_⟩
  · refine Eq.trans (show f6_lays N wI σ = _ from a4) ?_
    rw [ads, r1]
    exact l3
  · intro k hk
    rw [l1 k (by omega), r2 k (by omega) (by omega), tw_n 88 _ _ _ (by omega) (by omega)]
    exact a1 k (by omega) (by omega)
  · intro i hi
    rw [l1 84 (by omega), r3 i hi, tw_n 88 _ _ _ (by omega) (by omega), a1 84 (by omega) (by omega)]
  · rw [l1 84 (by omega)]
    exact r4
  · intro k hk
    rw [l1 91 (by omega)]
    exact r5 k hk
  · refine ⟨l2.1, l2.2.1, fun s hs hp => l2.2.2 s hs ?_⟩
    obtain ⟨k, k1, k2⟩ := hI.2.2 s hs hp.2
    exact ⟨k, k1, k2, hp.1⟩
end Z1
