/-! THE PURE PART. Painting a part: both sides; what it leaves alone. -/
theorem fl1_out (v : Int32) (i : Nat) : ∀ (w : Nat) (f : Nat → Int32) (t : Nat), t < i ∨ i + w ≤ t → fl1 v i w f t = f t
  | 0, f, t, _ => rfl
  | w + 1, f, t, h => by
    show upd (fl1 v i w f) (i + w) v t = f t
    rw [pk_un (by omega)]
    exact fl1_out v i w f t (by omega)
theorem fl_out (v : Int32) (i w : Nat) : ∀ (h : Nat) (f : Nat → Int32) (t : Nat), t < i ∨ i + h * 5 + w ≤ t + 5 → fl v i w h f t = f t
  | 0, f, t, _ => rfl
  | h + 1, f, t, q => by
    show fl1 v (i + h * 5) w (fl v i w h f) t = f t
    rw [fl1_out _ _ _ _ _ (by omega)]
    exact fl_out v i w h f t (by omega)
theorem loc_le (lines w c : Nat) : locN lines w c ≤ (lines + w - 1) / w := by
  unfold locN
  exact Nat.div_le_div_right (by omega)
theorem lnR_out (v : Int32) (i w lines lr : Nat) (hl : (lines + w - 1) / w ≤ lr) : ∀ (c : Nat) (f : Nat → Int32) (t : Nat), t < i ∨ i + c + lr * 5 ≤ t + 5 → lnR v i w lines c f t = f t
  | 0, f, t, _ => rfl
  | c + 1, f, t, q => by
    have := loc_le lines w c
    show fl v (i + c) 1 (locN lines w c) (lnR v i w lines c f) t = f t
    rw [fl_out _ _ _ _ _ _ (by omega)]
    exact lnR_out v i w lines lr hl c f t (by omega)
theorem pR_out (v : Nat → Int32) {D : Nat → Nat} {s q i w lr lines j : Nat} (hl : (lines + w - 1) / w ≤ lr) (f : Nat → Int32) (t : Nat) (h : t < i ∨ i + (abv D s q + lr + j) * 5 + w ≤ t + 5) : pR v D s q i w lr lines j f t = f t := by
  unfold pR
  rw [fl_out _ _ _ _ _ _ (by omega), lnR_out _ _ _ _ _ hl _ _ _ (by omega), fl_out _ _ _ _ _ _ (by omega)]
  unfold hdR abv at *
  by_cases z : q = 0
  · rw [if_pos z] at h ⊢
    unfold hd at h
    rw [fl_out _ _ _ _ _ _ (by omega), fl_out _ _ _ _ _ _ (by omega), fl_out _ _ _ _ _ _ (by omega)]
  · rw [if_neg z] at h ⊢
    rw [fl_out _ _ _ _ _ _ (by omega)]
theorem rwB_congr {c c' : Nat → Int32} {i w : Nat} (h : ∀ k, k < w → c (i + k) = c' (i + k)) : rwB c i w = rwB c' i w := by
  unfold rwB
  apply decide_eq_decide.mpr
  constructor
  · intro a k hk
    rw [← h k hk]
    exact a k hk
  · intro a k hk
    rw [h k hk]
    exact a k hk
theorem frn_congr {c c' : Nat → Int32} {w : Nat} (hw : w ≤ 5) : ∀ (m i : Nat), (∀ t, i ≤ t → t + 5 < i + m * 5 + w → c t = c' t) → frn c w m i = frn c' w m i
  | 0, _, _ => rfl
  | m + 1, i, h => by
    unfold frn
    rw [rwB_congr (c := c) (c' := c') (fun k hk => h (i + k) (by omega) (by omega)), frn_congr hw m (i + 5) (fun t h1 h2 => h t (by omega) (by omega))]
theorem fsN_congr {q q' : Nat → Option Nat} : ∀ {n i : Nat}, (∀ j, i ≤ j → j < i + n → q j = q' j) → fsN q n i = fsN q' n i
  | 0, _, _ => rfl
  | n + 1, i, h => by
    rw [fsN_s, fsN_s, h i (by omega) (by omega), fsN_congr (n := n) (i := i + 1) (fun j h1 h2 => h j (by omega) (by omega))]
theorem bk_congr {c c' : Nat → Int32} {p w h : Nat} (hw : w ≤ 5) (e : ∀ t, 120 * p ≤ t → t < 120 * p + 120 → c t = c' t) : bk c p w h = bk c' p w h := by
  unfold bk
  apply fsN_congr
  intro r h1 h2
  unfold bkR
  apply fsN_congr
  intro k h3 h4
  unfold bkC
  by_cases z : r ≤ 24
  · rw [frn_congr (c := c) (c' := c') hw (24 - r) (120 * p + 5 * r + k) (fun t h1 h2 => e t (by omega) (by omega))]
  · rw [show 24 - r = 0 by omega]
    rfl
section L3
variable {σ : Hp} {g : Nat} {D : Nat → Nat}
theorem s3_partNo (N s q k x : Nat) (hs : s < 12) (hq : q < 4) (hk : k < 9) (h : σ (g + 6) ((s * 4 + q) * 9 + k) = nI x) : f3_partNumber N g (nI s) (nI q) (nI k) σ = some (nI x, σ) := by
  unfold f3_partNumber
  simp (disch := omega) only [q_lit, q_gt, q_bd, q_bxl, q_bxr, q_vib, q_cl, q_pos, q_lt, q_le, q_eq, q_neg, q_neg1, q_negz, q_negeq0, q_neg0le, q_rem, q_div, q_sub, q_if1, q_if0, q_okB0, q_okB1, q_dz, q_dn, q_nb, and_true, true_and, and_false, false_and, nI_add, pk_mul, if_true, if_false, ite_true, ite_false, Nat.add_zero, Nat.zero_add, Nat.reduceAdd, s5_isStoryIndex]
  rw [h]
theorem s3_lines (N s i w lines lr : Nat) (f f' : Nat → Int32) (hN : 500 ≤ N) (hw : 1 ≤ w) (hw5 : w ≤ 5) (hl : (lines + w - 1) / w ≤ lr) (hlr : lr ≤ 24) (hi : i + lr * 5 + w ≤ 485) (hll : lines ≤ 1000) (x1 x2 x5 x7 : Int32) (K : Hp → Option (Unit × Hp)) : f3_paintPart_L77 N g (nI s) x2 (nI w) (nI lines) x5 (nI i) x7 K N (nI 0) (tw g f f' σ) = K (tw g (lnR (nI 5) i w lines w f) (lnR (nI s) i w lines w f') σ) := by
  have main := lpc (fun _ _ => none) (f3_paintPart_B77 N g (nI s) x2 (nI w) (nI lines) x5 (nI i) x7 K) (fun t c => t (nI c) (tw g (lnR (nI 5) i w lines c f) (lnR (nI s) i w lines c f') σ)) (K (tw g (lnR (nI 5) i w lines w f) (lnR (nI s) i w lines w f') σ)) w (by
    intro r
    show f3_paintPart_B77 _ _ _ _ _ _ _ _ _ _ _ _ _ = _
    unfold f3_paintPart_B77
    simp (disch := omega) only [q_lit, q_gt, q_bd, q_bxl, q_bxr, q_vib, q_cl, q_pos, q_lt, q_le, q_eq, q_neg, q_neg1, q_negz, q_negeq0, q_neg0le, q_rem, q_div, q_sub, q_if1, q_if0, q_okB0, q_okB1, q_dz, q_dn, q_nb, and_true, true_and, and_false, false_and, nI_add, pk_mul, if_true, if_false, ite_true, ite_false, Nat.add_zero, Nat.zero_add, Nat.reduceAdd]) (by
    intro r c hc
    have := loc_le lines w c
    show f3_paintPart_B77 _ _ _ _ _ _ _ _ _ _ _ _ _ = _
    unfold f3_paintPart_B77
    simp (disch := omega) only [q_lit, q_gt, q_bd, q_bxl, q_bxr, q_vib, q_cl, q_pos, q_lt, q_le, q_eq, q_neg, q_neg1, q_negz, q_negeq0, q_neg0le, q_rem, q_div, q_sub, q_if1, q_if0, q_okB0, q_okB1, q_dz, q_dn, q_nb, and_true, true_and, and_false, false_and, nI_add, pk_mul, if_true, if_false, ite_true, ite_false, Nat.add_zero, Nat.zero_add, Nat.reduceAdd, s3_loc N lines w c, s3_paint N g (i + c) 1 (locN lines w c) (nI 5) (nI s) (tw g (lnR (nI 5) i w lines c f) (lnR (nI s) i w lines c f') σ) hN, pnt_tw]
    rfl) (Nat.zero_le w) (show w < 0 + N by omega)
  exact main
theorem s3_paintPart (hg : isP g) (hE : EdR σ (edOf g) D) (hD : DOk D) (N s q i lr lines l j : Nat) (hN : 500 ≤ N) (hs : s < 12) (hq : q ≤ 3) (hw : 1 ≤ pW D s q) (hv : ∀ k, k < 9 → σ (g + 6) ((s * 4 + q) * 9 + k) = nI (pVal i (pW D s q) (abv D s q + lr + j) lines l j (abv D s q) k)) (hi : i < 480) (hc : i % 5 + pW D s q ≤ 5) (hr : i % 120 / 5 + (abv D s q + lr + j) ≤ 24) (hl : (lines + pW D s q - 1) / pW D s q ≤ lr) (hll : lines ≤ 1000) : f3_paintPart N g (nI s) (nI q) σ = some ((), tw g (pR nI D s q i (pW D s q) lr lines j (σ (g + 1))) (pR (fun _ => nI s) D s q i (pW D s q) lr lines j (σ (g + 2))) σ) := by
  obtain ⟨a0, a1, a2, a3, a4, a5, a6, a7, a8, a9⟩ := hD.2.2.1 s hs
  have hab : q = 0 → abv D s q = dS D s 3 + dS D s 6 + dS D s 7 := fun z => if_pos z
  have hab2 : q ≠ 0 → abv D s q = 1 := fun z => if_neg z
  have hcell : (i / 120 * 120 + i % 120 / 5 * 5 + i % 5) = i := by omega
  have hE2 : ∀ f f', EdR (tw g f f' σ) (edOf g) D := fun f f' => ed_fr hg hE (fun k hk => tw_n _ _ _ _ (by omega) (by omega))
  have v : ∀ f f' k, k < 9 → f3_partNumber N g (nI s) (nI q) (nI k) (tw g f f' σ) = some (nI (pVal i (pW D s q) (abv D s q + lr + j) lines l j (abv D s q) k), tw g f f' σ) := fun f f' k hk => s3_partNo N s q k _ hs (by omega) hk (by rw [tw_n _ _ _ _ (by omega) (by omega)]; exact hv k hk)
  have first : ∀ f f', f3_firstCell N g (nI s) (nI q) (tw g f f' σ) = some (nI i, tw g f f' σ) := by
    intro f f'
    unfold f3_firstCell f5_cellIndex
    simp (disch := omega) only [q_lit, q_gt, q_bd, q_bxl, q_bxr, q_vib, q_cl, q_pos, q_lt, q_le, q_eq, q_neg, q_neg1, q_negz, q_negeq0, q_neg0le, q_rem, q_div, q_sub, q_if1, q_if0, q_okB0, q_okB1, q_dz, q_dn, q_nb, and_true, true_and, and_false, false_and, nI_add, pk_mul, if_true, if_false, ite_true, ite_false, Nat.add_zero, Nat.zero_add, Nat.reduceAdd, v, pVal, hcell]
  have fline : ∀ f f', f3_firstLineCell N g (nI s) (nI q) (tw g f f' σ) = some (nI (i + abv D s q * 5), tw g f f' σ) := by
    intro f f'
    unfold f3_firstLineCell
    simp (disch := omega) only [q_lit, q_gt, q_bd, q_bxl, q_bxr, q_vib, q_cl, q_pos, q_lt, q_le, q_eq, q_neg, q_neg1, q_negz, q_negeq0, q_neg0le, q_rem, q_div, q_sub, q_if1, q_if0, q_okB0, q_okB1, q_dz, q_dn, q_nb, and_true, true_and, and_false, false_and, nI_add, pk_mul, if_true, if_false, ite_true, ite_false, Nat.add_zero, Nat.zero_add, Nat.reduceAdd, first, v, pVal]
  have head : ∀ f f', f3_paintPartHead N g (nI s) (nI q) (tw g f f' σ) = some ((), tw g (hdR nI D s q i (pW D s q) f) (hdR (fun _ => nI s) D s q i (pW D s q) f') σ) := by
    intro f f'
    unfold f3_paintPartHead hdR
    by_cases z : q = 0
    · have := hab z
      rw [if_pos z, if_pos z]
      simp (disch := omega) only [q_lit, q_gt, q_bd, q_bxl, q_bxr, q_vib, q_cl, q_pos, q_lt, q_le, q_eq, q_neg, q_neg1, q_negz, q_negeq0, q_neg0le, q_rem, q_div, q_sub, q_if1, q_if0, q_okB0, q_okB1, q_dz, q_dn, q_nb, and_true, true_and, and_false, false_and, nI_add, pk_mul, if_true, if_false, ite_true, ite_false, Nat.add_zero, Nat.zero_add, Nat.reduceAdd, first, v, pVal, s1_sn (hE2 f f'), s3_paint, pnt_tw]
    · have := hab2 z
      rw [if_neg z, if_neg z]
      simp (disch := omega) only [q_lit, q_gt, q_bd, q_bxl, q_bxr, q_vib, q_cl, q_pos, q_lt, q_le, q_eq, q_neg, q_neg1, q_negz, q_negeq0, q_neg0le, q_rem, q_div, q_sub, q_if1, q_if0, q_okB0, q_okB1, q_dz, q_dn, q_nb, and_true, true_and, and_false, false_and, nI_add, pk_mul, if_true, if_false, ite_true, ite_false, Nat.add_zero, Nat.zero_add, Nat.reduceAdd, first, v, pVal, s3_paint, pnt_tw]
  have e1 : abv D s q + lr + j - abv D s q - j = lr := by omega
  have main : f3_paintPart N g (nI s) (nI q) (tw g (σ (g + 1)) (σ (g + 2)) σ) = some ((), tw g (pR nI D s q i (pW D s q) lr lines j (σ (g + 1))) (pR (fun _ => nI s) D s q i (pW D s q) lr lines j (σ (g + 2))) σ) := by
    unfold f3_paintPart pR
    simp (disch := omega) only [q_lit, q_gt, q_bd, q_bxl, q_bxr, q_vib, q_cl, q_pos, q_lt, q_le, q_eq, q_neg, q_neg1, q_negz, q_negeq0, q_neg0le, q_rem, q_div, q_sub, q_if1, q_if0, q_okB0, q_okB1, q_dz, q_dn, q_nb, and_true, true_and, and_false, false_and, nI_add, pk_mul, if_true, if_false, ite_true, ite_false, Nat.add_zero, Nat.zero_add, Nat.reduceAdd, v, pVal, head, fline, e1, s3_paint, pnt_tw]
    rw [s3_lines N s (i + abv D s q * 5) (pW D s q) lines lr _ _ hN hw (by omega) hl (by omega) (by omega) hll (nI 0)]
    simp (disch := omega) only [q_lit, q_gt, q_bd, q_bxl, q_bxr, q_vib, q_cl, q_pos, q_lt, q_le, q_eq, q_neg, q_neg1, q_negz, q_negeq0, q_neg0le, q_rem, q_div, q_sub, q_if1, q_if0, q_okB0, q_okB1, q_dz, q_dn, q_nb, and_true, true_and, and_false, false_and, nI_add, pk_mul, if_true, if_false, ite_true, ite_false, Nat.add_zero, Nat.zero_add, Nat.reduceAdd, s3_paint, pnt_tw]
  rw [tw_self] at main
  exact main
end L3
