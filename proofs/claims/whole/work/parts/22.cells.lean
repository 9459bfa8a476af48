/-! THE PURE PART. Cells: fills of blocks, free rows, the first free block; on both sides. -/
def fl1 (v : Int32) (i : Nat) : Nat → (Nat → Int32) → (Nat → Int32)
  | 0, f => f
  | w + 1, f => upd (fl1 v i w f) (i + w) v
def fl (v : Int32) (i w : Nat) : Nat → (Nat → Int32) → (Nat → Int32)
  | 0, f => f
  | h + 1, f => fl1 v (i + h * 5) w (fl v i w h f)
def pr (g : Nat) (k o : Int32) (i w : Nat) (σ : Hp) : Hp := sr (sr σ (g + 1) (fl1 k i w (σ (g + 1)))) (g + 2) (fl1 o i w (σ (g + 2)))
def pnt (g : Nat) (k o : Int32) (i w h : Nat) (σ : Hp) : Hp := sr (sr σ (g + 1) (fl k i w h (σ (g + 1)))) (g + 2) (fl o i w h (σ (g + 2)))
theorem sr_same (σ : Hp) (k : Nat) (f : Nat → Int32) : sr σ k f k = f := by unfold sr; rw [if_pos rfl]
theorem sr_ne (σ : Hp) (k : Nat) (f : Nat → Int32) {k' : Nat} (h : k' ≠ k) : sr σ k f k' = σ k' := by unfold sr; rw [if_neg h]
theorem two_row {g : Nat} {σ τ : Hp} (h1 : σ (g + 1) = τ (g + 1)) (h2 : σ (g + 2) = τ (g + 2)) (h : ∀ k, k ≠ g + 1 → k ≠ g + 2 → σ k = τ k) : σ = τ := by
  funext k
  by_cases e1 : k = g + 1
  · rw [e1, h1]
  · by_cases e2 : k = g + 2
    · rw [e2, h2]
    · exact h k e1 e2
theorem tr1 (g : Nat) (σ : Hp) (f f' : Nat → Int32) : sr (sr σ (g + 1) f) (g + 2) f' (g + 1) = f := by rw [sr_ne _ _ _ (by omega), sr_same]
theorem tr2 (g : Nat) (σ : Hp) (f f' : Nat → Int32) : sr (sr σ (g + 1) f) (g + 2) f' (g + 2) = f' := sr_same _ _ _
theorem tr3 (g : Nat) (σ : Hp) (f f' : Nat → Int32) {k : Nat} (h1 : k ≠ g + 1) (h2 : k ≠ g + 2) : sr (sr σ (g + 1) f) (g + 2) f' k = σ k := by rw [sr_ne _ _ _ h2, sr_ne _ _ _ h1]
theorem pr_zero (g : Nat) (k o : Int32) (i : Nat) (σ : Hp) : pr g k o i 0 σ = σ := two_row (tr1 ..) (tr2 ..) (fun _ h1 h2 => tr3 _ _ _ _ h1 h2)
theorem pnt_zero (g : Nat) (k o : Int32) (i w : Nat) (σ : Hp) : pnt g k o i w 0 σ = σ := two_row (tr1 ..) (tr2 ..) (fun _ h1 h2 => tr3 _ _ _ _ h1 h2)
theorem pr_succ (g : Nat) (k o : Int32) (i w : Nat) (σ : Hp) : st (st (pr g k o i w σ) (g + 1) (i + w) k) (g + 2) (i + w) o = pr g k o i (w + 1) σ := by
  unfold pr st
  apply two_row (g := g)
  · rw [tr1, tr1, tr1]
    rfl
  · rw [tr2, tr2, sr_ne _ _ _ (by omega), tr2]
    rfl
  · intro q h1 h2
    rw [tr3 _ _ _ _ h1 h2, tr3 _ _ _ _ h1 h2, tr3 _ _ _ _ h1 h2]
theorem pnt_succ (g : Nat) (k o : Int32) (i w h : Nat) (σ : Hp) : pr g k o (i + h * 5) w (pnt g k o i w h σ) = pnt g k o i w (h + 1) σ := by
  unfold pr pnt
  apply two_row (g := g)
  · rw [tr1, tr1, tr1]
    rfl
  · rw [tr2, tr2, tr2]
    rfl
  · intro q h1 h2
    rw [tr3 _ _ _ _ h1 h2, tr3 _ _ _ _ h1 h2, tr3 _ _ _ _ h1 h2]
theorem s3_paint (N g i w h : Nat) (k o : Int32) (σ : Hp) (hN : 500 ≤ N) (hw : w ≤ 5) (hh : h ≤ 24) (hi : h = 0 ∨ i + h * 5 + w ≤ 485) : f3_paintBlock N g (nI i) (nI w) (nI h) k o σ = some ((), pnt g k o i w h σ) := by
  have main := lpc (fun _ _ => none) (f3_paintBlock_B3 N g (nI i) (nI w) (nI h) k o (fun σL3 => some ((), σL3))) (fun t r => t (nI r) (pnt g k o i w r σ)) (some ((), pnt g k o i w h σ)) h (by
    intro r
    show f3_paintBlock_B3 _ _ _ _ _ _ _ _ _ _ _ = _
    unfold f3_paintBlock_B3
    simp (disch := omega) only [q_lit, q_gt, q_bd, q_bxl, q_bxr, q_vib, q_cl, q_pos, q_lt, q_le, q_eq, q_neg, q_neg1, q_negz, q_negeq0, q_neg0le, q_rem, q_div, q_sub, q_if1, q_if0, q_okB0, q_okB1, q_dz, q_dn, q_nb, and_true, true_and, and_false, false_and, nI_add, pk_mul, if_true, if_false, ite_true, ite_false, Nat.add_zero, Nat.zero_add, Nat.reduceAdd]) (by
    intro r j hj
    show f3_paintBlock_B3 _ _ _ _ _ _ _ _ _ _ _ = _
    unfold f3_paintBlock_B3
    simp (disch := omega) only [q_lit, q_gt, q_bd, q_bxl, q_bxr, q_vib, q_cl, q_pos, q_lt, q_le, q_eq, q_neg, q_neg1, q_negz, q_negeq0, q_neg0le, q_rem, q_div, q_sub, q_if1, q_if0, q_okB0, q_okB1, q_dz, q_dn, q_nb, and_true, true_and, and_false, false_and, nI_add, pk_mul, if_true, if_false, ite_true, ite_false, Nat.add_zero, Nat.zero_add, Nat.reduceAdd]
    have inner := lpc (fun _ _ => none) (f3_paintBlock_B12 N g (nI i) (nI w) (nI h) k o (fun σL3 => some ((), σL3)) r (nI j) (fun σL12 => r (nI (j + 1)) σL12)) (fun t c => t (nI c) (pr g k o (i + j * 5) c (pnt g k o i w j σ))) (r (nI (j + 1)) (pnt g k o i w (j + 1) σ)) w (by
      intro r'
      show f3_paintBlock_B12 _ _ _ _ _ _ _ _ _ _ _ _ _ _ = _
      unfold f3_paintBlock_B12
      simp (disch := omega) only [q_lit, q_gt, q_bd, q_bxl, q_bxr, q_vib, q_cl, q_pos, q_lt, q_le, q_eq, q_neg, q_neg1, q_negz, q_negeq0, q_neg0le, q_rem, q_div, q_sub, q_if1, q_if0, q_okB0, q_okB1, q_dz, q_dn, q_nb, and_true, true_and, and_false, false_and, nI_add, pk_mul, if_true, if_false, ite_true, ite_false, Nat.add_zero, Nat.zero_add, Nat.reduceAdd]
      rw [pnt_succ]) (by
      intro r' c hc
      show f3_paintBlock_B12 _ _ _ _ _ _ _ _ _ _ _ _ _ _ = _
      unfold f3_paintBlock_B12 f3_paintBlock_J55 f5_isCellIndex
      simp (disch := omega) only [q_lit, q_gt, q_bd, q_bxl, q_bxr, q_vib, q_cl, q_pos, q_lt, q_le, q_eq, q_neg, q_neg1, q_negz, q_negeq0, q_neg0le, q_rem, q_div, q_sub, q_if1, q_if0, q_okB0, q_okB1, q_dz, q_dn, q_nb, and_true, true_and, and_false, false_and, nI_add, pk_mul, if_true, if_false, ite_true, ite_false, Nat.add_zero, Nat.zero_add, Nat.reduceAdd]
      rw [pr_succ]) (Nat.zero_le w) (show w < 0 + N by omega)
    simp only [pr_zero] at inner
    exact inner) (Nat.zero_le h) (show h < 0 + N by omega)
  simp only [pnt_zero] at main
  exact main
theorem s6_fills (N p c r w h i : Nat) (k o : Int32) (σ : Hp) (hN : 500 ≤ N) (hw : w ≤ 5) (hh : h ≤ 24) (hp : p ≤ 3) (hr : r ≤ 30) (hc : c ≤ 5) (hi : h = 0 ∨ i + h * 5 + w ≤ 485) (e : i = 120 * p + 5 * r + c) : f6_fills N (nI p) (nI c) (nI r) (nI w) (nI h) k o σ = some ((), pnt 88 k o i w h σ) := by
  have main := lpc (fun _ _ => none) (f6_fills_B3 N (nI p) (nI c) (nI r) (nI w) (nI h) k o (fun σL3 => some ((), σL3))) (fun t j => t (nI (r + j)) (pnt 88 k o i w j σ)) (some ((), pnt 88 k o i w h σ)) h (by
    intro r'
    show f6_fills_B3 _ _ _ _ _ _ _ _ _ _ _ _ = _
    unfold f6_fills_B3
    simp (disch := omega) only [q_lit, q_gt, q_bd, q_bxl, q_bxr, q_vib, q_cl, q_pos, q_lt, q_le, q_eq, q_neg, q_neg1, q_negz, q_negeq0, q_neg0le, q_rem, q_div, q_sub, q_if1, q_if0, q_okB0, q_okB1, q_dz, q_dn, q_nb, and_true, true_and, and_false, false_and, nI_add, pk_mul, if_true, if_false, ite_true, ite_false, Nat.add_zero, Nat.zero_add, Nat.reduceAdd]) (by
    intro r1 j hj
    show f6_fills_B3 _ _ _ _ _ _ _ _ _ _ _ _ = _
    unfold f6_fills_B3
    simp (disch := omega) only [q_lit, q_gt, q_bd, q_bxl, q_bxr, q_vib, q_cl, q_pos, q_lt, q_le, q_eq, q_neg, q_neg1, q_negz, q_negeq0, q_neg0le, q_rem, q_div, q_sub, q_if1, q_if0, q_okB0, q_okB1, q_dz, q_dn, q_nb, and_true, true_and, and_false, false_and, nI_add, pk_mul, if_true, if_false, ite_true, ite_false, Nat.add_zero, Nat.zero_add, Nat.reduceAdd]
    have inner := lpc (fun _ _ => none) (f6_fills_B15 N (nI p) (nI c) (nI r) (nI w) (nI h) k o (fun σL3 => some ((), σL3)) r1 (nI (r + j)) (fun σL12 => r1 (nI (r + j + 1)) σL12)) (fun t q => t (nI (c + q)) (pr 88 k o (i + j * 5) q (pnt 88 k o i w j σ))) (r1 (nI (r + j + 1)) (pnt 88 k o i w (j + 1) σ)) w (by
      intro r'
      show f6_fills_B15 _ _ _ _ _ _ _ _ _ _ _ _ _ _ _ = _
      unfold f6_fills_B15
      simp (disch := omega) only [q_lit, q_gt, q_bd, q_bxl, q_bxr, q_vib, q_cl, q_pos, q_lt, q_le, q_eq, q_neg, q_neg1, q_negz, q_negeq0, q_neg0le, q_rem, q_div, q_sub, q_if1, q_if0, q_okB0, q_okB1, q_dz, q_dn, q_nb, and_true, true_and, and_false, false_and, nI_add, pk_mul, if_true, if_false, ite_true, ite_false, Nat.add_zero, Nat.zero_add, Nat.reduceAdd]
      rw [pnt_succ]) (by
      intro r' q hq
      show f6_fills_B15 _ _ _ _ _ _ _ _ _ _ _ _ _ _ _ = _
      unfold f6_fills_B15 f6_at
      simp (disch := omega) only [q_lit, q_gt, q_bd, q_bxl, q_bxr, q_vib, q_cl, q_pos, q_lt, q_le, q_eq, q_neg, q_neg1, q_negz, q_negeq0, q_neg0le, q_rem, q_div, q_sub, q_if1, q_if0, q_okB0, q_okB1, q_dz, q_dn, q_nb, and_true, true_and, and_false, false_and, nI_add, pk_mul, if_true, if_false, ite_true, ite_false, Nat.add_zero, Nat.zero_add, Nat.reduceAdd]
      rw [show (24 * p + (r + j)) * 5 + (c + q) = i + j * 5 + q by omega]
      exact congrArg (r' (nI (c + q + 1))) (pr_succ 88 k o (i + j * 5) q _)) (Nat.zero_le w) (show w < 0 + N by omega)
    simp only [pr_zero] at inner
    exact inner) (Nat.zero_le h) (show h < 0 + N by omega)
  simp only [pnt_zero] at main
  exact main
/-! free rows -/
def rwB (c : Nat → Int32) (i w : Nat) : Bool := decide (∀ k, k < w → c (i + k) = nI 0)
/-- so many rows from cell i on downwards are free in w columns, of m -/
def frn (c : Nat → Int32) (w : Nat) : Nat → Nat → Nat
  | 0, _ => 0
  | m + 1, i => if rwB c i w then frn c w m (i + 5) + 1 else 0
theorem frn_le (c : Nat → Int32) (w : Nat) : ∀ m i, frn c w m i ≤ m
  | 0, _ => Nat.le_refl 0
  | m + 1, i => by
    have ih := frn_le c w m (i + 5)
    unfold frn
    split
    · omega
    · omega
theorem frn_ge (c : Nat → Int32) (w : Nat) : ∀ m i h, h ≤ frn c w m i ↔ (h ≤ m ∧ ∀ r, r < h → rwB c (i + r * 5) w = true)
  | 0, i, h => by
    unfold frn
    constructor
    · intro q
      exact ⟨q, fun r hr => by omega⟩
    · intro q
      exact q.1
  | m + 1, i, h => by
    unfold frn
    rcases h with _ | h
    · simp
    · have ih := frn_ge c w m (i + 5) h
      by_cases e : rwB c i w = true
      · rw [if_pos e]
        constructor
        · intro q
          have q2 := ih.mp (by omega)
          refine ⟨by omega, ?_⟩
          intro r hr
          rcases r with _ | r
          · simpa using e
          · have := q2.2 r (by omega)
            rw [show i + (r + 1) * 5 = i + 5 + r * 5 by omega]
            exact this
        · intro q
          have q2 := ih.mpr ⟨by omega, fun r hr => by
            have := q.2 (r + 1) (by omega)
            rw [show i + (r + 1) * 5 = i + 5 + r * 5 by omega] at this
            exact this⟩
          omega
      · rw [if_neg e]
        constructor
        · intro q
          omega
        · intro q
          have := q.2 0 (by omega)
          rw [Nat.zero_mul, Nat.add_zero] at this
          exact absurd this e
theorem s3_freeRows (N g p r c w i : Nat) (σ : Hp) (hN : 500 ≤ N) (hp : p ≤ 3) (hr : r ≤ 23) (hc : c + w ≤ 5) (hw : 1 ≤ w) (e : i = 120 * p + 5 * r + c) : f3_freeRows N g (nI i) (nI w) σ = some (nI (frn (σ (g + 1)) w (24 - r) i), σ) := by
  have main := lpg (fun _ _ _ => none) (f3_freeRows_B8 N g (nI i) (nI w) (fun x3_8 σL8 => some (x3_8, σL8))) (fun t j => t (nI j) (nI (r + j)) σ) (fun j => some (nI (j + frn (σ (g + 1)) w (24 - r - j) (i + j * 5)), σ)) (24 - r) (by
    intro r'
    show f3_freeRows_B8 _ _ _ _ _ _ _ _ _ = _
    unfold f3_freeRows_B8
    simp (disch := omega) only [q_lit, q_gt, q_bd, q_bxl, q_bxr, q_vib, q_cl, q_pos, q_lt, q_le, q_eq, q_neg, q_neg1, q_negz, q_negeq0, q_neg0le, q_rem, q_div, q_sub, q_if1, q_if0, q_okB0, q_okB1, q_dz, q_dn, q_nb, and_true, true_and, and_false, false_and, nI_add, pk_mul, if_true, if_false, ite_true, ite_false, Nat.add_zero, Nat.zero_add, Nat.reduceAdd]
    rw [show 24 - r - (24 - r) = 0 by omega]
    rfl) (by
    intro r1 j hj hnext
    replace hnext : r1 (nI (j + 1)) (nI (r + j + 1)) σ = some (nI (j + 1 + frn (σ (g + 1)) w (24 - r - (j + 1)) (i + (j + 1) * 5)), σ) := hnext
    show f3_freeRows_B8 _ _ _ _ _ _ _ _ _ = _
    unfold f3_freeRows_B8
    simp (disch := omega) only [q_lit, q_gt, q_bd, q_bxl, q_bxr, q_vib, q_cl, q_pos, q_lt, q_le, q_eq, q_neg, q_neg1, q_negz, q_negeq0, q_neg0le, q_rem, q_div, q_sub, q_if1, q_if0, q_okB0, q_okB1, q_dz, q_dn, q_nb, and_true, true_and, and_false, false_and, nI_add, pk_mul, if_true, if_false, ite_true, ite_false, Nat.add_zero, Nat.zero_add, Nat.reduceAdd]
    have inner := lpg (fun _ _ => none) (f3_freeRows_B25 N g (nI i) (nI w) (fun x3_8 σL8 => some (x3_8, σL8)) r1 (nI j) (nI (r + j)) (nI (i + j * 5)) (fun σL25 => r1 (nI (j + 1)) (nI (r + j + 1)) σL25)) (fun t q => t (nI q) σ) (fun q => if ∀ k, k < w - q → σ (g + 1) (i + j * 5 + (q + k)) = nI 0 then r1 (nI (j + 1)) (nI (r + j + 1)) σ else some (nI j, σ)) w (by
      intro r'
      show f3_freeRows_B25 _ _ _ _ _ _ _ _ _ _ _ _ _ = _
      unfold f3_freeRows_B25
      simp (disch := omega) only [q_lit, q_gt, q_bd, q_bxl, q_bxr, q_vib, q_cl, q_pos, q_lt, q_le, q_eq, q_neg, q_neg1, q_negz, q_negeq0, q_neg0le, q_rem, q_div, q_sub, q_if1, q_if0, q_okB0, q_okB1, q_dz, q_dn, q_nb, and_true, true_and, and_false, false_and, nI_add, pk_mul, if_true, if_false, ite_true, ite_false, Nat.add_zero, Nat.zero_add, Nat.reduceAdd]) (by
      intro r' q hq hn
      replace hn : r' (nI (q + 1)) σ = if ∀ k, k < w - (q + 1) → σ (g + 1) (i + j * 5 + (q + 1 + k)) = nI 0 then r1 (nI (j + 1)) (nI (r + j + 1)) σ else some (nI j, σ) := hn
      show f3_freeRows_B25 _ _ _ _ _ _ _ _ _ _ _ _ _ = _
      unfold f3_freeRows_B25 f5_isCellIndex
      simp (disch := omega) only [q_lit, q_gt, q_bd, q_bxl, q_bxr, q_vib, q_cl, q_pos, q_lt, q_le, q_eq, q_neg, q_neg1, q_negz, q_negeq0, q_neg0le, q_rem, q_div, q_sub, q_if1, q_if0, q_okB0, q_okB1, q_dz, q_dn, q_nb, and_true, true_and, and_false, false_and, nI_add, pk_mul, if_true, if_false, ite_true, ite_false, Nat.add_zero, Nat.zero_add, Nat.reduceAdd]
      by_cases z : σ (g + 1) (i + j * 5 + q) = nI 0
      · rw [if_pos z, hn]
        refine q_ifc ?_
        constructor
        · intro a k hk
          rcases k with _ | k
          · exact z
          · have := a k (by omega)
            rw [show q + (k + 1) = q + 1 + k by omega]
            exact this
        · intro a k hk
          have := a (k + 1) (by omega)
          rw [show q + (k + 1) = q + 1 + k by omega] at this
          exact this
      · rw [if_neg z, if_neg (fun a => z (a 0 (by omega)))]) w 0 N (by omega) (by omega)
    replace inner : f3_freeRows_L25 N g (nI i) (nI w) (fun x3_8 σL8 => some (x3_8, σL8)) r1 (nI j) (nI (r + j)) (nI (i + j * 5)) (fun σL25 => r1 (nI (j + 1)) (nI (r + j + 1)) σL25) N (nI 0) σ = _ := inner
    rw [inner, hnext, show 24 - r - j = 24 - r - (j + 1) + 1 by omega, frn]
    have e2 : (∀ k, k < w - 0 → σ (g + 1) (i + j * 5 + (0 + k)) = nI 0) ↔ rwB (σ (g + 1)) (i + j * 5) w = true := by
      unfold rwB
      rw [decide_eq_true_iff]
      simp only [Nat.sub_zero, Nat.zero_add]
    by_cases z : rwB (σ (g + 1)) (i + j * 5) w = true
    · rw [if_pos (e2.mpr z), if_pos z, show i + (j + 1) * 5 = i + j * 5 + 5 by omega, Nat.add_assoc, Nat.add_comm 1]
    · rw [if_neg (fun a => z (e2.mp a)), if_neg z]
      rfl) (24 - r) 0 N (by omega) (by omega)
  unfold f3_freeRows f5_rowOf
  simp (disch := omega) only [q_lit, q_gt, q_bd, q_bxl, q_bxr, q_vib, q_cl, q_pos, q_lt, q_le, q_eq, q_neg, q_neg1, q_negz, q_negeq0, q_neg0le, q_rem, q_div, q_sub, q_if1, q_if0, q_okB0, q_okB1, q_dz, q_dn, q_nb, and_true, true_and, and_false, false_and, nI_add, pk_mul, if_true, if_false, ite_true, ite_false, Nat.add_zero, Nat.zero_add, Nat.reduceAdd]
  rw [show (i - i / 120 * 120) / 5 = r by omega]
  replace main : f3_freeRows_L8 N g (nI i) (nI w) (fun x3_8 σL8 => some (x3_8, σL8)) N (nI 0) (nI r) σ = _ := main
  rw [main]
  simp only [Nat.zero_add, Nat.sub_zero, Nat.zero_mul, Nat.add_zero]
