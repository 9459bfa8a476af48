/-! THE PURE PART. locate: both sides agree. -/
def locS (l w : Nat) : Nat → Nat
  | 0 => 0
  | c + 1 => locS l w c + locN l w c
theorem locS_mono (l w a : Nat) : ∀ b, a ≤ b → locS l w a ≤ locS l w b
  | 0, h => by
    rw [show a = 0 by omega]
    exact Nat.le_refl _
  | b + 1, h => by
    by_cases z : a = b + 1
    · rw [z]
      exact Nat.le_refl _
    · exact Nat.le_trans (locS_mono l w a b (by omega)) (Nat.le_add_right _ _)
theorem loc_find {l w o : Nat} (hw : 1 ≤ w) (hw3 : w ≤ 3) (ho : o < l) : ∃ c r, c < w ∧ r < locN l w c ∧ o = locS l w c + r ∧ r < (l + w - 1) / w := by
  obtain h | h | h : w = 1 ∨ w = 2 ∨ w = 3 := by omega
  · refine ⟨0, o, by omega, ?_, ?_, ?_⟩
    all_goals
      simp only [h, locS, locN]
      omega
  · by_cases z : o < (l + 1) / 2
    · refine ⟨0, o, by omega, ?_, ?_, ?_⟩
      all_goals
        simp only [h, locS, locN]
        omega
    · refine ⟨1, o - (l + 1) / 2, by omega, ?_, ?_, ?_⟩
      all_goals
        simp only [h, locS, locN]
        omega
  · by_cases z : o < (l + 2) / 3
    · refine ⟨0, o, by omega, ?_, ?_, ?_⟩
      all_goals
        simp only [h, locS, locN]
        omega
    · by_cases z2 : o < (l + 2) / 3 + (l + 1) / 3
      · refine ⟨1, o - (l + 2) / 3, by omega, ?_, ?_, ?_⟩
        all_goals
          simp only [h, locS, locN]
          omega
      · refine ⟨2, o - ((l + 2) / 3 + (l + 1) / 3), by omega, ?_, ?_, ?_⟩
        all_goals
          simp only [h, locS, locN]
          omega
theorem sumL_mono (Y : Ly) (s a : Nat) : ∀ b, a ≤ b → sumL Y s a ≤ sumL Y s b
  | 0, h => by
    rw [show a = 0 by omega]
    exact Nat.le_refl _
  | b + 1, h => by
    by_cases z : a = b + 1
    · rw [z]
      exact Nat.le_refl _
    · exact Nat.le_trans (sumL_mono Y s a b (by omega)) (Nat.le_add_right _ _)
theorem sum_find {Y : Ly} {s line : Nat} : ∀ n, line < sumL Y s n → ∃ q, q < n ∧ sumL Y s q ≤ line ∧ line < sumL Y s q + lp Y s q 5
  | 0, h => absurd h (Nat.not_lt_zero _)
  | n + 1, h => by
    by_cases z : line < sumL Y s n
    · obtain ⟨q, q1, q2⟩ := sum_find n z
      exact ⟨q, by omega, q2⟩
    · exact ⟨n, by omega, by omega, h⟩
theorem in_neg (N : Nat) (x : Nat) (σ : Hp) : f6_in N (nI x) 0 (nI 0 - 1) σ = some (nI 0, σ) := by
  unfold f6_in
  split
  · rfl
  · rename_i h
    apply if_pos
    have h2 : ¬ (nI x).toInt < 0 := fun q => h (by rw [Int32.lt_iff_toInt_lt]; exact q)
    rw [Int32.lt_iff_toInt_lt]
    have : (nI 0 - 1 : Int32).toInt = -1 := by decide
    omega
section LO
variable {σ : Hp} {D : Nat → Nat} {Y : Ly}
theorem locN_le (l w c : Nat) : locN l w c ≤ l + w := by
  unfold locN
  exact Nat.le_trans (Nat.div_le_self _ _) (by omega)
theorem s3_cellInPart (hP : PgW 56 σ Y) (hE : EdR σ 1 D) (N : Nat) (hN : 500 ≤ N) {s q c r o : Nat} (hs : s < 12) (hq : q < ln Y s) (hG : PartOk D Y s q) (hab : abv D s q ≤ 24) (hc : c < lp Y s q 3) (hr : r < locN (lp Y s q 5) (lp Y s q 3) c) (ho : o = locS (lp Y s q 5) (lp Y s q 3) c + r) (ho2 : o < 200) : f3_cellInPart N 56 (nI s) (nI q) (nI o) σ = some (nI (lp Y s q 0 * 120 + lp Y s q 2 * 5 + lp Y s q 1 + abv D s q * 5 + r * 5 + c), σ) := by
  have l4 := (hP.2.2.1 s hs).2.2.2
  obtain ⟨p0, p1, p2, p3, p4, p5, p6, p7, p8, p9, p10⟩ := hG
  have pn : ∀ k, k < 9 → f3_partNumber N 56 (nI s) (nI q) (nI k) σ = some (nI (lp Y s q k), σ) := fun k hk => s3_partNoY hP N hs hq hk
  have first : f3_firstCell N 56 (nI s) (nI q) σ = some (nI (lp Y s q 0 * 120 + lp Y s q 2 * 5 + lp Y s q 1), σ) := by
    unfold f3_firstCell f5_cellIndex
    simp (disch := omega) only [q_lit, q_gt, q_bd, q_bxl, q_bxr, q_vib, q_cl, q_pos, q_lt, q_le, q_eq, q_neg, q_neg1, q_negz, q_negeq0, q_neg0le, q_rem, q_div, q_sub, q_if1, q_if0, q_okB0, q_okB1, q_dz, q_dn, q_nb, and_true, true_and, and_false, false_and, nI_add, pk_mul, if_true, if_false, ite_true, ite_false, Nat.add_zero, Nat.zero_add, Nat.reduceAdd, pn]
  have fline : f3_firstLineCell N 56 (nI s) (nI q) σ = some (nI (lp Y s q 0 * 120 + lp Y s q 2 * 5 + lp Y s q 1 + abv D s q * 5), σ) := by
    unfold f3_firstLineCell
    simp (disch := omega) only [q_lit, q_gt, q_bd, q_bxl, q_bxr, q_vib, q_cl, q_pos, q_lt, q_le, q_eq, q_neg, q_neg1, q_negz, q_negeq0, q_neg0le, q_rem, q_div, q_sub, q_if1, q_if0, q_okB0, q_okB1, q_dz, q_dn, q_nb, and_true, true_and, and_false, false_and, nI_add, pk_mul, if_true, if_false, ite_true, ite_false, Nat.add_zero, Nat.zero_add, Nat.reduceAdd, first, pn, p10]
  unfold f3_cellInPart
  simp (disch := omega) only [q_lit, q_gt, q_bd, q_bxl, q_bxr, q_vib, q_cl, q_pos, q_lt, q_le, q_eq, q_neg, q_neg1, q_negz, q_negeq0, q_neg0le, q_rem, q_div, q_sub, q_if1, q_if0, q_okB0, q_okB1, q_dz, q_dn, q_nb, and_true, true_and, and_false, false_and, nI_add, pk_mul, if_true, if_false, ite_true, ite_false, Nat.add_zero, Nat.zero_add, Nat.reduceAdd, pn]
  clear p3 p4 p7 p8 p10 first
  generalize hl : lp Y s q 5 = l at *
  generalize hw : lp Y s q 3 = w at *
  have main := lpc (fun _ _ _ => none) (f3_cellInPart_B24 N 56 (nI s) (nI q) (nI o) (nI w) (nI l) (fun σL24 => some ((-1), σL24))) (fun t j => t (nI (o - locS l w j)) (nI j) σ) (some (nI (lp Y s q 0 * 120 + lp Y s q 2 * 5 + lp Y s q 1 + abv D s q * 5 + r * 5 + c), σ)) c (by
    intro t
    have b := locN_le l w c
    show f3_cellInPart_B24 _ _ _ _ _ _ _ _ _ _ _ _ = _
    rw [show o - locS l w c = r by omega]
    unfold f3_cellInPart_B24
    simp (disch := omega) only [q_lit, q_gt, q_bd, q_bxl, q_bxr, q_vib, q_cl, q_pos, q_lt, q_le, q_eq, q_neg, q_neg1, q_negz, q_negeq0, q_neg0le, q_rem, q_div, q_sub, q_if1, q_if0, q_okB0, q_okB1, q_dz, q_dn, q_nb, and_true, true_and, and_false, false_and, nI_add, pk_mul, if_true, if_false, ite_true, ite_false, Nat.add_zero, Nat.zero_add, Nat.reduceAdd, s3_loc, fline]) (by
    intro t j hj
    have b := locN_le l w j
    have m : locS l w j + locN l w j ≤ locS l w c := locS_mono l w (j + 1) c hj
    show f3_cellInPart_B24 _ _ _ _ _ _ _ _ _ _ _ _ = t (nI (o - (locS l w j + locN l w j))) (nI (j + 1)) σ
    rw [show o - (locS l w j + locN l w j) = o - locS l w j - locN l w j by omega]
    unfold f3_cellInPart_B24
    simp (disch := omega) only [q_lit, q_gt, q_bd, q_bxl, q_bxr, q_vib, q_cl, q_pos, q_lt, q_le, q_eq, q_neg, q_neg1, q_negz, q_negeq0, q_neg0le, q_rem, q_div, q_sub, q_if1, q_if0, q_okB0, q_okB1, q_dz, q_dn, q_nb, and_true, true_and, and_false, false_and, nI_add, pk_mul, if_true, if_false, ite_true, ite_false, Nat.add_zero, Nat.zero_add, Nat.reduceAdd, s3_loc]) (i := 0) (n := N) (by omega) (by omega)
  exact main
theorem s3_cellOfLine (hP : PgW 56 σ Y) (N : Nat) (hN : 500 ≤ N) {s line q : Nat} (hs : s < 12) (hq : q ≤ ln Y s) (hsum : sumL Y s q ≤ line) (hline : line < 200) (hG : ∀ q, q < ln Y s → PartOk D Y s q) (x : Int32) (E : Option (Int32 × Hp)) (hE : ∀ t, f3_cellOfLine_B2 N 56 (nI s) (nI line) (fun σL2 => some ((-1), σL2)) t (nI q) σ = E) : f3_cellOfLine N 56 (nI s) (nI line) σ = E := by
  have l4 := (hP.2.2.1 s hs).2.2.2
  have main := lpc (fun _ _ => none) (f3_cellOfLine_B2 N 56 (nI s) (nI line) (fun σL2 => some ((-1), σL2))) (fun t j => t (nI j) σ) E q hE (by
    intro t j hj
    have pn : ∀ k, k < 9 → f3_partNumber N 56 (nI s) (nI j) (nI k) σ = some (nI (lp Y s j k), σ) := fun k hk => s3_partNoY hP N hs (show j < ln Y s by omega) hk
    have m : sumL Y s j + lp Y s j 5 ≤ sumL Y s q := sumL_mono Y s (j + 1) q hj
    have p6 := (hG j (by omega)).2.2.2.2.2.2.2.1
    show f3_cellOfLine_B2 _ _ _ _ _ _ _ _ = _
    unfold f3_cellOfLine_B2 f3_cellOfLine_J53
    simp (disch := omega) only [q_lit, q_gt, q_bd, q_bxl, q_bxr, q_vib, q_cl, q_pos, q_lt, q_le, q_eq, q_neg, q_neg1, q_negz, q_negeq0, q_neg0le, q_rem, q_div, q_sub, q_if1, q_if0, q_okB0, q_okB1, q_dz, q_dn, q_nb, and_true, true_and, and_false, false_and, nI_add, pk_mul, if_true, if_false, ite_true, ite_false, Nat.add_zero, Nat.zero_add, Nat.reduceAdd, s3_partCount hP, pn, p6]) (i := 0) (n := N) (by omega) (by omega)
  exact main
theorem s6_locLoop (hR : RfR (fun s => dS D s 0 = 1) σ Y) (N : Nat) (hN : 500 ≤ N) {s line q : Nat} (hs : s < 12) (h0 : dS D s 0 = 1) (hq : q ≤ ln Y s) (hsum : sumL Y s q ≤ line) (hline : line < 200) (hG : ∀ q, q < ln Y s → PartOk D Y s q) (K : Hp → Option (Int32 × Hp)) (E : Option (Int32 × Hp)) (hE : ∀ t, f6_locate_B36 N (nI s) (nI line) K t (nI q) σ = E) : f6_locate_L36 N (nI s) (nI line) K N 0 σ = E := by
  obtain ⟨r1, r2, r3, r4, r5⟩ := hR.2.2 s hs h0
  have main := lpc (fun _ _ => none) (f6_locate_B36 N (nI s) (nI line) K) (fun t j => t (nI j) σ) E q hE (by
    intro t j hj
    have m : sumL Y s j + lp Y s j 5 ≤ sumL Y s q := sumL_mono Y s (j + 1) q hj
    have p6 := (hG j (by omega)).2.2.2.2.2.2.2.1
    have p9 := (hG j (by omega)).2.2.2.2.2.2.2.2.2.1
    have v6 := r5 j 6 (by omega) (by omega)
    have v5 := r5 j 5 (by omega) (by omega)
    rw [p6] at v6
    have e : inB (nI (line - sumL Y s j)) 0 (lp Y s j 5 - 1) = false ∨ lp Y s j 5 = 0 := by
      by_cases z : lp Y s j 5 = 0
      · exact Or.inr z
      · left
        rw [inB_nI (by omega) (by omega) (by omega)]
        exact decide_eq_false (by omega)
    show f6_locate_B36 _ _ _ _ _ _ _ = _
    unfold f6_locate_B36
    simp (disch := omega) only [q_lit, q_gt, q_bd, q_bxl, q_bxr, q_vib, q_cl, q_pos, q_lt, q_le, q_eq, q_neg, q_neg1, q_negz, q_negeq0, q_neg0le, q_rem, q_div, q_sub, q_if1, q_if0, q_okB0, q_okB1, q_dz, q_dn, q_nb, and_true, true_and, and_false, false_and, nI_add, pk_mul, if_true, if_false, ite_true, ite_false, Nat.add_zero, Nat.zero_add, Nat.reduceAdd, r1, v6, v5]
    have fin : f6_in N (nI (line - sumL Y s j)) 0 (nI (lp Y s j 5) - 1) σ = some (nI 0, σ) := by
      rcases e with e | e
      · by_cases z : lp Y s j 5 = 0
        · rw [z]
          exact in_neg N _ _
        · rw [show nI (lp Y s j 5) - 1 = nI (lp Y s j 5 - 1) from q_sub (a := lp Y s j 5) (b := 1) (by omega), show f6_in N (nI (line - sumL Y s j)) 0 (nI (lp Y s j 5 - 1)) σ = _ from s6_in N _ 0 _, e]
          rfl
      · rw [e]
        exact in_neg N _ _
    refine Eq.trans (congrArg (fun x => bd x _) (show _ = _ from fin)) ?_
    rw [q_bd]
    rfl) (i := 0) (n := N) (by omega) (by omega)
  exact main
theorem s6_locIn (N : Nat) (hN : 500 ≤ N) (P : Nat) (x1 x2 : Int32) {v : Nat → Nat} (hP : P + 8 ≤ 384) (hv : ∀ k, k < 8 → σ 94 (P + k) = nI (v k)) {c r o ab : Nat} (hw : 1 ≤ v 3) (hw3 : v 3 ≤ 3) (hl : v 5 ≤ 150) (h0 : v 0 ≤ 3) (h1 : v 1 ≤ 5) (h2 : v 2 ≤ 24) (hab : ab ≤ 24) (hc : c < v 3) (hr : r < locN (v 5) (v 3) c) (ho : o = locS (v 5) (v 3) c + r) (ho2 : o < 200) : f6_locate_J115 N x1 x2 (nI P) (nI o) (nI ab) (nI (v 2)) σ = some (nI (1000 * v 0 + 100 * (v 1 + c) + (v 2 + ab) + r), σ) := by
  have e0 := hv 0 (by omega)
  have e1 := hv 1 (by omega)
  have e3 := hv 3 (by omega)
  have e5 := hv 5 (by omega)
  rw [Nat.add_zero] at e0
  have hdm := Nat.div_mul_le_self (v 5) (v 3)
  have hdl := Nat.div_le_self (v 5) (v 3)
  have loop : ∀ x6 : Int32, f6_locate_L170 N x1 x2 (nI P) x6 (fun x5_170 x7_170 σL170 => gd (vib (nI P) 384) (gd (vib ((nI P) + 1) 384) (some ((((1000 * (σL170 94 (nI P).toNatClampNeg)) + (100 * ((σL170 94 ((nI P) + 1).toNatClampNeg) + x7_170))) + x6) + x5_170, σL170)))) N (nI o) (nI 0) (nI (locN (v 5) (v 3) 0)) σ = some ((nI (1000 * v 0 + 100 * (v 1 + c)) + x6) + nI r, σ) := by
    intro x6
    have main := lpc (fun _ _ _ _ => none) (f6_locate_B170 N x1 x2 (nI P) x6 (fun x5_170 x7_170 σL170 => gd (vib (nI P) 384) (gd (vib ((nI P) + 1) 384) (some ((((1000 * (σL170 94 (nI P).toNatClampNeg)) + (100 * ((σL170 94 ((nI P) + 1).toNatClampNeg) + x7_170))) + x6) + x5_170, σL170))))) (fun t j => t (nI (o - locS (v 5) (v 3) j)) (nI j) (nI (locN (v 5) (v 3) j)) σ) (some ((nI (1000 * v 0 + 100 * (v 1 + c)) + x6) + nI r, σ)) c (by
      intro t
      have b := locN_le (v 5) (v 3) c
      show f6_locate_B170 _ _ _ _ _ _ _ _ _ _ _ = _
      rw [show o - locS (v 5) (v 3) c = r by omega]
      unfold f6_locate_B170
      simp (disch := omega) only [q_lit, q_gt, q_bd, q_bxl, q_bxr, q_vib, q_cl, q_pos, q_lt, q_le, q_eq, q_neg, q_neg1, q_negz, q_negeq0, q_neg0le, q_rem, q_div, q_sub, q_if1, q_if0, q_okB0, q_okB1, q_dz, q_dn, q_nb, and_true, true_and, and_false, false_and, nI_add, pk_mul, if_true, if_false, ite_true, ite_false, Nat.add_zero, Nat.zero_add, Nat.reduceAdd, e0, e1]) (by
      intro t j hj
      have b := locN_le (v 5) (v 3) j
      have m : locS (v 5) (v 3) j + locN (v 5) (v 3) j ≤ locS (v 5) (v 3) c := locS_mono (v 5) (v 3) (j + 1) c hj
      have le := loc_eq (lines := v 5) (c := j + 1) hw hw3 (by omega)
      show f6_locate_B170 _ _ _ _ _ _ _ _ _ _ _ = t (nI (o - (locS (v 5) (v 3) j + locN (v 5) (v 3) j))) (nI (j + 1)) (nI (locN (v 5) (v 3) (j + 1))) σ
      rw [show o - (locS (v 5) (v 3) j + locN (v 5) (v 3) j) = o - locS (v 5) (v 3) j - locN (v 5) (v 3) j by omega]
      unfold f6_locate_B170 f6_locate_J235
      simp (disch := omega) only [q_lit, q_gt, q_bd, q_bxl, q_bxr, q_vib, q_cl, q_pos, q_lt, q_le, q_eq, q_neg, q_neg1, q_negz, q_negeq0, q_neg0le, q_rem, q_div, q_sub, q_if1, q_if0, q_okB0, q_okB1, q_dz, q_dn, q_nb, and_true, true_and, and_false, false_and, nI_add, pk_mul, if_true, if_false, ite_true, ite_false, Nat.add_zero, Nat.zero_add, Nat.reduceAdd, e3, e5]
      by_cases z : v 5 - v 5 / v 3 * v 3 ≤ j + 1
      · rw [if_pos z, le.1 z]
      · rw [if_neg z, le.2 z]) (i := 0) (n := N) (by omega) (by omega)
    exact main
  have le := loc_eq (lines := v 5) (c := 0) hw hw3 (by omega)
  unfold f6_locate_J115 f6_locate_J167
  simp (disch := omega) only [q_lit, q_gt, q_bd, q_bxl, q_bxr, q_vib, q_cl, q_pos, q_lt, q_le, q_eq, q_neg, q_neg1, q_negz, q_negeq0, q_neg0le, q_rem, q_div, q_sub, q_if1, q_if0, q_okB0, q_okB1, q_dz, q_dn, q_nb, and_true, true_and, and_false, false_and, nI_add, pk_mul, if_true, if_false, ite_true, ite_false, Nat.add_zero, Nat.zero_add, Nat.reduceAdd, e3, e5]
  have fin : ∀ y, y = locN (v 5) (v 3) 0 → f6_locate_L170 N x1 x2 (nI P) (nI (v 2 + ab)) (fun x5_170 x7_170 σL170 => gd (vib (nI P) 384) (gd (vib ((nI P) + 1) 384) (some ((((1000 * (σL170 94 (nI P).toNatClampNeg)) + (100 * ((σL170 94 ((nI P) + 1).toNatClampNeg) + x7_170))) + nI (v 2 + ab)) + x5_170, σL170)))) N (nI o) (nI 0) (nI y) σ = some (nI (1000 * v 0 + 100 * (v 1 + c) + (v 2 + ab) + r), σ) := by
    intro y hy
    rw [hy, loop (nI (v 2 + ab)), nI_add, nI_add]
  by_cases z : v 5 - v 5 / v 3 * v 3 ≤ 0
  · refine Eq.trans (if_pos (by simp only [Nat.le_zero_eq] at z ⊢; first | exact z | omega)) ?_
    refine Eq.trans ?_ (fin _ (le.1 z))
    simp (disch := omega) only [q_lit, q_gt, q_bd, q_bxl, q_bxr, q_vib, q_cl, q_pos, q_lt, q_le, q_eq, q_neg, q_neg1, q_negz, q_negeq0, q_neg0le, q_rem, q_div, q_sub, q_if1, q_if0, q_okB0, q_okB1, q_dz, q_dn, q_nb, and_true, true_and, and_false, false_and, nI_add, pk_mul, if_true, if_false, ite_true, ite_false, Nat.add_zero, Nat.zero_add, Nat.reduceAdd, e0, e1]
  · refine Eq.trans (if_neg (by simp only [Nat.le_zero_eq] at z ⊢; first | exact z | omega)) ?_
    refine Eq.trans ?_ (fin _ (le.2 z))
    simp (disch := omega) only [q_lit, q_gt, q_bd, q_bxl, q_bxr, q_vib, q_cl, q_pos, q_lt, q_le, q_eq, q_neg, q_neg1, q_negz, q_negeq0, q_neg0le, q_rem, q_div, q_sub, q_if1, q_if0, q_okB0, q_okB1, q_dz, q_dn, q_nb, and_true, true_and, and_false, false_and, nI_add, pk_mul, if_true, if_false, ite_true, ite_false, Nat.add_zero, Nat.zero_add, Nat.reduceAdd, e0, e1]
theorem case_locate (hI : Inv σ) (N : Nat) (hN : 500 ≤ N) (x1 x2 : Int32) : Agree (fL_locate N x1 x2) (f6_locate N x1 x2) σ := by
  refine qry hI N hN (fL_locate N x1 x2) (fun σ1 => bd (f6_isStory N x1 σ1) (fun r6 σ6 => if r6 = 0 then f6_locate_J28 N x1 x2 σ6 else bd (f6_of N x1 4 σ6) (fun r17 σ17 => bd (f6_in N x2 0 (r17 - 1) σ17) (fun r22 σ22 => if r22 = 0 then f6_locate_J28 N x1 x2 σ22 else f6_locate_L36 N x1 x2 (fun σL36 => bd (f6_fails N 2 σL36) (fun r283 σ283 => some (r283, σ283))) N 0 σ22)))) (fun D Y hC => ?_)
  rcases isS_cases hC.1 x1 with q | ⟨q, s, hs, rfl, h0⟩
  · refine ⟨1, 0, by omega, ?_, fun τ hτ => ?_⟩
    · unfold fL_locate f5_locate
      rw [s5_needStory hC.2.1 hC.1, q]
      rfl
    · rw [s6_isStory hτ.1 hC.1, q_bd, q]
      rfl
  · have hG := hC.2.2.2.2.2.1 s hs
    have hS := hC.1.2.2.1 s hs
    obtain ⟨a0, a1, a2, a3, a4, a5, a6, a7, a8, a9⟩ := hS
    have a9' := a9 h0
    have cls0 : f5_locate N (nI s) x2 σ = if x2 < 0 then some (.inr 1, σ) else if x2 < nI (dS D s 4) then bd (f3_cellOfLine N 56 (nI s) x2 σ) (fun r36 σ36 => if r36 = (-1 : Int32) then some (.inr 4, σ36) else bd (f5_pageOf N r36 σ36) (fun r57 σ57 => bd (f5_columnOf N r36 σ57) (fun r64 σ64 => bd (f5_rowOf N r36 σ64) (fun r70 σ70 => some (.inl (((1000 * r57) + (100 * r64)) + r70), σ70))))) else some (.inr 1, σ) := by
      unfold f5_locate
      rw [s5_needStory hC.2.1 hC.1, q, if_neg (show ¬ (1 : Nat) = 0 by decide), q_bxl, show f1_storyNumber N 1 (nI s) 3 σ = some (nI (dS D s (3 + 1)), σ) from s1_sn hC.2.1 hs (w := 3) (by omega) N, q_bd]
    have ref0 : ∀ τ, Asked τ D Y → bd (f6_isStory N (nI s) τ) (fun r6 σ6 => if r6 = 0 then f6_locate_J28 N (nI s) x2 σ6 else bd (f6_of N (nI s) 4 σ6) (fun r17 σ17 => bd (f6_in N x2 0 (r17 - 1) σ17) (fun r22 σ22 => if r22 = 0 then f6_locate_J28 N (nI s) x2 σ22 else f6_locate_L36 N (nI s) x2 (fun σL36 => bd (f6_fails N 2 σL36) (fun r283 σ283 => some (r283, σ283))) N 0 σ22))) = if inB x2 0 (dS D s 4 - 1) then f6_locate_L36 N (nI s) x2 (fun σL36 => bd (f6_fails N 2 σL36) (fun r283 σ283 => some (r283, σ283))) N 0 τ else f6_locate_J28 N (nI s) x2 τ := fun τ hτ => by
      rw [s6_isStory hτ.1 hC.1, q_bd, q, if_neg (show ¬ nI 1 = 0 by decide), show f6_of N (nI s) 4 τ = some (nI (dS D s 4), τ) from s6_of hτ.1 hs (k := 4) (by omega) N, q_bd, show nI (dS D s 4) - 1 = nI (dS D s 4 - 1) from q_sub (a := dS D s 4) (b := 1) (by omega), show f6_in N x2 0 (nI (dS D s 4 - 1)) τ = some (nI (b2 (inB x2 0 (dS D s 4 - 1))), τ) from s6_in N x2 0 _, q_bd]
      cases inB x2 0 (dS D s 4 - 1)
      · rfl
      · rfl
    cases e : inB x2 0 (dS D s 4 - 1)
    · refine ⟨1, 0, by omega, ?_, fun τ hτ => ?_⟩
      · have : f5_locate N (nI s) x2 σ = some (.inr 1, σ) := by
          rw [cls0]
          by_cases w : x2 < 0
          · exact if_pos w
          · rw [if_neg w]
            obtain ⟨k, hk, rfl⟩ := nI_of w
            rw [inB_nI hk (by omega) (by omega)] at e
            have := of_decide_eq_false e
            rw [if_neg (fun h => by rw [nI_ltI hk (by omega)] at h; omega)]
        unfold fL_locate
        rw [this]
        rfl
      · refine Eq.trans (ref0 τ hτ) ?_
        rw [e]
        rfl
    · obtain ⟨line, -, hl2, rfl⟩ := inB_some e (by omega) (by omega)
      have cls1 : f5_locate N (nI s) (nI line) σ = bd (f3_cellOfLine N 56 (nI s) (nI line) σ) (fun r36 σ36 => if r36 = (-1 : Int32) then some (.inr 4, σ36) else bd (f5_pageOf N r36 σ36) (fun r57 σ57 => bd (f5_columnOf N r36 σ57) (fun r64 σ64 => bd (f5_rowOf N r36 σ64) (fun r70 σ70 => some (.inl (((1000 * r57) + (100 * r64)) + r70), σ70))))) := by
        rw [cls0, if_neg (show ¬ nI line < 0 from nI_pos (by omega)), if_pos (show nI line < nI (dS D s 4) from (nI_ltI (by omega) (by omega)).mpr (by omega))]
      obtain ⟨g1, g2, g3, g4, g5⟩ := hG
      by_cases hit : line < ll Y s
      · rw [← g2] at hit
        obtain ⟨qq, hq, b1, b2⟩ := sum_find _ hit
        have hp := g5 qq hq
        obtain ⟨p0, p1, p2, p3, p4, p5, p6, p7, p8, p9, p10⟩ := id hp
        obtain ⟨c, r, c1, c2, c3, c4⟩ := loc_find (l := lp Y s qq 5) (w := lp Y s qq 3) (o := line - sumL Y s qq) p4 p5 (by omega)
        have hab : abv D s qq ≤ 24 := by
          generalize (lp Y s qq 5 + lp Y s qq 3 - 1) / lp Y s qq 3 = z at p6
          omega
        have hcell : lp Y s qq 2 + abv D s qq + r < 24 := by
          generalize (lp Y s qq 5 + lp Y s qq 3 - 1) / lp Y s qq 3 = z at p6 c4
          omega
        have hcell2 : f3_cellOfLine N 56 (nI s) (nI line) σ = some (nI (lp Y s qq 0 * 120 + lp Y s qq 2 * 5 + lp Y s qq 1 + abv D s qq * 5 + r * 5 + c), σ) := by
          refine s3_cellOfLine hC.2.2.1 N hN hs (q := qq) (by omega) b1 (by omega) g5 0 _ (fun t => ?_)
          have pn : ∀ k, k < 9 → f3_partNumber N 56 (nI s) (nI qq) (nI k) σ = some (nI (lp Y s qq k), σ) := fun k hk => s3_partNoY hC.2.2.1 N hs hq hk
          have inn := s3_cellInPart hC.2.2.1 hC.2.1 N hN hs hq hp hab c1 c2 c3 (by omega)
          unfold f3_cellOfLine_B2
          simp (disch := omega) only [q_lit, q_gt, q_bd, q_bxl, q_bxr, q_vib, q_cl, q_pos, q_lt, q_le, q_eq, q_neg, q_neg1, q_negz, q_negeq0, q_neg0le, q_rem, q_div, q_sub, q_if1, q_if0, q_okB0, q_okB1, q_dz, q_dn, q_nb, and_true, true_and, and_false, false_and, nI_add, pk_mul, if_true, if_false, ite_true, ite_false, Nat.add_zero, Nat.zero_add, Nat.reduceAdd, s3_partCount hC.2.2.1, pn, p7, inn]
        refine ⟨0, nI (1000 * lp Y s qq 0 + 100 * (lp Y s qq 1 + c) + (lp Y s qq 2 + abv D s qq) + r), by omega, ?_, fun τ hτ => ?_⟩
        · unfold fL_locate
          rw [cls1, hcell2, q_bd]
          have e1 : (lp Y s qq 0 * 120 + lp Y s qq 2 * 5 + lp Y s qq 1 + abv D s qq * 5 + r * 5 + c) / 120 = lp Y s qq 0 := by omega
          have e2 : (lp Y s qq 0 * 120 + lp Y s qq 2 * 5 + lp Y s qq 1 + abv D s qq * 5 + r * 5 + c) % 5 = lp Y s qq 1 + c := by omega
          have e3 : (lp Y s qq 0 * 120 + lp Y s qq 2 * 5 + lp Y s qq 1 + abv D s qq * 5 + r * 5 + c) % 120 / 5 = lp Y s qq 2 + abv D s qq + r := by omega
          have lt : lp Y s qq 0 * 120 + lp Y s qq 2 * 5 + lp Y s qq 1 + abv D s qq * 5 + r * 5 + c < 480 := by omega
          generalize lp Y s qq 0 * 120 + lp Y s qq 2 * 5 + lp Y s qq 1 + abv D s qq * 5 + r * 5 + c = i at e1 e2 e3 lt
          unfold f5_pageOf f5_columnOf f5_rowOf
          simp (disch := omega) only [q_lit, q_gt, q_bd, q_bxl, q_bxr, q_vib, q_cl, q_pos, q_lt, q_le, q_eq, q_neg, q_neg1, q_negz, q_negeq0, q_neg0le, q_rem, q_div, q_sub, q_if1, q_if0, q_okB0, q_okB1, q_dz, q_dn, q_nb, and_true, true_and, and_false, false_and, nI_add, pk_mul, if_true, if_false, ite_true, ite_false, Nat.add_zero, Nat.zero_add, Nat.reduceAdd, e1]
          rw [show i - i / 5 * 5 = lp Y s qq 1 + c by omega, show (i - lp Y s qq 0 * 120) / 5 = lp Y s qq 2 + abv D s qq + r by omega, show 1000 * lp Y s qq 0 + 100 * (lp Y s qq 1 + c) + (lp Y s qq 2 + abv D s qq + r) = 1000 * lp Y s qq 0 + 100 * (lp Y s qq 1 + c) + (lp Y s qq 2 + abv D s qq) + r by omega]
          rfl
        · refine Eq.trans (ref0 τ hτ) ?_
          rw [e, if_pos rfl, if_pos rfl]
          obtain ⟨r1, r2, r3, r4, r5⟩ := hτ.2.1.2.2 s hs h0
          refine s6_locLoop hτ.2.1 N hN hs h0 (q := qq) (by omega) b1 (by omega) g5 _ _ (fun t => ?_)
          have v2 := r5 qq 2 hq (by omega)
          have v5 := r5 qq 5 hq (by omega)
          have v6 := r5 qq 6 hq (by omega)
          rw [p7] at v6
          have inn : inB (nI (line - sumL Y s qq)) 0 (lp Y s qq 5 - 1) = true := by
            rw [inB_nI (by omega) (by omega) (by omega)]
            exact decide_eq_true (by omega)
          have J := s6_locIn (σ := τ) N hN (8 * (4 * s + qq)) (nI s) (nI line) (v := fun k => lp Y s qq k) (by omega) (fun k hk => r5 qq k hq hk) (ab := abv D s qq) p4 p5 p9 p0 (by omega) (by omega) hab c1 c2 c3 (by omega)
          have fin : f6_in N (nI (line - sumL Y s qq)) (nI 0) (nI (lp Y s qq 5 - 1)) τ = some (nI 1, τ) := by
            rw [s6_in N (nI (line - sumL Y s qq)) 0 (lp Y s qq 5 - 1), inn]
            rfl
          unfold f6_locate_B36
          by_cases z : qq = 0
          · rw [show abv D s qq = hd D s from if_pos z] at J ⊢
            simp (disch := omega) only [q_lit, q_gt, q_bd, q_bxl, q_bxr, q_vib, q_cl, q_pos, q_lt, q_le, q_eq, q_neg, q_neg1, q_negz, q_negeq0, q_neg0le, q_rem, q_div, q_sub, q_if1, q_if0, q_okB0, q_okB1, q_dz, q_dn, q_nb, and_true, true_and, and_false, false_and, nI_add, pk_mul, if_true, if_false, ite_true, ite_false, Nat.add_zero, Nat.zero_add, Nat.reduceAdd, r1, v2, v5, v6, fin, s6_head hτ.1]
            exact J
          · rw [show abv D s qq = 1 from if_neg z] at J ⊢
            simp (disch := omega) only [q_lit, q_gt, q_bd, q_bxl, q_bxr, q_vib, q_cl, q_pos, q_lt, q_le, q_eq, q_neg, q_neg1, q_negz, q_negeq0, q_neg0le, q_rem, q_div, q_sub, q_if1, q_if0, q_okB0, q_okB1, q_dz, q_dn, q_nb, and_true, true_and, and_false, false_and, nI_add, pk_mul, if_true, if_false, ite_true, ite_false, Nat.add_zero, Nat.zero_add, Nat.reduceAdd, r1, v2, v5, v6, fin]
            exact J
      · have sum : sumL Y s (ln Y s) ≤ line := by omega
        refine ⟨2, 0, by omega, ?_, fun τ hτ => ?_⟩
        · have : f3_cellOfLine N 56 (nI s) (nI line) σ = some (-1, σ) := by
            refine s3_cellOfLine hC.2.2.1 N hN hs (q := ln Y s) (Nat.le_refl _) sum (by omega) g5 0 _ (fun t => ?_)
            unfold f3_cellOfLine_B2
            simp (disch := omega) only [q_lit, q_gt, q_bd, q_bxl, q_bxr, q_vib, q_cl, q_pos, q_lt, q_le, q_eq, q_neg, q_neg1, q_negz, q_negeq0, q_neg0le, q_rem, q_div, q_sub, q_if1, q_if0, q_okB0, q_okB1, q_dz, q_dn, q_nb, and_true, true_and, and_false, false_and, nI_add, pk_mul, if_true, if_false, ite_true, ite_false, Nat.add_zero, Nat.zero_add, Nat.reduceAdd, s3_partCount hC.2.2.1]
          unfold fL_locate
          rw [cls1, this]
          rfl
        · refine Eq.trans (ref0 τ hτ) ?_
          rw [e, if_pos rfl, if_neg (by decide)]
          obtain ⟨r1, r2, r3, r4, r5⟩ := hτ.2.1.2.2 s hs h0
          refine s6_locLoop hτ.2.1 N hN hs h0 (q := ln Y s) (Nat.le_refl _) sum (by omega) g5 _ _ (fun t => ?_)
          unfold f6_locate_B36 f6_fails
          simp (disch := omega) only [q_lit, q_gt, q_bd, q_bxl, q_bxr, q_vib, q_cl, q_pos, q_lt, q_le, q_eq, q_neg, q_neg1, q_negz, q_negeq0, q_neg0le, q_rem, q_div, q_sub, q_if1, q_if0, q_okB0, q_okB1, q_dz, q_dn, q_nb, and_true, true_and, and_false, false_and, nI_add, pk_mul, if_true, if_false, ite_true, ite_false, Nat.add_zero, Nat.zero_add, Nat.reduceAdd, r1]
end LO
