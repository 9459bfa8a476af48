/-! THE PURE PART. trim, cellCount, advertisement, report, feed: both sides agree. -/
section Q3
variable {σ : Hp}
theorem case_trim (hI : Inv σ) (N : Nat) (hN : 500 ≤ N) (x1 : Int32) : Agree (fL_trim N x1) (f6_trim N x1) σ := by
  refine qry hI N hN (fL_trim N x1) (fun σ1 => bd (f6_isStory N x1 σ1) (fun r6 σ6 => if r6 = 0 then bd (f6_fails N 1 σ6) (fun r14 σ14 => some (r14, σ14)) else gd (vib x1 12) (if 0 ≤ (σ6 92 x1.toNatClampNeg) then bd (f6_of N x1 4 σ6) (fun r39 σ39 => bd (f6_of N x1 2 σ39) (fun r45 σ45 => gd (vib x1 12) (some (if (0 : Int32) < (r39 - (r45 * (σ45 95 x1.toNatClampNeg))) then (r39 - (r45 * (σ45 95 x1.toNatClampNeg))) else (0 : Int32), σ45)))) else bd (f6_fails N 2 σ6) (fun r29 σ29 => some (r29, σ29))))) (fun D Y hC => ?_)
  rcases isS_cases hC.1 x1 with q | ⟨q, s, hs, rfl, h0⟩
  · refine ⟨1, 0, by omega, ?_, fun τ hτ => ?_⟩
    · unfold fL_trim f5_trim
      rw [s5_needStory hC.2.1 hC.1, q]
      rfl
    · rw [s6_isStory hτ.1 hC.1, q_bd, q]
      rfl
  · have hG := hC.2.2.2.2.2.1 s hs
    by_cases z : ln Y s = 0
    · refine ⟨2, 0, by omega, ?_, fun τ hτ => ?_⟩
      · have e1 : f3_isLeftOut N 56 (nI s) σ = some (nI 1, σ) := by rw [s3_isLeftOut hC.2.2.1 N hs, if_pos z]
        unfold fL_trim f5_trim
        rw [s5_needStory hC.2.1 hC.1, q, if_neg (show ¬ (1 : Nat) = 0 by decide), q_bxl]
        simp (disch := omega) only [q_lit, q_gt, q_bd, q_bxl, q_bxr, q_vib, q_cl, q_pos, q_lt, q_le, q_eq, q_neg, q_neg1, q_negz, q_negeq0, q_neg0le, q_rem, q_div, q_sub, q_if1, q_if0, q_okB0, q_okB1, q_dz, q_dn, q_nb, and_true, true_and, and_false, false_and, nI_add, pk_mul, if_true, if_false, ite_true, ite_false, Nat.add_zero, Nat.zero_add, Nat.reduceAdd, e1]
        rfl
      · have r3 := (hτ.2.1.2.2 s hs h0).2.2.1
        rw [if_pos z] at r3
        rw [s6_isStory hτ.1 hC.1, q_bd, q]
        unfold f6_fails
        simp (disch := omega) only [q_lit, q_gt, q_bd, q_bxl, q_bxr, q_vib, q_cl, q_pos, q_lt, q_le, q_eq, q_neg, q_neg1, q_negz, q_negeq0, q_neg0le, q_rem, q_div, q_sub, q_if1, q_if0, q_okB0, q_okB1, q_dz, q_dn, q_nb, and_true, true_and, and_false, false_and, nI_add, pk_mul, if_true, if_false, ite_true, ite_false, Nat.add_zero, Nat.zero_add, Nat.reduceAdd, r3]
    · have p0 := (hG.2.2.2.2 0 (by omega)).1
      refine ⟨0, if (0 : Int32) < nI (dS D s 4) - nI (dS D s 2) * nI (ld Y s) then nI (dS D s 4) - nI (dS D s 2) * nI (ld Y s) else 0, by omega, ?_, fun τ hτ => ?_⟩
      · have e1 : f3_isLeftOut N 56 (nI s) σ = some (nI 0, σ) := by rw [s3_isLeftOut hC.2.2.1 N hs, if_neg z]
        unfold fL_trim f5_trim f3_linesAtStart f3_linesAtStart_J17
        rw [s5_needStory hC.2.1 hC.1, q, if_neg (show ¬ (1 : Nat) = 0 by decide), q_bxl, e1, q_bd, if_pos (show nI 0 = 0 from rfl), show f1_storyNumber N 1 (nI s) 3 σ = some (nI (dS D s 4), σ) from s1_sn hC.2.1 hs (w := 3) (by omega) N, q_bd, s5_isStoryIndex hs, q_bd, if_neg (show ¬ nI 1 = 0 by decide), q_vib hs (by omega), q_gt, q_cl (by omega), (hC.2.2.1.2.2.1 s hs).2.2.1, show f1_storyNumber N (edOf 56) (nI s) 1 σ = some (nI (dS D s 2), σ) from s1_sn hC.2.1 hs (w := 1) (by omega) N, q_bd, q_bd]
        rfl
      · obtain ⟨r1, r2, r3, r4, r5⟩ := hτ.2.1.2.2 s hs h0
        rw [if_neg z] at r3
        rw [s6_isStory hτ.1 hC.1, q_bd, q, if_neg (show ¬ nI 1 = 0 by decide), q_vib hs (by omega), q_gt, q_cl (by omega), r3, if_pos (show (0 : Int32) ≤ nI (lp Y s 0 0) from nI_pos' (by omega)), show f6_of N (nI s) 4 τ = some (nI (dS D s 4), τ) from s6_of hτ.1 hs (k := 4) (by omega) N, q_bd, show f6_of N (nI s) 2 τ = some (nI (dS D s 2), τ) from s6_of hτ.1 hs (k := 2) (by omega) N, q_bd, r4 (by omega)]
        rfl
def kdB (Y : Ly) (p : Nat) (x : Int32) (t : Nat) : Bool := decide (lc Y (120 * p + t) = x)
theorem s3_cellsOfKind {g : Nat} {Y : Ly} (hP : PgW g σ Y) (N : Nat) (hN : 500 ≤ N) {p : Nat} (hp : p ≤ 3) (x : Int32) : f3_cellsOfKind N g (nI p) x σ = some (nI (cntB (kdB Y p x) 120), σ) := by
  have main := lpc (fun _ _ _ => none) (f3_cellsOfKind_B8 N g (nI p) x (fun x3_8 σL8 => some (x3_8, σL8))) (fun t j => t (nI (cntB (kdB Y p x) j)) (nI (p * 120 + j)) σ) (some (nI (cntB (kdB Y p x) 120), σ)) 120 (by
    intro r
    show f3_cellsOfKind_B8 _ _ _ _ _ _ _ _ _ = _
    unfold f3_cellsOfKind_B8
    simp (disch := omega) only [q_lit, q_gt, q_bd, q_bxl, q_bxr, q_vib, q_cl, q_pos, q_lt, q_le, q_eq, q_neg, q_neg1, q_negz, q_negeq0, q_neg0le, q_rem, q_div, q_sub, q_if1, q_if0, q_okB0, q_okB1, q_dz, q_dn, q_nb, and_true, true_and, and_false, false_and, nI_add, pk_mul, if_true, if_false, ite_true, ite_false, Nat.add_zero, Nat.zero_add, Nat.reduceAdd]) (by
    intro r j hj
    have hc := cntB_le (kdB Y p x) j
    show f3_cellsOfKind_B8 _ _ _ _ _ _ _ _ _ = r (nI (cntB (kdB Y p x) j + if kdB Y p x j then 1 else 0)) (nI (p * 120 + j + 1)) σ
    have hb : kdB Y p x j = decide (lc Y (120 * p + j) = x) := rfl
    unfold f3_cellsOfKind_B8 f3_cellsOfKind_J32
    simp (disch := omega) only [q_lit, q_gt, q_bd, q_bxl, q_bxr, q_vib, q_cl, q_pos, q_lt, q_le, q_eq, q_neg, q_neg1, q_negz, q_negeq0, q_neg0le, q_rem, q_div, q_sub, q_if1, q_if0, q_okB0, q_okB1, q_dz, q_dn, q_nb, and_true, true_and, and_false, false_and, nI_add, pk_mul, if_true, if_false, ite_true, ite_false, Nat.add_zero, Nat.zero_add, Nat.reduceAdd, s3_kindAt hP]
    rw [show p * 120 + j = 120 * p + j by omega]
    by_cases z : lc Y (120 * p + j) = x
    · rw [if_pos z, hb, decide_eq_true z, if_pos rfl]
    · rw [if_neg z, hb, decide_eq_false z]
      rfl) (i := 0) (n := N) (by omega) (by omega)
  unfold f3_cellsOfKind
  simp (disch := omega) only [q_lit, q_gt, q_bd, q_bxl, q_bxr, q_vib, q_cl, q_pos, q_lt, q_le, q_eq, q_neg, q_neg1, q_negz, q_negeq0, q_neg0le, q_rem, q_div, q_sub, q_if1, q_if0, q_okB0, q_okB1, q_dz, q_dn, q_nb, and_true, true_and, and_false, false_and, nI_add, pk_mul, if_true, if_false, ite_true, ite_false, Nat.add_zero, Nat.zero_add, Nat.reduceAdd]
  exact main
theorem s6_cellCount {Y : Ly} {P : Nat → Prop} (hR : RfR P σ Y) (N : Nat) (hN : 500 ≤ N) {p : Nat} (hp : p ≤ 3) (x : Int32) : f6_cellCount_L40 N (nI p) x (fun x3_40 σL40 => some (x3_40, σL40)) N 0 0 σ = some (nI (cntB (kdB Y p x) 120), σ) := by
  have main := lpc (fun _ _ _ => none) (f6_cellCount_B40 N (nI p) x (fun x3_40 σL40 => some (x3_40, σL40))) (fun t j => t (nI (cntB (kdB Y p x) j)) (nI j) σ) (some (nI (cntB (kdB Y p x) 120), σ)) 120 (by
    intro r
    show f6_cellCount_B40 _ _ _ _ _ _ _ _ = _
    unfold f6_cellCount_B40
    simp (disch := omega) only [q_lit, q_gt, q_bd, q_bxl, q_bxr, q_vib, q_cl, q_pos, q_lt, q_le, q_eq, q_neg, q_neg1, q_negz, q_negeq0, q_neg0le, q_rem, q_div, q_sub, q_if1, q_if0, q_okB0, q_okB1, q_dz, q_dn, q_nb, and_true, true_and, and_false, false_and, nI_add, pk_mul, if_true, if_false, ite_true, ite_false, Nat.add_zero, Nat.zero_add, Nat.reduceAdd]) (by
    intro r j hj
    have hc := cntB_le (kdB Y p x) j
    show f6_cellCount_B40 _ _ _ _ _ _ _ _ = r (nI (cntB (kdB Y p x) j + if kdB Y p x j then 1 else 0)) (nI (j + 1)) σ
    have hb : kdB Y p x j = decide (lc Y (120 * p + j) = x) := rfl
    unfold f6_cellCount_B40 f6_cellCount_J69
    simp (disch := omega) only [q_lit, q_gt, q_bd, q_bxl, q_bxr, q_vib, q_cl, q_pos, q_lt, q_le, q_eq, q_neg, q_neg1, q_negz, q_negeq0, q_neg0le, q_rem, q_div, q_sub, q_if1, q_if0, q_okB0, q_okB1, q_dz, q_dn, q_nb, and_true, true_and, and_false, false_and, nI_add, pk_mul, if_true, if_false, ite_true, ite_false, Nat.add_zero, Nat.zero_add, Nat.reduceAdd, hR.1]
    by_cases z : lc Y (120 * p + j) = x
    · rw [if_pos z, hb, decide_eq_true z, if_pos rfl]
    · rw [if_neg z, hb, decide_eq_false z]
      rfl) (i := 0) (n := N) (by omega) (by omega)
  exact main
theorem case_cellCount (hI : Inv σ) (N : Nat) (hN : 500 ≤ N) (x1 x2 : Int32) : Agree (fL_cellCount N x1 x2) (f6_cellCount N x1 x2) σ := by
  refine qry hI N hN (fL_cellCount N x1 x2) (fun σ1 => bd (f6_in N x1 0 3 σ1) (fun r7 σ7 => if r7 = 0 then bd (f6_fails N 1 σ7) (fun r15 σ15 => some (r15, σ15)) else bd (f6_in N x2 0 8 σ7) (fun r23 σ23 => if r23 = 0 then bd (f6_fails N 2 σ23) (fun r31 σ31 => some (r31, σ31)) else f6_cellCount_L40 N x1 x2 (fun x3_40 σL40 => some (x3_40, σL40)) N 0 0 σ23))) (fun D Y hC => ?_)
  have np : f5_needPage N x1 σ = if inB x1 0 3 then some (.inl (), σ) else some (.inr 1, σ) := by
    unfold f5_needPage
    rw [s5_isPage, q_bd]
    cases inB x1 0 3
    · rfl
    · rfl
  cases e : inB x1 0 3
  · refine ⟨1, 0, by omega, ?_, fun τ hτ => ?_⟩
    · unfold fL_cellCount f5_cellCount
      rw [np, e]
      rfl
    · rw [show f6_in N x1 0 3 τ = some (nI (b2 (inB x1 0 3)), τ) from s6_in N x1 0 3, q_bd, e]
      rfl
  · obtain ⟨p, p1, p2, rfl⟩ := inB_some e (by decide) (by decide)
    cases e2 : inB x2 0 8
    · refine ⟨2, 0, by omega, ?_, fun τ hτ => ?_⟩
      · unfold fL_cellCount f5_cellCount
        rw [np, e, if_pos rfl, q_bxl]
        have := in_cls3 (α := Option ((Int32 ⊕ Nat) × Hp)) x2 0 8 (some (.inr 2, σ)) (bd (f3_cellsOfKind N 56 (nI p) x2 σ) (fun r28 σ28 => some (.inl r28, σ28)))
        rw [e2] at this
        refine Eq.trans (congrArg (fun x => bh x _ _) (show _ = _ from this)) ?_
        rfl
      · rw [show f6_in N (nI p) 0 3 τ = some (nI (b2 (inB (nI p) 0 3)), τ) from s6_in N (nI p) 0 3, q_bd, e, if_neg (show ¬ nI (b2 true) = 0 by decide), show f6_in N x2 0 8 τ = some (nI (b2 (inB x2 0 8)), τ) from s6_in N x2 0 8, q_bd, e2]
        rfl
    · refine ⟨0, nI (cntB (kdB Y p x2) 120), by omega, ?_, fun τ hτ => ?_⟩
      · unfold fL_cellCount f5_cellCount
        rw [np, e, if_pos rfl, q_bxl]
        have := in_cls3 (α := Option ((Int32 ⊕ Nat) × Hp)) x2 0 8 (some (.inr 2, σ)) (bd (f3_cellsOfKind N 56 (nI p) x2 σ) (fun r28 σ28 => some (.inl r28, σ28)))
        rw [e2, if_pos rfl] at this
        refine Eq.trans (congrArg (fun x => bh x _ _) (show _ = _ from this)) ?_
        rw [s3_cellsOfKind hC.2.2.1 N hN p2, q_bd]
        rfl
      · rw [show f6_in N (nI p) 0 3 τ = some (nI (b2 (inB (nI p) 0 3)), τ) from s6_in N (nI p) 0 3, q_bd, e, if_neg (show ¬ nI (b2 true) = 0 by decide), show f6_in N x2 0 8 τ = some (nI (b2 (inB x2 0 8)), τ) from s6_in N x2 0 8, q_bd, e2, if_neg (show ¬ nI (b2 true) = 0 by decide), s6_cellCount hτ.2.1 N hN p2]
        rfl
/-- calls on which the reference does not lay out -/
theorem qry0 (hI : Inv σ) (N : Nat) (A B : Hp → Option (Int32 × Hp)) (h : ∀ D, Core σ D → ∃ f r, f < 10 ∧ A σ = some (nI f, if f = 0 then st σ 100 0 r else σ) ∧ ∀ τ, (∀ k, k ≠ 100 → τ k = σ k) → B τ = if f = 0 then some (r, st τ 84 0 (nI 0)) else some (nI 0, st (st τ 84 0 (nI 0)) 84 0 (nI f))) : Agree A B σ := by
  obtain ⟨D, hc, hrest⟩ := id hI
  obtain ⟨f, r, hf, hA, hB⟩ := h D hc
  by_cases z : f = 0
  · rw [if_pos z] at hA
    have hb := hB (st σ 100 0 r) (fun k hk => st_row _ _ _ _ hk)
    rw [if_pos z] at hb
    exact ⟨f, _, r, _, hf, hA, hb, by rw [st_same, z], fun _ => by rw [st_row _ _ _ _ (by omega), st_same], inv_keep hI (fun k hk => by rw [st_row _ _ _ _ (by omega), st_row _ _ _ _ (by omega)]) (fun i i1 i2 => by rw [st_ne _ _ _ _ (Or.inr i1), st_row _ _ _ _ (by omega)])⟩
  · rw [if_neg z] at hA
    have hb := hB σ (fun _ _ => rfl)
    rw [if_neg z] at hb
    exact ⟨f, _, nI 0, _, hf, hA, hb, st_same _ _ _ _, fun q => absurd q z, inv_keep hI (fun k hk => by rw [st_row _ _ _ _ (by omega), st_row _ _ _ _ (by omega)]) (fun i i1 i2 => by rw [st_ne _ _ _ _ (Or.inr i1), st_ne _ _ _ _ (Or.inr i1)])⟩
theorem case_report (hI : Inv σ) (N : Nat) (x1 x2 : Int32) : Agree (fL_report N x1 x2) (f6_report N x1 x2) σ := by
  obtain ⟨-, -, -, -, -, -, -, hRep⟩ := id hI
  refine qry0 hI N _ _ (fun D hc => ?_)
  have cls3 := fun (y z : Option ((Int32 ⊕ Nat) × Hp)) => in_cls3 x1 0 1 y z
  have cls4 := fun (y z : Option ((Int32 ⊕ Nat) × Hp)) => in_cls3 x2 0 1 y z
  rcases hRep with ⟨a1, a2⟩ | ⟨a1, a, b, a2, a3, a4, a5, a6⟩
  · refine ⟨1, 0, by omega, ?_, fun τ e => ?_⟩
    · unfold fL_report f5_report
      rw [a1]
      rfl
    · unfold f6_report f6_report_J21 f6_fails
      have : (st τ 84 0 0) 84 21 = -nI 1 := by rw [st_ne _ _ _ _ (Or.inr (by omega)), e 84 (by omega)]; exact a2
      rw [this]
      rfl
  · have t21 : ∀ τ, (∀ k, k ≠ 100 → τ k = σ k) → (st τ 84 0 0) 84 21 = nI a := fun τ e => by rw [st_ne _ _ _ _ (Or.inr (by omega)), e 84 (by omega)]; exact a4
    have t22 : ∀ τ, (∀ k, k ≠ 100 → τ k = σ k) → (st τ 84 0 0) 84 22 = nI b := fun τ e => by rw [st_ne _ _ _ _ (Or.inr (by omega)), e 84 (by omega)]; exact a6
    have neg : ¬ nI a < 0 := nI_pos (by omega)
    have clsE : f5_report N x1 x2 σ = if inB x1 0 1 then (if inB x2 0 1 then (if x2 = 0 then some (.inl (x1 + 1), σ) else if x1 = 0 then some (.inl (σ 0 10), σ) else some (.inl (σ 0 11), σ)) else some (.inr 2, σ)) else some (.inr 4, σ) := by
      unfold f5_report
      rw [a1, if_neg (show ¬ nI 1 = 0 by decide)]
      rw [← cls4, ← cls3]
      rfl
    cases e1 : inB x1 0 1
    · refine ⟨1, 0, by omega, ?_, fun τ e => ?_⟩
      · unfold fL_report
        rw [clsE, e1]
        rfl
      · unfold f6_report f6_report_J21 f6_fails
        rw [t21 τ e, if_neg neg, show f6_in N x1 0 1 (st τ 84 0 0) = some (nI (b2 (inB x1 0 1)), st τ 84 0 0) from s6_in N x1 0 1, q_bd, e1]
        rfl
    · cases e2 : inB x2 0 1
      · refine ⟨2, 0, by omega, ?_, fun τ e => ?_⟩
        · unfold fL_report
          rw [clsE, e1, e2]
          rfl
        · unfold f6_report f6_report_J21 f6_fails
          rw [t21 τ e, if_neg neg, show f6_in N x1 0 1 (st τ 84 0 0) = some (nI (b2 (inB x1 0 1)), st τ 84 0 0) from s6_in N x1 0 1, q_bd, e1, if_neg (show ¬ nI (b2 true) = 0 by decide), show f6_in N x2 0 1 (st τ 84 0 0) = some (nI (b2 (inB x2 0 1)), st τ 84 0 0) from s6_in N x2 0 1, q_bd, e2]
          rfl
      · obtain ⟨u, u1, u2, rfl⟩ := inB_some e1 (by decide) (by decide)
        refine ⟨0, if x2 = 0 then nI u + 1 else if nI u = 0 then nI a else nI b, by omega, ?_, fun τ e => ?_⟩
        · unfold fL_report
          rw [clsE, e1, e2, if_pos rfl, if_pos rfl, a3, a5]
          by_cases w : x2 = 0
          · rw [if_pos w, if_pos w]
            rfl
          · rw [if_neg w, if_neg w]
            by_cases w2 : nI u = 0
            · rw [if_pos w2, if_pos w2]
              rfl
            · rw [if_neg w2, if_neg w2]
              rfl
        · unfold f6_report f6_report_J21 f6_fails
          rw [t21 τ e, if_neg neg, show f6_in N (nI u) 0 1 (st τ 84 0 0) = some (nI (b2 (inB (nI u) 0 1)), st τ 84 0 0) from s6_in N (nI u) 0 1, q_bd, e1, if_neg (show ¬ nI (b2 true) = 0 by decide), show f6_in N x2 0 1 (st τ 84 0 0) = some (nI (b2 (inB x2 0 1)), st τ 84 0 0) from s6_in N x2 0 1, q_bd, e2, if_neg (show ¬ nI (b2 true) = 0 by decide)]
          by_cases w : x2 = 0
          · rw [if_pos w, if_pos w, show (1 : Int32) + nI u = nI u + 1 from Int32.add_comm _ _]
            rfl
          · rw [if_neg w, if_neg w, t21 τ e, t22 τ e]
            by_cases w2 : nI u = 0
            · rw [if_pos w2, if_pos w2]
              rfl
            · rw [if_neg w2, if_neg w2]
              rfl
end Q3
