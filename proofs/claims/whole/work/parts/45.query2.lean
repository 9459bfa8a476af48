/-! THE PURE PART. Queries: story, fate, trim, cellCount. -/
section Q2
variable {σ : Hp} {D : Nat → Nat} {Y : Ly}
theorem s3_linesCutW {g : Nat} (hP : PgW g σ Y) (hE : EdR σ (edOf g) D) (N s : Nat) (hs : s < 12) (h : ll Y s ≤ dS D s 4) : f3_linesCut N g (nI s) σ = some (nI (dS D s 4 - ll Y s), σ) := by
  unfold f3_linesCut f3_linesOnPages
  simp (disch := omega) only [q_lit, q_gt, q_bd, q_bxl, q_bxr, q_vib, q_cl, q_pos, q_lt, q_le, q_eq, q_neg, q_neg1, q_negz, q_negeq0, q_neg0le, q_rem, q_div, q_sub, q_if1, q_if0, q_okB0, q_okB1, q_dz, q_dn, q_nb, and_true, true_and, and_false, false_and, nI_add, pk_mul, if_true, if_false, ite_true, ite_false, Nat.add_zero, Nat.zero_add, Nat.reduceAdd, s1_sn hE, s5_isStoryIndex, (hP.2.2.1 s hs).2.1]
theorem s6_linesOn (hR : RfR (fun s => dS D s 0 = 1) σ Y) (N : Nat) (hN : 500 ≤ N) {s : Nat} (hs : s < 12) (h0 : dS D s 0 = 1) (hG : GoodS D Y s) (hS : SOk D s) : f6_linesOn N (nI s) σ = some (nI (ll Y s), σ) := by
  obtain ⟨r1, r2, r3, r4, r5⟩ := hR.2.2 s hs h0
  obtain ⟨g1, g2, g3, g4, g5⟩ := hG
  have hl := hS.2.2.2.2.1
  have sm : ∀ q, q ≤ 4 → q ≤ ln Y s → sumL Y s q ≤ 600 := by
    intro q
    induction q with
    | zero => intro _ _; exact Nat.zero_le _
    | succ q ih =>
      intro h h'
      have := ih (by omega) (by omega)
      have h5 := (g5 q (by omega)).2.2.2.2.2.2.2.2.2.1
      show sumL Y s q + lp Y s q 5 ≤ 600
      have : ∀ q', q' ≤ ln Y s → q' ≤ 4 → sumL Y s q' ≤ 150 * q' := by
        intro q'
        induction q' with
        | zero => intro _ _; exact Nat.zero_le _
        | succ q' ih' =>
          intro a b
          have := ih' (by omega) (by omega)
          have h5 := (g5 q' (by omega)).2.2.2.2.2.2.2.2.2.1
          show sumL Y s q' + lp Y s q' 5 ≤ _
          omega
      have := this q (by omega) (by omega)
      omega
  have main := lpc (fun _ _ _ => none) (f6_linesOn_B4 N (nI s) (fun x2_4 σL4 => some (x2_4, σL4))) (fun t q => t (nI (sumL Y s q)) (nI q) σ) (some (nI (ll Y s), σ)) (ln Y s) (by
    intro r
    show f6_linesOn_B4 _ _ _ _ _ _ _ = _
    unfold f6_linesOn_B4
    simp (disch := omega) only [q_lit, q_gt, q_bd, q_bxl, q_bxr, q_vib, q_cl, q_pos, q_lt, q_le, q_eq, q_neg, q_neg1, q_negz, q_negeq0, q_neg0le, q_rem, q_div, q_sub, q_if1, q_if0, q_okB0, q_okB1, q_dz, q_dn, q_nb, and_true, true_and, and_false, false_and, nI_add, pk_mul, if_true, if_false, ite_true, ite_false, Nat.add_zero, Nat.zero_add, Nat.reduceAdd, r1]
    rw [g2]) (by
    intro r q hq
    show f6_linesOn_B4 _ _ _ _ _ _ _ = r (nI (sumL Y s q + lp Y s q 5)) (nI (q + 1)) σ
    unfold f6_linesOn_B4
    simp (disch := omega) only [q_lit, q_gt, q_bd, q_bxl, q_bxr, q_vib, q_cl, q_pos, q_lt, q_le, q_eq, q_neg, q_neg1, q_negz, q_negeq0, q_neg0le, q_rem, q_div, q_sub, q_if1, q_if0, q_okB0, q_okB1, q_dz, q_dn, q_nb, and_true, true_and, and_false, false_and, nI_add, pk_mul, if_true, if_false, ite_true, ite_false, Nat.add_zero, Nat.zero_add, Nat.reduceAdd, r1, r5 q 5 hq (by omega)]) (i := 0) (n := N) (by omega) (by omega)
  exact main
theorem s6_rankOf (h14 : σ 84 14 = nI (nS D)) (h91 : ∀ k, k < nS D → σ 91 k = nI (ordN D k)) (N : Nat) (hN : 500 ≤ N) {s : Nat} (hs : s < 12) (h0 : dS D s 0 = 1) : f6_rankOf N (nI s) σ = some (nI (cnt D s), σ) := by
  have hI := ordN_I D
  have hle := nS_le D
  obtain ⟨k, k1, k2⟩ := hI.2.2 s hs h0
  have hc := ord_cnt hI k k1
  rw [k2] at hc
  have main := lpc (fun _ _ => none) (f6_rankOf_B2 N (nI s) (fun σL2 => some (-nI 1, σL2))) (fun t q => t (nI q) σ) (some (nI (cnt D s), σ)) k (by
    intro r
    show f6_rankOf_B2 _ _ _ _ _ _ = _
    unfold f6_rankOf_B2
    simp (disch := omega) only [q_lit, q_gt, q_bd, q_bxl, q_bxr, q_vib, q_cl, q_pos, q_lt, q_le, q_eq, q_neg, q_neg1, q_negz, q_negeq0, q_neg0le, q_rem, q_div, q_sub, q_if1, q_if0, q_okB0, q_okB1, q_dz, q_dn, q_nb, and_true, true_and, and_false, false_and, nI_add, pk_mul, if_true, if_false, ite_true, ite_false, Nat.add_zero, Nat.zero_add, Nat.reduceAdd, h14, h91 k k1, k2]
    rw [hc]) (by
    intro r q hq
    have ne : ordN D q ≠ s := fun e => by
      have := ord_cnt hI q (by omega)
      rw [e] at this
      omega
    have lt := (hI.1 q (by omega)).1
    show f6_rankOf_B2 _ _ _ _ _ _ = _
    unfold f6_rankOf_B2
    simp (disch := omega) only [q_lit, q_gt, q_bd, q_bxl, q_bxr, q_vib, q_cl, q_pos, q_lt, q_le, q_eq, q_neg, q_neg1, q_negz, q_negeq0, q_neg0le, q_rem, q_div, q_sub, q_if1, q_if0, q_okB0, q_okB1, q_dz, q_dn, q_nb, and_true, true_and, and_false, false_and, nI_add, pk_mul, if_true, if_false, ite_true, ite_false, Nat.add_zero, Nat.zero_add, Nat.reduceAdd, h14, h91 q (by omega)]) (i := 0) (n := N) (by omega) (by omega)
  exact main
theorem s3_linesOnP {g : Nat} (hP : PgW g σ Y) (N : Nat) {s : Nat} (hs : s < 12) : f3_linesOnPages N g (nI s) σ = some (nI (ll Y s), σ) := by
  unfold f3_linesOnPages
  simp (disch := omega) only [q_lit, q_gt, q_bd, q_bxl, q_bxr, q_vib, q_cl, q_pos, q_lt, q_le, q_eq, q_neg, q_neg1, q_negz, q_negeq0, q_neg0le, q_rem, q_div, q_sub, q_if1, q_if0, q_okB0, q_okB1, q_dz, q_dn, q_nb, and_true, true_and, and_false, false_and, nI_add, pk_mul, if_true, if_false, ite_true, ite_false, Nat.add_zero, Nat.zero_add, Nat.reduceAdd, s5_isStoryIndex, (hP.2.2.1 s hs).2.1]
theorem s3_isLeftOut {g : Nat} (hP : PgW g σ Y) (N : Nat) {s : Nat} (hs : s < 12) : f3_isLeftOut N g (nI s) σ = some (nI (if ln Y s = 0 then 1 else 0), σ) := by
  have := (hP.2.2.1 s hs).2.2.2
  unfold f3_isLeftOut
  simp (disch := omega) only [q_lit, q_gt, q_bd, q_bxl, q_bxr, q_vib, q_cl, q_pos, q_lt, q_le, q_eq, q_neg, q_neg1, q_negz, q_negeq0, q_neg0le, q_rem, q_div, q_sub, q_if1, q_if0, q_okB0, q_okB1, q_dz, q_dn, q_nb, and_true, true_and, and_false, false_and, nI_add, pk_mul, if_true, if_false, ite_true, ite_false, Nat.add_zero, Nat.zero_add, Nat.reduceAdd, s3_partCount hP]
  by_cases z : ln Y s = 0
  · simp (disch := omega) only [q_lit, q_gt, q_bd, q_bxl, q_bxr, q_vib, q_cl, q_pos, q_lt, q_le, q_eq, q_neg, q_neg1, q_negz, q_negeq0, q_neg0le, q_rem, q_div, q_sub, q_if1, q_if0, q_okB0, q_okB1, q_dz, q_dn, q_nb, and_true, true_and, and_false, false_and, nI_add, pk_mul, if_true, if_false, ite_true, ite_false, Nat.add_zero, Nat.zero_add, Nat.reduceAdd]
  · simp (disch := omega) only [q_lit, q_gt, q_bd, q_bxl, q_bxr, q_vib, q_cl, q_pos, q_lt, q_le, q_eq, q_neg, q_neg1, q_negz, q_negeq0, q_neg0le, q_rem, q_div, q_sub, q_if1, q_if0, q_okB0, q_okB1, q_dz, q_dn, q_nb, and_true, true_and, and_false, false_and, nI_add, pk_mul, if_true, if_false, ite_true, ite_false, Nat.add_zero, Nat.zero_add, Nat.reduceAdd]
/-- the page on which a story starts -/
def stP (Y : Ly) (s : Nat) : Int32 := if ln Y s = 0 then -nI 1 else nI (lp Y s 0 0)
theorem s3_startPage {g : Nat} (hP : PgW g σ Y) (N : Nat) {s : Nat} (hs : s < 12) : f3_startPageOf N g (nI s) σ = some (stP Y s, σ) := by
  have := (hP.2.2.1 s hs).2.2.2
  unfold f3_startPageOf stP
  by_cases z : ln Y s = 0
  · rw [if_pos z]
    simp (disch := omega) only [q_lit, q_gt, q_bd, q_bxl, q_bxr, q_vib, q_cl, q_pos, q_lt, q_le, q_eq, q_neg, q_neg1, q_negz, q_negeq0, q_neg0le, q_rem, q_div, q_sub, q_if1, q_if0, q_okB0, q_okB1, q_dz, q_dn, q_nb, and_true, true_and, and_false, false_and, nI_add, pk_mul, if_true, if_false, ite_true, ite_false, Nat.add_zero, Nat.zero_add, Nat.reduceAdd, s3_partCount hP]
  · rw [if_neg z]
    simp (disch := omega) only [q_lit, q_gt, q_bd, q_bxl, q_bxr, q_vib, q_cl, q_pos, q_lt, q_le, q_eq, q_neg, q_neg1, q_negz, q_negeq0, q_neg0le, q_rem, q_div, q_sub, q_if1, q_if0, q_okB0, q_okB1, q_dz, q_dn, q_nb, and_true, true_and, and_false, false_and, nI_add, pk_mul, if_true, if_false, ite_true, ite_false, Nat.add_zero, Nat.zero_add, Nat.reduceAdd, s3_partCount hP, s3_partNoY hP N hs (show 0 < ln Y s by omega)]
theorem s3_ownPage {g : Nat} (hP : PgW g σ Y) (hE : EdR σ (edOf g) D) (N : Nat) {s : Nat} (hs : s < 12) : f3_startsOnOwnPage N g (nI s) σ = some (nI (if stP Y s = nI (dS D s 1) then 1 else 0), σ) := by
  unfold f3_startsOnOwnPage
  rw [s3_startPage hP N hs, q_bd]
  simp (disch := omega) only [q_lit, q_gt, q_bd, q_bxl, q_bxr, q_vib, q_cl, q_pos, q_lt, q_le, q_eq, q_neg, q_neg1, q_negz, q_negeq0, q_neg0le, q_rem, q_div, q_sub, q_if1, q_if0, q_okB0, q_okB1, q_dz, q_dn, q_nb, and_true, true_and, and_false, false_and, nI_add, pk_mul, if_true, if_false, ite_true, ite_false, Nat.add_zero, Nat.zero_add, Nat.reduceAdd, s1_sn hE]
  by_cases z : stP Y s = nI (dS D s 1)
  · rw [if_pos z, if_pos z]
  · rw [if_neg z, if_neg z]
theorem case_story (hI : Inv σ) (N : Nat) (hN : 500 ≤ N) (x1 x2 : Int32) : Agree (fL_story N x1 x2) (f6_story N x1 x2) σ := by
  refine qry hI N hN (fL_story N x1 x2) (fun σ1 => bd (f6_isStory N x1 σ1) (fun r6 σ6 => if r6 = 0 then bd (f6_fails N 1 σ6) (fun r14 σ14 => some (r14, σ14)) else bd (f6_in N x2 0 12 σ6) (fun r22 σ22 => if r22 = 0 then bd (f6_fails N 2 σ22) (fun r30 σ30 => some (r30, σ30)) else if (8 : Int32) ≤ x2 then if x2 = 8 then bd (f6_rankOf N x1 σ22) (fun r82 σ82 => some (r82, σ82)) else if x2 = 9 then gd (vib x1 12) (some (σ22 92 x1.toNatClampNeg, σ22)) else if x2 = 10 then gd (vib x1 12) (some (σ22 93 x1.toNatClampNeg, σ22)) else if x2 = 11 then bd (f6_linesOn N x1 σ22) (fun r102 σ102 => some (r102, σ102)) else bd (f6_of N x1 4 σ22) (fun r109 σ109 => bd (f6_linesOn N x1 σ109) (fun r114 σ114 => some (r109 - r114, σ114))) else bd (f6_of N x1 (1 + x2) σ22) (fun r45 σ45 => some (r45, σ45))))) (fun D Y hC => ?_)
  rcases isS_cases hC.1 x1 with q | ⟨q, s, hs, rfl, h0⟩
  · refine ⟨1, 0, by omega, ?_, fun τ hτ => ?_⟩
    · unfold fL_story f5_story
      rw [s5_needStory hC.2.1 hC.1, q]
      rfl
    · rw [s6_isStory hτ.1 hC.1, q_bd, q]
      rfl
  · have hG := hC.2.2.2.2.2.1 s hs
    have hS := hC.1.2.2.1 s hs
    have hcle : cnt D s ≤ 12 := cntB_le _ _
    have cls0 : f5_story N (nI s) x2 σ = if x2 < 0 then f5_story_J25 N (nI s) x2 σ else if (8 : Int32) ≤ x2 then f5_story_J25 N (nI s) x2 σ else bd (f1_storyNumber N 1 (nI s) x2 σ) (fun r21 σ21 => some (.inl r21, σ21)) := by
      unfold f5_story
      rw [s5_needStory hC.2.1 hC.1, q, if_neg (show ¬ (1 : Nat) = 0 by decide), q_bxl]
    cases e : inB x2 0 12
    · have n : ∀ k : Nat, k < 13 → ¬ x2 = nI k := by
        intro k hk h
        rw [h, inB_nI (by omega) (by omega) (by omega)] at e
        have := of_decide_eq_false e
        omega
      refine ⟨2, 0, by omega, ?_, fun τ hτ => ?_⟩
      · have J : f5_story_J25 N (nI s) x2 σ = some (.inr 2, σ) := by
          unfold f5_story_J25
          rw [if_neg (show ¬ x2 = 8 from n 8 (by omega)), if_neg (show ¬ x2 = 9 from n 9 (by omega)), if_neg (show ¬ x2 = 10 from n 10 (by omega)), if_neg (show ¬ x2 = 11 from n 11 (by omega)), if_neg (show ¬ x2 = 12 from n 12 (by omega))]
        have : f5_story N (nI s) x2 σ = some (.inr 2, σ) := by
          rw [cls0, J]
          by_cases w : x2 < 0
          · exact if_pos w
          · rw [if_neg w]
            obtain ⟨k, hk, rfl⟩ := nI_of w
            have : 13 ≤ k := by
              rcases Nat.lt_or_ge k 13 with h | h
              · exact absurd rfl (n k h)
              · exact h
            rw [if_pos (show (8 : Int32) ≤ nI k from nI_le (a := 8) (b := k) (by omega) hk)]
        unfold fL_story
        rw [this]
        rfl
      · rw [s6_isStory hτ.1 hC.1, q_bd, q, if_neg (show ¬ nI 1 = 0 by decide), show f6_in N x2 0 12 τ = some (nI (b2 (inB x2 0 12)), τ) from s6_in N x2 0 12, q_bd, e]
        rfl
    · obtain ⟨v, v1, v2, rfl⟩ := inB_some e (by decide) (by decide)
      have fin : ∀ r : Int32, f5_story N (nI s) (nI v) σ = some (.inl r, σ) → (∀ τ, Asked τ D Y → (if (8 : Int32) ≤ nI v then if nI v = 8 then bd (f6_rankOf N (nI s) τ) (fun r82 σ82 => some (r82, σ82)) else if nI v = 9 then gd (vib (nI s) 12) (some (τ 92 (nI s).toNatClampNeg, τ)) else if nI v = 10 then gd (vib (nI s) 12) (some (τ 93 (nI s).toNatClampNeg, τ)) else if nI v = 11 then bd (f6_linesOn N (nI s) τ) (fun r102 σ102 => some (r102, σ102)) else bd (f6_of N (nI s) 4 τ) (fun r109 σ109 => bd (f6_linesOn N (nI s) σ109) (fun r114 σ114 => some (r109 - r114, σ114))) else bd (f6_of N (nI s) (1 + nI v) τ) (fun r45 σ45 => some (r45, σ45))) = some (r, τ)) → ∃ f r, f < 10 ∧ fL_story N (nI s) (nI v) σ = some (nI f, if f = 0 then st σ 100 0 r else σ) ∧ ∀ τ, Asked τ D Y → bd (f6_isStory N (nI s) τ) (fun r6 σ6 => if r6 = 0 then bd (f6_fails N 1 σ6) (fun r14 σ14 => some (r14, σ14)) else bd (f6_in N (nI v) 0 12 σ6) (fun r22 σ22 => if r22 = 0 then bd (f6_fails N 2 σ22) (fun r30 σ30 => some (r30, σ30)) else if (8 : Int32) ≤ nI v then if nI v = 8 then bd (f6_rankOf N (nI s) σ22) (fun r82 σ82 => some (r82, σ82)) else if nI v = 9 then gd (vib (nI s) 12) (some (σ22 92 (nI s).toNatClampNeg, σ22)) else if nI v = 10 then gd (vib (nI s) 12) (some (σ22 93 (nI s).toNatClampNeg, σ22)) else if nI v = 11 then bd (f6_linesOn N (nI s) σ22) (fun r102 σ102 => some (r102, σ102)) else bd (f6_of N (nI s) 4 σ22) (fun r109 σ109 => bd (f6_linesOn N (nI s) σ109) (fun r114 σ114 => some (r109 - r114, σ114))) else bd (f6_of N (nI s) (1 + nI v) σ22) (fun r45 σ45 => some (r45, σ45)))) = if f = 0 then some (r, τ) else some (nI 0, st τ 84 0 (nI f)) := by
        intro r h1 h2
        refine ⟨0, r, by omega, ?_, fun τ hτ => ?_⟩
        · unfold fL_story
          rw [h1]
          rfl
        · rw [s6_isStory hτ.1 hC.1, q_bd, q, if_neg (show ¬ nI 1 = 0 by decide), show f6_in N (nI v) 0 12 τ = some (nI (b2 (inB (nI v) 0 12)), τ) from s6_in N (nI v) 0 12, q_bd, e, if_neg (show ¬ nI (b2 true) = 0 by decide), h2 τ hτ]
          rfl
      by_cases v8 : v < 8
      · refine fin (nI (dS D s (v + 1))) ?_ (fun τ hτ => ?_)
        · rw [cls0]
          simp (disch := omega) only [q_lit, q_gt, q_bd, q_bxl, q_bxr, q_vib, q_cl, q_pos, q_lt, q_le, q_eq, q_neg, q_neg1, q_negz, q_negeq0, q_neg0le, q_rem, q_div, q_sub, q_if1, q_if0, q_okB0, q_okB1, q_dz, q_dn, q_nb, and_true, true_and, and_false, false_and, nI_add, pk_mul, if_true, if_false, ite_true, ite_false, Nat.add_zero, Nat.zero_add, Nat.reduceAdd, s1_sn hC.2.1]
        · rw [if_neg (show ¬ (8 : Int32) ≤ nI v from nI_ge (a := v) (b := 8) v8 (by omega)), show (1 : Int32) + nI v = nI (v + 1) by rw [show (1 : Int32) = nI 1 from rfl, nI_add, Nat.add_comm], s6_of hτ.1 hs (by omega), q_bd]
      · obtain rfl | rfl | rfl | rfl | rfl : v = 8 ∨ v = 9 ∨ v = 10 ∨ v = 11 ∨ v = 12 := by omega
        · refine fin (nI (cnt D s)) ?_ (fun τ hτ => ?_)
          · rw [cls0]
            unfold f5_story_J25 f3_rankOf
            simp (disch := omega) only [q_lit, q_gt, q_bd, q_bxl, q_bxr, q_vib, q_cl, q_pos, q_lt, q_le, q_eq, q_neg, q_neg1, q_negz, q_negeq0, q_neg0le, q_rem, q_div, q_sub, q_if1, q_if0, q_okB0, q_okB1, q_dz, q_dn, q_nb, and_true, true_and, and_false, false_and, nI_add, pk_mul, if_true, if_false, ite_true, ite_false, Nat.add_zero, Nat.zero_add, Nat.reduceAdd, s5_isStoryIndex, hC.2.2.2.1 s hs h0]
          · simp (disch := omega) only [q_lit, q_gt, q_bd, q_bxl, q_bxr, q_vib, q_cl, q_pos, q_lt, q_le, q_eq, q_neg, q_neg1, q_negz, q_negeq0, q_neg0le, q_rem, q_div, q_sub, q_if1, q_if0, q_okB0, q_okB1, q_dz, q_dn, q_nb, and_true, true_and, and_false, false_and, nI_add, pk_mul, if_true, if_false, ite_true, ite_false, Nat.add_zero, Nat.zero_add, Nat.reduceAdd, s6_rankOf hτ.2.2.1 hτ.2.2.2 N hN hs h0]
        · refine fin (stP Y s) ?_ (fun τ hτ => ?_)
          · rw [cls0]
            unfold f5_story_J25
            simp (disch := omega) only [q_lit, q_gt, q_bd, q_bxl, q_bxr, q_vib, q_cl, q_pos, q_lt, q_le, q_eq, q_neg, q_neg1, q_negz, q_negeq0, q_neg0le, q_rem, q_div, q_sub, q_if1, q_if0, q_okB0, q_okB1, q_dz, q_dn, q_nb, and_true, true_and, and_false, false_and, nI_add, pk_mul, if_true, if_false, ite_true, ite_false, Nat.add_zero, Nat.zero_add, Nat.reduceAdd, s3_startPage hC.2.2.1 N hs]
          · simp (disch := omega) only [q_lit, q_gt, q_bd, q_bxl, q_bxr, q_vib, q_cl, q_pos, q_lt, q_le, q_eq, q_neg, q_neg1, q_negz, q_negeq0, q_neg0le, q_rem, q_div, q_sub, q_if1, q_if0, q_okB0, q_okB1, q_dz, q_dn, q_nb, and_true, true_and, and_false, false_and, nI_add, pk_mul, if_true, if_false, ite_true, ite_false, Nat.add_zero, Nat.zero_add, Nat.reduceAdd, (hτ.2.1.2.2 s hs h0).2.2.1]
            rfl
        · refine fin (nI (ln Y s)) ?_ (fun τ hτ => ?_)
          · rw [cls0]
            unfold f5_story_J25
            simp (disch := omega) only [q_lit, q_gt, q_bd, q_bxl, q_bxr, q_vib, q_cl, q_pos, q_lt, q_le, q_eq, q_neg, q_neg1, q_negz, q_negeq0, q_neg0le, q_rem, q_div, q_sub, q_if1, q_if0, q_okB0, q_okB1, q_dz, q_dn, q_nb, and_true, true_and, and_false, false_and, nI_add, pk_mul, if_true, if_false, ite_true, ite_false, Nat.add_zero, Nat.zero_add, Nat.reduceAdd, s3_partCount hC.2.2.1 N hs]
          · simp (disch := omega) only [q_lit, q_gt, q_bd, q_bxl, q_bxr, q_vib, q_cl, q_pos, q_lt, q_le, q_eq, q_neg, q_neg1, q_negz, q_negeq0, q_neg0le, q_rem, q_div, q_sub, q_if1, q_if0, q_okB0, q_okB1, q_dz, q_dn, q_nb, and_true, true_and, and_false, false_and, nI_add, pk_mul, if_true, if_false, ite_true, ite_false, Nat.add_zero, Nat.zero_add, Nat.reduceAdd, (hτ.2.1.2.2 s hs h0).1]
        · refine fin (nI (ll Y s)) ?_ (fun τ hτ => ?_)
          · rw [cls0]
            unfold f5_story_J25
            simp (disch := omega) only [q_lit, q_gt, q_bd, q_bxl, q_bxr, q_vib, q_cl, q_pos, q_lt, q_le, q_eq, q_neg, q_neg1, q_negz, q_negeq0, q_neg0le, q_rem, q_div, q_sub, q_if1, q_if0, q_okB0, q_okB1, q_dz, q_dn, q_nb, and_true, true_and, and_false, false_and, nI_add, pk_mul, if_true, if_false, ite_true, ite_false, Nat.add_zero, Nat.zero_add, Nat.reduceAdd, s3_linesOnP hC.2.2.1 N hs]
          · simp (disch := omega) only [q_lit, q_gt, q_bd, q_bxl, q_bxr, q_vib, q_cl, q_pos, q_lt, q_le, q_eq, q_neg, q_neg1, q_negz, q_negeq0, q_neg0le, q_rem, q_div, q_sub, q_if1, q_if0, q_okB0, q_okB1, q_dz, q_dn, q_nb, and_true, true_and, and_false, false_and, nI_add, pk_mul, if_true, if_false, ite_true, ite_false, Nat.add_zero, Nat.zero_add, Nat.reduceAdd, s6_linesOn hτ.2.1 N hN hs h0 hG hS]
        · have := hG.2.2.1
          refine fin (nI (dS D s 4 - ll Y s)) ?_ (fun τ hτ => ?_)
          · rw [cls0]
            unfold f5_story_J25
            simp (disch := omega) only [q_lit, q_gt, q_bd, q_bxl, q_bxr, q_vib, q_cl, q_pos, q_lt, q_le, q_eq, q_neg, q_neg1, q_negz, q_negeq0, q_neg0le, q_rem, q_div, q_sub, q_if1, q_if0, q_okB0, q_okB1, q_dz, q_dn, q_nb, and_true, true_and, and_false, false_and, nI_add, pk_mul, if_true, if_false, ite_true, ite_false, Nat.add_zero, Nat.zero_add, Nat.reduceAdd, s3_linesCutW hC.2.2.1 hC.2.1]
          · simp (disch := omega) only [q_lit, q_gt, q_bd, q_bxl, q_bxr, q_vib, q_cl, q_pos, q_lt, q_le, q_eq, q_neg, q_neg1, q_negz, q_negeq0, q_neg0le, q_rem, q_div, q_sub, q_if1, q_if0, q_okB0, q_okB1, q_dz, q_dn, q_nb, and_true, true_and, and_false, false_and, nI_add, pk_mul, if_true, if_false, ite_true, ite_false, Nat.add_zero, Nat.zero_add, Nat.reduceAdd, s6_of hτ.1, s6_linesOn hτ.2.1 N hN hs h0 hG hS]
/-- a story's fate, by its layout -/
def ftN (D : Nat → Nat) (Y : Ly) (s : Nat) : Nat := if ln Y s = 0 then 3 else if lp Y s 0 0 = dS D s 1 then (if ll Y s < dS D s 4 then 1 else 0) else 2
theorem s6_fateOf (hNw : NwR σ 85 D) (hR : RfR (fun s => dS D s 0 = 1) σ Y) (N : Nat) (hN : 500 ≤ N) {s : Nat} (hs : s < 12) (h0 : dS D s 0 = 1) (hG : GoodS D Y s) (hS : SOk D s) : f6_fateOf N (nI s) σ = some (nI (ftN D Y s), σ) := by
  obtain ⟨r1, r2, r3, r4, r5⟩ := hR.2.2 s hs h0
  have l1 := hS.2.1
  have l4 := hS.2.2.2.2.1
  have l5 := hG.2.2.1
  unfold f6_fateOf ftN
  by_cases z : ln Y s = 0
  · rw [if_pos z] at r3 ⊢
    simp (disch := omega) only [q_lit, q_gt, q_bd, q_bxl, q_bxr, q_vib, q_cl, q_pos, q_lt, q_le, q_eq, q_neg, q_neg1, q_negz, q_negeq0, q_neg0le, q_rem, q_div, q_sub, q_if1, q_if0, q_okB0, q_okB1, q_dz, q_dn, q_nb, and_true, true_and, and_false, false_and, nI_add, pk_mul, if_true, if_false, ite_true, ite_false, Nat.add_zero, Nat.zero_add, Nat.reduceAdd, r3]
  · rw [if_neg z] at r3 ⊢
    have p0 := (hG.2.2.2.2 0 (by omega)).1
    by_cases z2 : lp Y s 0 0 = dS D s 1
    · rw [if_pos z2]
      by_cases z3 : ll Y s < dS D s 4
      · simp (disch := omega) only [q_lit, q_gt, q_bd, q_bxl, q_bxr, q_vib, q_cl, q_pos, q_lt, q_le, q_eq, q_neg, q_neg1, q_negz, q_negeq0, q_neg0le, q_rem, q_div, q_sub, q_if1, q_if0, q_okB0, q_okB1, q_dz, q_dn, q_nb, and_true, true_and, and_false, false_and, nI_add, pk_mul, if_true, if_false, ite_true, ite_false, Nat.add_zero, Nat.zero_add, Nat.reduceAdd, r3, s6_of hNw, z2, s6_linesOn hR N hN hs h0 hG hS]
      · simp (disch := omega) only [q_lit, q_gt, q_bd, q_bxl, q_bxr, q_vib, q_cl, q_pos, q_lt, q_le, q_eq, q_neg, q_neg1, q_negz, q_negeq0, q_neg0le, q_rem, q_div, q_sub, q_if1, q_if0, q_okB0, q_okB1, q_dz, q_dn, q_nb, and_true, true_and, and_false, false_and, nI_add, pk_mul, if_true, if_false, ite_true, ite_false, Nat.add_zero, Nat.zero_add, Nat.reduceAdd, r3, s6_of hNw, z2, s6_linesOn hR N hN hs h0 hG hS]
    · rw [if_neg z2]
      simp (disch := omega) only [q_lit, q_gt, q_bd, q_bxl, q_bxr, q_vib, q_cl, q_pos, q_lt, q_le, q_eq, q_neg, q_neg1, q_negz, q_negeq0, q_neg0le, q_rem, q_div, q_sub, q_if1, q_if0, q_okB0, q_okB1, q_dz, q_dn, q_nb, and_true, true_and, and_false, false_and, nI_add, pk_mul, if_true, if_false, ite_true, ite_false, Nat.add_zero, Nat.zero_add, Nat.reduceAdd, r3, s6_of hNw]
theorem case_fate (hI : Inv σ) (N : Nat) (hN : 500 ≤ N) (x1 : Int32) : Agree (fL_fate N x1) (f6_fate N x1) σ := by
  refine qry hI N hN (fL_fate N x1) (fun σ1 => bd (f6_isStory N x1 σ1) (fun r6 σ6 => if r6 = 0 then bd (f6_fails N 1 σ6) (fun r22 σ22 => some (r22, σ22)) else bd (f6_fateOf N x1 σ6) (fun r14 σ14 => some (r14, σ14)))) (fun D Y hC => ?_)
  rcases isS_cases hC.1 x1 with q | ⟨q, s, hs, rfl, h0⟩
  · refine ⟨1, 0, by omega, ?_, fun τ hτ => ?_⟩
    · unfold fL_fate f5_fate
      rw [s5_needStory hC.2.1 hC.1, q]
      rfl
    · rw [s6_isStory hτ.1 hC.1, q_bd, q]
      rfl
  · have hG := hC.2.2.2.2.2.1 s hs
    have hS := hC.1.2.2.1 s hs
    have l1 := hS.2.1
    have l4 := hS.2.2.2.2.1
    have l5 := hG.2.2.1
    refine ⟨0, nI (ftN D Y s), by omega, ?_, fun τ hτ => ?_⟩
    · unfold fL_fate f5_fate
      rw [s5_needStory hC.2.1 hC.1, q, if_neg (show ¬ (1 : Nat) = 0 by decide), q_bxl]
      unfold f3_isBumped ftN
      by_cases z : ln Y s = 0
      · have e1 : f3_isLeftOut N 56 (nI s) σ = some (nI 1, σ) := by rw [s3_isLeftOut hC.2.2.1 N hs, if_pos z]
        simp (disch := omega) only [q_lit, q_gt, q_bd, q_bxl, q_bxr, q_vib, q_cl, q_pos, q_lt, q_le, q_eq, q_neg, q_neg1, q_negz, q_negeq0, q_neg0le, q_rem, q_div, q_sub, q_if1, q_if0, q_okB0, q_okB1, q_dz, q_dn, q_nb, and_true, true_and, and_false, false_and, nI_add, pk_mul, if_true, if_false, ite_true, ite_false, Nat.add_zero, Nat.zero_add, Nat.reduceAdd, e1]
        rfl
      · have e1 : f3_isLeftOut N 56 (nI s) σ = some (nI 0, σ) := by rw [s3_isLeftOut hC.2.2.1 N hs, if_neg z]
        have p0 := (hG.2.2.2.2 0 (by omega)).1
        have st0 : stP Y s = nI (lp Y s 0 0) := if_neg z
        have own := s3_ownPage hC.2.2.1 hC.2.1 N hs
        rw [st0] at own
        by_cases z2 : lp Y s 0 0 = dS D s 1
        · rw [if_pos (by rw [z2])] at own
          by_cases z3 : ll Y s < dS D s 4
          · simp (disch := omega) only [q_lit, q_gt, q_bd, q_bxl, q_bxr, q_vib, q_cl, q_pos, q_lt, q_le, q_eq, q_neg, q_neg1, q_negz, q_negeq0, q_neg0le, q_rem, q_div, q_sub, q_if1, q_if0, q_okB0, q_okB1, q_dz, q_dn, q_nb, and_true, true_and, and_false, false_and, nI_add, pk_mul, if_true, if_false, ite_true, ite_false, Nat.add_zero, Nat.zero_add, Nat.reduceAdd, e1, own, s3_linesCutW hC.2.2.1 hC.2.1]
            rfl
          · simp (disch := omega) only [q_lit, q_gt, q_bd, q_bxl, q_bxr, q_vib, q_cl, q_pos, q_lt, q_le, q_eq, q_neg, q_neg1, q_negz, q_negeq0, q_neg0le, q_rem, q_div, q_sub, q_if1, q_if0, q_okB0, q_okB1, q_dz, q_dn, q_nb, and_true, true_and, and_false, false_and, nI_add, pk_mul, if_true, if_false, ite_true, ite_false, Nat.add_zero, Nat.zero_add, Nat.reduceAdd, e1, own, s3_linesCutW hC.2.2.1 hC.2.1]
            rfl
        · rw [if_neg (fun h => z2 (by rw [nI_eq (by omega) (by omega)] at h; exact h))] at own
          simp (disch := omega) only [q_lit, q_gt, q_bd, q_bxl, q_bxr, q_vib, q_cl, q_pos, q_lt, q_le, q_eq, q_neg, q_neg1, q_negz, q_negeq0, q_neg0le, q_rem, q_div, q_sub, q_if1, q_if0, q_okB0, q_okB1, q_dz, q_dn, q_nb, and_true, true_and, and_false, false_and, nI_add, pk_mul, if_true, if_false, ite_true, ite_false, Nat.add_zero, Nat.zero_add, Nat.reduceAdd, e1, own]
          rfl
    · rw [s6_isStory hτ.1 hC.1, q_bd, q, if_neg (show ¬ nI 1 = 0 by decide), s6_fateOf hτ.1 hτ.2.1 N hN hs h0 hG hS, q_bd]
      rfl
end Q2
