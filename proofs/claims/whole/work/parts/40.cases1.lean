/-! THE PURE PART. setPhoto, setLate, change, remove: both sides agree. -/
def phOk (h c : Int32) : Bool := if h = nI 0 then decide (c = nI 0) else inB h 2 8 && inB c 0 2
theorem phOk_some {h c : Int32} (e : phOk h c = true) : ∃ a b : Nat, h = nI a ∧ c = nI b ∧ a ≤ 8 ∧ b ≤ 2 := by
  unfold phOk at e
  by_cases z : h = nI 0
  · rw [if_pos z] at e
    exact ⟨0, 0, z, of_decide_eq_true e, by omega, by omega⟩
  · rw [if_neg z, Bool.and_eq_true] at e
    obtain ⟨a, a1, a2, a3⟩ := inB_some e.1 (by decide) (by decide)
    obtain ⟨b, b1, b2, b3⟩ := inB_some e.2 (by decide) (by decide)
    exact ⟨a, b, a3, b3, a2, b2⟩
def fltP (D : Nat → Nat) (x h c : Int32) : Nat := if isS D x = 0 then 1 else if phOk h c then 0 else 2
section C2
variable {σ : Hp} {D : Nat → Nat} {b : Nat}
theorem s1_faultOfPhoto (hE : EdR σ b D) (hD : DOk D) (N : Nat) (x h c : Int32) : f1_faultOfPhoto N b x h c σ = some (nI (fltP D x h c), σ) := by
  unfold f1_faultOfPhoto fltP
  rw [s1_hasX hE hD, q_bd]
  rcases isS_cases hD x with z | ⟨z, -⟩
  · rw [z]
    rfl
  · rw [z, if_neg (show ¬ nI 1 = 0 by decide), if_neg (show ¬ (1 : Nat) = 0 by decide)]
    unfold phOk
    by_cases h0 : h = nI 0
    · rw [if_pos (show h = 0 from h0), if_pos h0]
      by_cases c0 : c = nI 0
      · rw [if_pos (show c = 0 from c0), decide_eq_true c0]
        rfl
      · rw [if_neg (show ¬ c = 0 from c0), decide_eq_false c0]
        rfl
    · rw [if_neg (show ¬ h = 0 from h0), if_neg h0]
      refine Eq.trans (show _ = _ from in_cls2 h 2 8 _ _) ?_
      cases inB h 2 8
      · rfl
      · refine Eq.trans (show _ = _ from in_cls3 c 0 2 _ _) ?_
        cases inB c 0 2
        · rfl
        · rfl
theorem s6_laysPhoto_f (hNw : NwR σ 85 D) (hD : DOk D) (N : Nat) (x h c : Int32) (f : Nat) (hf : fltP D x h c = f) (hf0 : f ≠ 0) : f6_laysPhoto N x h c σ = some (nI 0, st σ 84 0 (nI f)) := by
  have J : ∀ y : Nat, f6_laysPhoto_J54 N x h c 0 σ = some (nI 0, st σ 84 0 (nI 2)) := fun _ => by
    unfold f6_laysPhoto_J54 f6_fails
    rfl
  unfold fltP at hf
  unfold f6_laysPhoto
  rw [s6_isStory hNw hD, q_bd]
  rcases isS_cases hD x with z | ⟨z, -⟩
  · rw [z] at hf ⊢
    rw [← hf]
    unfold f6_fails
    rfl
  · rw [z] at hf ⊢
    rw [if_neg (show ¬ (1 : Nat) = 0 by decide)] at hf
    rw [if_neg (show ¬ nI 1 = 0 by decide)]
    have e2 : phOk h c = false := by
      cases e : phOk h c
      · rfl
      · rw [e] at hf
        exact absurd hf.symm hf0
    rw [e2] at hf
    rw [← hf]
    unfold phOk at e2
    by_cases h0 : h = nI 0
    · rw [if_pos h0] at e2
      rw [if_pos (show h = 0 from h0), if_neg (show ¬ c = 0 from of_decide_eq_false e2)]
      exact J 0
    · rw [if_neg h0] at e2
      rw [if_neg (show ¬ h = 0 from h0), show f6_in N h 2 8 σ = some (nI (b2 (inB h 2 8)), σ) from s6_in N h 2 8, q_bd]
      unfold f6_laysPhoto_J53
      cases e3 : inB h 2 8
      · exact J 0
      · rw [e3, Bool.true_and] at e2
        rw [if_neg (show ¬ nI (b2 true) = 0 by decide), show f6_in N c 0 2 σ = some (nI (b2 (inB c 0 2)), σ) from s6_in N c 0 2, q_bd, e2]
        exact J 0
theorem s6_laysPhoto_ok (hNw : NwR σ 85 D) (hD : DOk D) (N s a c : Nat) (hs : s < 12) (h0 : dS D s 0 = 1) (ok : phOk (nI a) (nI c) = true) : ∃ σ', f6_laysPhoto N (nI s) (nI a) (nI c) σ = some (nI (dS D s 6), σ') ∧ NwR σ' 85 (setD (setD D s 6 a) s 7 c) ∧ ∀ k, k ≠ 85 → σ' k = σ k := by
  have i1 : isS D (nI s) = 1 := by
    unfold isS
    rw [inB_nI (by omega) (by omega) (by omega), decide_eq_true (by omega), if_pos rfl, q_cl (by omega)]
    exact h0
  have J : f6_laysPhoto_J54 N (nI s) (nI a) (nI c) 1 σ = some (nI (dS D s 6), st (st σ 85 (2 + 9 * s + 6) (nI a)) 85 (2 + 9 * s + 7) (nI c)) := by
    unfold f6_laysPhoto_J54
    simp (disch := omega) only [q_lit, q_gt, q_bd, q_bxl, q_bxr, q_vib, q_cl, q_pos, q_lt, q_le, q_eq, q_neg, q_neg1, q_negz, q_negeq0, q_neg0le, q_rem, q_div, q_sub, q_if1, q_if0, q_okB0, q_okB1, q_dz, q_dn, q_nb, and_true, true_and, and_false, false_and, nI_add, pk_mul, if_true, if_false, ite_true, ite_false, Nat.add_zero, Nat.zero_add, Nat.reduceAdd, s6_of hNw]
  refine ⟨_, ?_, NwR_st (NwR_st hNw a) c, fun k hk => by rw [st_row _ _ _ _ hk, st_row _ _ _ _ hk]⟩
  rw [← J]
  unfold f6_laysPhoto
  rw [s6_isStory hNw hD, q_bd, i1, if_neg (show ¬ nI 1 = 0 by decide)]
  unfold phOk at ok
  by_cases a0 : nI a = nI 0
  · rw [if_pos a0] at ok
    rw [if_pos (show nI a = 0 from a0), if_pos (show nI c = 0 from of_decide_eq_true ok)]
  · rw [if_neg a0, Bool.and_eq_true] at ok
    rw [if_neg (show ¬ nI a = 0 from a0), show f6_in N (nI a) 2 8 σ = some (nI (b2 (inB (nI a) 2 8)), σ) from s6_in N (nI a) 2 8, q_bd, ok.1, if_neg (show ¬ nI (b2 true) = 0 by decide), show f6_in N (nI c) 0 2 σ = some (nI (b2 (inB (nI c) 0 2)), σ) from s6_in N (nI c) 0 2, q_bd, ok.2, if_neg (show ¬ nI (b2 true) = 0 by decide)]
theorem photo_ok (hD : DOk D) {s a c : Nat} (hs : s < 12) (ha : a ≤ 8) (hc : c ≤ 2) : DOk (setD (setD D s 6 a) s 7 c) := by
  have g := hD.2.2.1 s hs
  have h1 : DOk (setD D s 6 a) := by
    refine setD_ok hD hs (by omega) ?_
    unfold SOk at g ⊢
    simp only [setD_S (show 6 < 9 by omega) (show 0 < 9 by omega), setD_S (show 6 < 9 by omega) (show 1 < 9 by omega), setD_S (show 6 < 9 by omega) (show 2 < 9 by omega), setD_S (show 6 < 9 by omega) (show 3 < 9 by omega), setD_S (show 6 < 9 by omega) (show 4 < 9 by omega), setD_S (show 6 < 9 by omega) (show 5 < 9 by omega), setD_S (show 6 < 9 by omega) (show 6 < 9 by omega), setD_S (show 6 < 9 by omega) (show 7 < 9 by omega), setD_S (show 6 < 9 by omega) (show 8 < 9 by omega)]
    simp
    omega
  have g1 := h1.2.2.1 s hs
  refine setD_ok h1 hs (by omega) ?_
  unfold SOk at g1 ⊢
  simp only [setD_S (show 7 < 9 by omega) (show 0 < 9 by omega), setD_S (show 7 < 9 by omega) (show 1 < 9 by omega), setD_S (show 7 < 9 by omega) (show 2 < 9 by omega), setD_S (show 7 < 9 by omega) (show 3 < 9 by omega), setD_S (show 7 < 9 by omega) (show 4 < 9 by omega), setD_S (show 7 < 9 by omega) (show 5 < 9 by omega), setD_S (show 7 < 9 by omega) (show 6 < 9 by omega), setD_S (show 7 < 9 by omega) (show 7 < 9 by omega), setD_S (show 7 < 9 by omega) (show 8 < 9 by omega)] at g1 ⊢
  simp at g1 ⊢
  omega
theorem s1_photo (hE : EdR σ b D) (N : Nat) {s : Nat} (hs : s < 12) (a c : Nat) : ∃ σ', f1_putPhoto N b (nI s) (nI a) (nI c) σ = some ((), σ') ∧ EdR σ' b (setD (setD D s 6 a) s 7 c) ∧ ∀ k, k < b ∨ b + 4 < k → σ' k = σ k :=
  ⟨_, s1_putPhoto N b hs _ _ σ, EdR_st (EdR_st hE hs (by omega) a) hs (by omega) c, fun k hk => by rw [st_row _ _ _ _ (by omega), st_row _ _ _ _ (by omega)]⟩
theorem late_ok (hD : DOk D) {s v : Nat} (hs : s < 12) (hv : v ≤ 1) : DOk (setD D s 8 v) := by
  have g := hD.2.2.1 s hs
  refine setD_ok hD hs (by omega) ?_
  unfold SOk at g ⊢
  simp only [setD_S (show 8 < 9 by omega) (show 0 < 9 by omega), setD_S (show 8 < 9 by omega) (show 1 < 9 by omega), setD_S (show 8 < 9 by omega) (show 2 < 9 by omega), setD_S (show 8 < 9 by omega) (show 3 < 9 by omega), setD_S (show 8 < 9 by omega) (show 4 < 9 by omega), setD_S (show 8 < 9 by omega) (show 5 < 9 by omega), setD_S (show 8 < 9 by omega) (show 6 < 9 by omega), setD_S (show 8 < 9 by omega) (show 7 < 9 by omega), setD_S (show 8 < 9 by omega) (show 8 < 9 by omega)]
  simp
  omega
theorem isS_1 {s : Nat} (hs : s < 12) (h0 : dS D s 0 = 1) : isS D (nI s) = 1 := by
  unfold isS
  rw [inB_nI (by omega) (by omega) (by omega), decide_eq_true (by omega), if_pos rfl, q_cl (by omega)]
  exact h0
theorem s6_laysLate_f (hNw : NwR σ 85 D) (hD : DOk D) (N : Nat) (x y : Int32) (h : isS D x = 0) : f6_laysLate N x y σ = some (nI 0, st σ 84 0 (nI 1)) := by
  unfold f6_laysLate f6_fails
  rw [s6_isStory hNw hD, q_bd, h]
  rfl
theorem s6_laysLate_ok (hNw : NwR σ 85 D) (hD : DOk D) (N s v : Nat) (hs : s < 12) (h0 : dS D s 0 = 1) : ∃ σ', f6_laysLate N (nI s) (nI v) σ = some (nI (dS D s 8), σ') ∧ NwR σ' 85 (setD D s 8 v) ∧ ∀ k, k ≠ 85 → σ' k = σ k := by
  refine ⟨st σ 85 (2 + 9 * s + 8) (nI v), ?_, NwR_st hNw v, fun k hk => st_row _ _ _ _ hk⟩
  unfold f6_laysLate
  rw [s6_isStory hNw hD, q_bd, isS_1 hs h0]
  simp (disch := omega) only [q_lit, q_gt, q_bd, q_bxl, q_bxr, q_vib, q_cl, q_pos, q_lt, q_le, q_eq, q_neg, q_neg1, q_negz, q_negeq0, q_neg0le, q_rem, q_div, q_sub, q_if1, q_if0, q_okB0, q_okB1, q_dz, q_dn, q_nb, and_true, true_and, and_false, false_and, nI_add, pk_mul, if_true, if_false, ite_true, ite_false, Nat.add_zero, Nat.zero_add, Nat.reduceAdd, s6_of hNw]
end C2
section C3
variable {σ : Hp}
theorem case_setPhoto (hI : Inv σ) (N : Nat) (hN : 500 ≤ N) (x1 x2 x3 : Int32) : Agree (fL_setPhoto N x1 x2 x3) (f6_setPhoto N x1 x2 x3) σ := by
  obtain ⟨D, ⟨h1, h2, h3⟩, h4, ⟨c, n, Es, h5, h6⟩, h7⟩ := id hI
  have hF := s1_faultOfPhoto h2 h1 N x1 x2 x3
  by_cases z : fltP D x1 x2 x3 = 0
  · have z' := z
    unfold fltP at z'
    rcases isS_cases h1 x1 with q | ⟨q, s, hs, rfl, h0⟩
    · rw [q] at z'
      exact absurd (show (1 : Nat) = 0 from z') (by decide)
    rw [q, if_neg (show ¬ (1 : Nat) = 0 by decide)] at z'
    have ok : phOk x2 x3 = true := by
      cases e : phOk x2 x3
      · rw [e] at z'
        exact absurd (show (2 : Nat) = 0 from z') (by decide)
      · rfl
    obtain ⟨a, cc, rfl, rfl, a8, c2⟩ := phOk_some ok
    have hD' := photo_ok h1 hs a8 c2
    obtain ⟨σm, e1, e2⟩ := mut_class (β := (Int32 ⊕ Nat) × Hp) N hN h2 h1 hD' h5 (fun τ => bd (f1_storyNumber N 1 (nI s) (nI 5) τ) (fun r τ1 => bd (f1_putPhoto N 1 (nI s) (nI a) (nI cc) τ1) (fun _ τ2 => some (r, τ2)))) (nI (dS D s 6)) (fun τ hτ => by
      obtain ⟨τ', t1, t2, t3⟩ := s1_photo hτ N hs a cc
      refine ⟨τ', ?_, t2, fun k hk => t3 k (by omega)⟩
      simp (disch := omega) only [q_lit, q_gt, q_bd, q_bxl, q_bxr, q_vib, q_cl, q_pos, q_lt, q_le, q_eq, q_neg, q_neg1, q_negz, q_negeq0, q_neg0le, q_rem, q_div, q_sub, q_if1, q_if0, q_okB0, q_okB1, q_dz, q_dn, q_nb, and_true, true_and, and_false, false_and, nI_add, pk_mul, if_true, if_false, ite_true, ite_false, Nat.add_zero, Nat.zero_add, Nat.reduceAdd, s1_sn hτ, t1])
    obtain ⟨σ', g1, g2, g3, g4⟩ := mut_ref N hN hD' e2 h3 h5.2.2.1 h6 h7 (nI (dS D s 6)) (f6_laysPhoto N (nI s) (nI a) (nI cc)) (nI (dS D s 6)) (fun τ hτ _ => s6_laysPhoto_ok hτ h1 N s a cc hs h0 ok)
    refine ⟨0, _, _, σ', by omega, ?_, g1, g2, fun _ => g3, g4⟩
    have e1' := e1 (fun r σ => some (.inl r, σ))
    simp only [bd_bd, q_bd] at e1'
    unfold fL_setPhoto f5_setPhoto
    rw [hF, q_bd, z]
    unfold f5_refuse
    simp (disch := omega) only [q_lit, q_gt, q_bd, q_bxl, q_bxr, q_vib, q_cl, q_pos, q_lt, q_le, q_eq, q_neg, q_neg1, q_negz, q_negeq0, q_neg0le, q_rem, q_div, q_sub, q_if1, q_if0, q_okB0, q_okB1, q_dz, q_dn, q_nb, and_true, true_and, and_false, false_and, nI_add, pk_mul, if_true, if_false, ite_true, ite_false, Nat.add_zero, Nat.zero_add, Nat.reduceAdd]
    rw [e1']
    rfl
  · have hle : fltP D x1 x2 x3 ≤ 2 := by
      unfold fltP
      repeat' split
      all_goals omega
    obtain ⟨σ', r, g1, g2, g3⟩ := ref_refuse N hN hI h3 (fltP D x1 x2 x3) (by omega) (by omega) (f6_laysPhoto N x1 x2 x3) (fun τ hτ => s6_laysPhoto_f hτ h1 N x1 x2 x3 _ rfl z)
    refine ⟨_, σ, r, σ', by omega, ?_, g1, g2, fun q => absurd q z, g3⟩
    unfold fL_setPhoto f5_setPhoto
    rw [hF, q_bd]
    generalize fltP D x1 x2 x3 = f at hle z
    unfold f5_refuse
    obtain rfl | rfl : f = 1 ∨ f = 2 := by omega
    · rfl
    · rfl
theorem s5_needStory {D : Nat → Nat} (hE : EdR σ 1 D) (hD : DOk D) (N : Nat) (x : Int32) : f5_needStory N x σ = if isS D x = 0 then some (.inr 1, σ) else some (.inl (), σ) := by
  unfold f5_needStory
  rw [s1_hasX hE hD, q_bd]
  rcases isS_cases hD x with z | ⟨z, -⟩
  · rw [z]
    rfl
  · rw [z]
    rfl
theorem s5_needAd {D : Nat → Nat} (hE : EdR σ 1 D) (hD : DOk D) (N : Nat) (x : Int32) : f5_needAdvertisement N x σ = if isAdv D x = 0 then some (.inr 1, σ) else some (.inl (), σ) := by
  unfold f5_needAdvertisement
  rw [s1_hasXA hE hD, q_bd]
  rcases isAdv_cases hD x with z | ⟨z, -⟩
  · rw [z]
    rfl
  · rw [z]
    rfl
theorem case_setLate (hI : Inv σ) (N : Nat) (hN : 500 ≤ N) (x1 x2 : Int32) : ∃ f σ1 r σ2, f < 10 ∧ fL_setLate N x1 x2 σ = some (nI f, σ1) ∧ f6_setLate N x1 x2 σ1 = some (r, σ2) ∧ σ2 84 0 = nI f ∧ (f = 0 → σ2 100 0 = (if r = 0 then nI 0 else nI 1)) ∧ Inv σ2 := by
  obtain ⟨D, ⟨h1, h2, h3⟩, h4, ⟨c, n, Es, h5, h6⟩, h7⟩ := id hI
  have ref : ∀ (v : Nat), (if x2 = nI 0 then 0 else 1) = v → f6_setLate N x1 x2 = fun τ => bd (f6_begins N τ) (fun _ σ1 => bd (f6_laysLate N x1 (nI v) σ1) (fun r16 σ16 => bd (f6_ends N r16 σ16) (fun r19 σ19 => if r19 = (1 : Int32) then some (1, σ19) else some (0, σ19)))) := by
    intro v hv
    funext τ
    unfold f6_setLate f6_setLate_J16
    by_cases z : x2 = nI 0
    · rw [if_pos z] at hv
      subst hv
      simp only [if_pos (show x2 = 0 from z)]
      rfl
    · rw [if_neg z] at hv
      subst hv
      simp only [if_neg (show ¬ x2 = 0 from z)]
      rfl
  rw [ref _ rfl]
  have post : ∀ (put : Hp → Option (Int32 × Hp)) (τ σ' : Hp) (r : Int32), bd (f6_begins N τ) (fun _ σ1 => bd (put σ1) (fun a σ2 => bd (f6_ends N a σ2) (fun b σ3 => some (b, σ3)))) = some (r, σ') → bd (f6_begins N τ) (fun _ σ1 => bd (put σ1) (fun r16 σ16 => bd (f6_ends N r16 σ16) (fun r19 σ19 => if r19 = (1 : Int32) then some ((1 : Int32), σ19) else some (0, σ19)))) = (if r = 1 then some (1, σ') else some (0, σ')) := by
    intro put τ σ' r h
    have h2 := congrArg (fun x => bd x (fun r19 σ19 => if r19 = (1 : Int32) then some ((1 : Int32), σ19) else some (0, σ19))) h
    simp only [bd_bd, q_bd] at h2
    exact h2
  rcases isS_cases h1 x1 with q | ⟨q, s, hs, rfl, h0⟩
  · obtain ⟨σ', r, g1, g2, g3⟩ := ref_refuse N hN hI h3 1 (by omega) (by omega) (f6_laysLate N x1 (nI (if x2 = nI 0 then 0 else 1))) (fun τ hτ => s6_laysLate_f hτ h1 N x1 _ q)
    have g1' := post _ _ _ _ g1
    have e : fL_setLate N x1 x2 σ = some (nI 1, σ) := by
      unfold fL_setLate f5_setLate
      rw [s5_needStory h2 h1, q]
      rfl
    by_cases z : r = 1
    · rw [if_pos z] at g1'
      exact ⟨1, σ, 1, σ', by omega, e, g1', g2, fun q => by omega, g3⟩
    · rw [if_neg z] at g1'
      exact ⟨1, σ, 0, σ', by omega, e, g1', g2, fun q => by omega, g3⟩
  · have hv : (if x2 = nI 0 then 0 else 1) ≤ 1 := by split <;> omega
    have hD' := late_ok h1 hs hv
    have l1 := (h1.2.2.1 s hs).2.2.2.2.2.2.2.2.1
    obtain ⟨σm, e1, e2⟩ := mut_class (β := (Int32 ⊕ Nat) × Hp) N hN h2 h1 hD' h5 (fun τ => bd (f1_isLate N 1 (nI s) τ) (fun r τ1 => bd (f1_putLate N 1 (nI s) x2 τ1) (fun _ τ2 => some (r, τ2)))) (nI (dS D s 8)) (fun τ hτ => by
      refine ⟨_, ?_, EdR_st hτ hs (by omega) (if x2 = nI 0 then 0 else 1), fun k hk => st_row _ _ _ _ (by omega)⟩
      rw [s1_isLate hτ h1 hs, q_bd, s1_putLate N 1 hs, q_bd])
    obtain ⟨σ', g1, g2, g3, g4⟩ := mut_ref N hN hD' e2 h3 h5.2.2.1 h6 h7 (nI (dS D s 8)) (f6_laysLate N (nI s) (nI (if x2 = nI 0 then 0 else 1))) (nI (dS D s 8)) (fun τ hτ _ => s6_laysLate_ok hτ h1 N s _ hs h0)
    have g1' := post _ _ _ _ g1
    have e1' := e1 (fun r σ => gd (okB r) (some (.inl r, σ)))
    simp only [bd_bd, q_bd] at e1'
    have e : fL_setLate N (nI s) x2 σ = some (nI 0, st σm 100 0 (nI (dS D s 8))) := by
      unfold fL_setLate f5_setLate
      rw [s5_needStory h2 h1, q, if_neg (show ¬ (1 : Nat) = 0 by decide), q_bxl, e1']
      rcases bit_cases l1 with w | w
      · rw [w]
        rfl
      · rw [w]
        rfl
    rcases bit_cases l1 with w | w
    · rw [w] at e g1' g3
      exact ⟨0, _, 0, σ', by omega, e, g1', g2, fun _ => g3, g4⟩
    · rw [w] at e g1' g3
      exact ⟨0, _, 1, σ', by omega, e, g1', g2, fun _ => g3, g4⟩
end C3
