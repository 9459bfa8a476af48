/-! THE PURE PART. Single numbers of an edition changed; is there such a story, such an advertisement? -/
theorem bd_bd {α β γ : Type} (x : Option (α × Hp)) (f : α → Hp → Option (β × Hp)) (h : β → Hp → Option γ) : bd (bd x f) h = bd x (fun a σ => bd (f a σ) h) := by
  cases x with
  | none => rfl
  | some q => rfl
def setD (D : Nat → Nat) (s k v : Nat) : Nat → Nat := upN D (2 + 9 * s + k) v
theorem setD_S {D : Nat → Nat} {s k v s' k' : Nat} (hk : k < 9) (hk' : k' < 9) : dS (setD D s k v) s' k' = if s' = s ∧ k' = k then v else dS D s' k' := by
  unfold dS setD upN
  exact q_ifc (by omega)
theorem setD_A {D : Nat → Nat} {s k v a k' : Nat} (hs : s < 12) (hk : k < 9) : dA (setD D s k v) a k' = dA D a k' := by
  unfold dA setD upN
  rw [if_neg (by omega)]
def dropA (D : Nat → Nat) (a : Nat) : Nat → Nat := upN D (110 + 7 * a) 0
theorem dropA_A {D : Nat → Nat} {a a' k : Nat} (hk : k < 7) : dA (dropA D a) a' k = if a' = a ∧ k = 0 then 0 else dA D a' k := by
  unfold dA dropA upN
  exact q_ifc (by omega)
theorem dropA_S {D : Nat → Nat} {a s k : Nat} (hs : s < 12) (hk : k < 9) : dS (dropA D a) s k = dS D s k := by
  unfold dS dropA upN
  rw [if_neg (by omega)]
theorem setD_ok {D : Nat → Nat} {s k v : Nat} (hD : DOk D) (hs : s < 12) (hk : k < 9) (h : SOk (setD D s k v) s) : DOk (setD D s k v) := by
  obtain ⟨d0, d1, d2, d3⟩ := hD
  refine ⟨?_, ?_, fun t ht => ?_, fun a ha => ?_⟩
  · unfold setD upN
    rw [if_neg (by omega)]
    exact d0
  · unfold setD upN
    rw [if_neg (by omega)]
    exact d1
  · by_cases z : t = s
    · rw [z]
      exact h
    · unfold SOk
      simp only [setD_S hk (show 0 < 9 by omega), setD_S hk (show 1 < 9 by omega), setD_S hk (show 2 < 9 by omega), setD_S hk (show 3 < 9 by omega), setD_S hk (show 4 < 9 by omega), setD_S hk (show 5 < 9 by omega), setD_S hk (show 6 < 9 by omega), setD_S hk (show 7 < 9 by omega), setD_S hk (show 8 < 9 by omega), z, false_and, if_false]
      exact d2 t ht
  · unfold AOk
    simp only [setD_A hs hk]
    exact d3 a ha
theorem dropA_ok {D : Nat → Nat} {a : Nat} (hD : DOk D) : DOk (dropA D a) := by
  obtain ⟨d0, d1, d2, d3⟩ := hD
  refine ⟨?_, ?_, fun t ht => ?_, fun a' ha => ?_⟩
  · unfold dropA upN
    rw [if_neg (by omega)]
    exact d0
  · unfold dropA upN
    rw [if_neg (by omega)]
    exact d1
  · unfold SOk
    simp only [dropA_S ht (show 0 < 9 by omega), dropA_S ht (show 1 < 9 by omega), dropA_S ht (show 2 < 9 by omega), dropA_S ht (show 3 < 9 by omega), dropA_S ht (show 4 < 9 by omega), dropA_S ht (show 5 < 9 by omega), dropA_S ht (show 6 < 9 by omega), dropA_S ht (show 7 < 9 by omega), dropA_S ht (show 8 < 9 by omega)]
    exact d2 t ht
  · have := d3 a' ha
    unfold AOk at this ⊢
    rw [dropA_A (by omega), dropA_A (by omega), dropA_A (by omega), dropA_A (by omega), dropA_A (by omega), dropA_A (by omega), dropA_A (by omega)]
    have n : ∀ j, 0 < j → ¬ (a' = a ∧ j = 0) := fun j hj h => by omega
    rw [if_neg (n 1 (by omega)), if_neg (n 2 (by omega)), if_neg (n 3 (by omega)), if_neg (n 4 (by omega)), if_neg (n 5 (by omega)), if_neg (n 6 (by omega))]
    refine ⟨?_, this.2.1, this.2.2.1, this.2.2.2.1, this.2.2.2.2.1, this.2.2.2.2.2.1, this.2.2.2.2.2.2.1, ?_⟩
    · split
      · omega
      · exact this.1
    · split
      · intro h
        omega
      · exact this.2.2.2.2.2.2.2
section S1
variable {σ : Hp} {D : Nat → Nat} {b : Nat}
theorem EdR_st (hE : EdR σ b D) {s k : Nat} (hs : s < 12) (hk : k < 8) (v : Nat) : EdR (st σ (b + 2) (s * 8 + k) (nI v)) b (setD D s (k + 1) v) := by
  obtain ⟨e1, e2, e3, e4, e5, e6⟩ := hE
  refine ⟨?_, ?_, fun t ht => ?_, fun t q ht hq => ?_, fun a ha => ?_, fun a q ha hq => ?_⟩
  · rw [st_row _ _ _ _ (by omega), e1]
    unfold setD upN
    rw [if_neg (by omega)]
  · rw [st_row _ _ _ _ (by omega), e2]
    unfold setD upN
    rw [if_neg (by omega)]
  · rw [st_row _ _ _ _ (by omega), e3 t ht, setD_S (by omega) (by omega), if_neg (by omega)]
  · rw [st_get, setD_S (by omega) (by omega)]
    by_cases z : t = s ∧ q = k
    · rw [if_pos (by omega), if_pos (by omega)]
    · rw [if_neg (by omega), if_neg (by omega)]
      exact e4 t q ht hq
  · rw [st_row _ _ _ _ (by omega), e5 a ha, setD_A hs (by omega)]
  · rw [st_row _ _ _ _ (by omega), e6 a q ha hq, setD_A hs (by omega)]
theorem EdR_drop (hE : EdR σ b D) {s : Nat} (hs : s < 12) : EdR (st σ (b + 1) s (nI 0)) b (setD D s 0 0) := by
  obtain ⟨e1, e2, e3, e4, e5, e6⟩ := hE
  refine ⟨?_, ?_, fun t ht => ?_, fun t q ht hq => ?_, fun a ha => ?_, fun a q ha hq => ?_⟩
  · rw [st_row _ _ _ _ (by omega), e1]
    unfold setD upN
    rw [if_neg (by omega)]
  · rw [st_row _ _ _ _ (by omega), e2]
    unfold setD upN
    rw [if_neg (by omega)]
  · rw [st_get, setD_S (by omega) (by omega)]
    by_cases z : t = s
    · rw [if_pos ⟨rfl, z⟩, if_pos ⟨z, rfl⟩]
    · rw [if_neg (by omega), if_neg (by omega)]
      exact e3 t ht
  · rw [st_row _ _ _ _ (by omega), e4 t q ht hq, setD_S (by omega) (by omega), if_neg (by omega)]
  · rw [st_row _ _ _ _ (by omega), e5 a ha, setD_A hs (by omega)]
  · rw [st_row _ _ _ _ (by omega), e6 a q ha hq, setD_A hs (by omega)]
theorem EdR_dropA (hE : EdR σ b D) {a : Nat} (ha : a < 8) : EdR (st σ (b + 3) a (nI 0)) b (dropA D a) := by
  obtain ⟨e1, e2, e3, e4, e5, e6⟩ := hE
  refine ⟨?_, ?_, fun t ht => ?_, fun t q ht hq => ?_, fun a' ha' => ?_, fun a' q ha' hq => ?_⟩
  · rw [st_row _ _ _ _ (by omega), e1]
    unfold dropA upN
    rw [if_neg (by omega)]
  · rw [st_row _ _ _ _ (by omega), e2]
    unfold dropA upN
    rw [if_neg (by omega)]
  · rw [st_row _ _ _ _ (by omega), e3 t ht, dropA_S ht (by omega)]
  · rw [st_row _ _ _ _ (by omega), e4 t q ht hq, dropA_S ht (by omega)]
  · rw [st_get, dropA_A (by omega)]
    by_cases z : a' = a
    · rw [if_pos ⟨rfl, z⟩, if_pos ⟨z, rfl⟩]
    · rw [if_neg (by omega), if_neg (by omega)]
      exact e5 a' ha'
  · rw [st_row _ _ _ _ (by omega), e6 a' q ha' hq, dropA_A (by omega), if_neg (by omega)]
theorem NwR_st {r : Nat} (h : NwR σ r D) {i : Nat} (v : Nat) : NwR (st σ r i (nI v)) r (upN D i v) := by
  intro t ht
  rw [st_get]
  unfold upN
  by_cases z : t = i
  · rw [if_pos ⟨rfl, z⟩, if_pos z]
  · rw [if_neg (fun q => z q.2), if_neg z]
    exact h t ht
def isS (D : Nat → Nat) (x : Int32) : Nat := if inB x 0 11 then dS D x.toNatClampNeg 0 else 0
def isAdv (D : Nat → Nat) (x : Int32) : Nat := if inB x 0 7 then dA D x.toNatClampNeg 0 else 0
theorem isS_cases (hD : DOk D) (x : Int32) : isS D x = 0 ∨ (isS D x = 1 ∧ ∃ s, s < 12 ∧ x = nI s ∧ dS D s 0 = 1) := by
  unfold isS
  cases e : inB x 0 11
  · exact Or.inl rfl
  · obtain ⟨s, s1, s2, rfl⟩ := inB_some e (by decide) (by decide)
    rw [if_pos rfl, q_cl (by omega)]
    rcases bit_cases (hD.2.2.1 s (by omega)).1 with z | z
    · exact Or.inl z
    · exact Or.inr ⟨z, s, by omega, rfl, z⟩
theorem isAdv_cases (hD : DOk D) (x : Int32) : isAdv D x = 0 ∨ (isAdv D x = 1 ∧ ∃ s, s < 8 ∧ x = nI s ∧ dA D s 0 = 1) := by
  unfold isAdv
  cases e : inB x 0 7
  · exact Or.inl rfl
  · obtain ⟨s, s1, s2, rfl⟩ := inB_some e (by decide) (by decide)
    rw [if_pos rfl, q_cl (by omega)]
    rcases bit_cases (hD.2.2.2 s (by omega)).1 with z | z
    · exact Or.inl z
    · exact Or.inr ⟨z, s, by omega, rfl, z⟩
theorem s1_hasX (hE : EdR σ b D) (hD : DOk D) (N : Nat) (x : Int32) : f1_hasStory N b x σ = some (nI (isS D x), σ) := by
  cases e : inB x 0 11
  · unfold f1_hasStory isS
    rw [s5_storyIx, q_bd, e, if_pos (by decide)]
    rfl
  · obtain ⟨s, s1, s2, rfl⟩ := inB_some e (by decide) (by decide)
    unfold isS
    rw [e, if_pos rfl, q_cl (by omega)]
    exact s1_hasStory hE hD (by omega) N
theorem s1_hasXA (hE : EdR σ b D) (hD : DOk D) (N : Nat) (x : Int32) : f1_hasAdvertisement N b x σ = some (nI (isAdv D x), σ) := by
  cases e : inB x 0 7
  · unfold f1_hasAdvertisement isAdv
    rw [s5_adIx, q_bd, e, if_pos (by decide)]
    rfl
  · obtain ⟨s, s1, s2, rfl⟩ := inB_some e (by decide) (by decide)
    unfold isAdv
    rw [e, if_pos rfl, q_cl (by omega)]
    exact s1_hasAd hE hD (by omega) N
theorem s6_isStory (hN : NwR σ 85 D) (hD : DOk D) (N : Nat) (x : Int32) : f6_isStory N x σ = some (nI (isS D x), σ) := by
  unfold f6_isStory isS
  rw [show f6_in N x 0 11 σ = some (nI (b2 (inB x 0 11)), σ) from s6_in N x 0 11, q_bd]
  cases e : inB x 0 11
  · rw [if_pos (by decide)]
    rfl
  · obtain ⟨s, s1, s2, rfl⟩ := inB_some e (by decide) (by decide)
    rw [if_neg (show ¬ nI (b2 true) = 0 by decide), if_pos rfl, q_cl (by omega)]
    simp (disch := omega) only [q_lit, q_gt, q_bd, q_bxl, q_bxr, q_vib, q_cl, q_pos, q_lt, q_le, q_eq, q_neg, q_neg1, q_negz, q_negeq0, q_neg0le, q_rem, q_div, q_sub, q_if1, q_if0, q_okB0, q_okB1, q_dz, q_dn, q_nb, and_true, true_and, and_false, false_and, nI_add, pk_mul, if_true, if_false, ite_true, ite_false, Nat.add_zero, Nat.zero_add, Nat.reduceAdd, s6_of hN]
    rcases bit_cases (hD.2.2.1 s (by omega)).1 with z | z
    · rw [z]
      simp (disch := omega) only [q_lit, q_gt, q_bd, q_bxl, q_bxr, q_vib, q_cl, q_pos, q_lt, q_le, q_eq, q_neg, q_neg1, q_negz, q_negeq0, q_neg0le, q_rem, q_div, q_sub, q_if1, q_if0, q_okB0, q_okB1, q_dz, q_dn, q_nb, and_true, true_and, and_false, false_and, nI_add, pk_mul, if_true, if_false, ite_true, ite_false, Nat.add_zero, Nat.zero_add, Nat.reduceAdd]
    · rw [z]
      simp (disch := omega) only [q_lit, q_gt, q_bd, q_bxl, q_bxr, q_vib, q_cl, q_pos, q_lt, q_le, q_eq, q_neg, q_neg1, q_negz, q_negeq0, q_neg0le, q_rem, q_div, q_sub, q_if1, q_if0, q_okB0, q_okB1, q_dz, q_dn, q_nb, and_true, true_and, and_false, false_and, nI_add, pk_mul, if_true, if_false, ite_true, ite_false, Nat.add_zero, Nat.zero_add, Nat.reduceAdd]
theorem s6_isAd (hN : NwR σ 85 D) (hD : DOk D) (N : Nat) (x : Int32) : f6_isAd N x σ = some (nI (isAdv D x), σ) := by
  unfold f6_isAd isAdv
  rw [show f6_in N x 0 7 σ = some (nI (b2 (inB x 0 7)), σ) from s6_in N x 0 7, q_bd]
  cases e : inB x 0 7
  · rw [if_pos (by decide)]
    rfl
  · obtain ⟨s, s1, s2, rfl⟩ := inB_some e (by decide) (by decide)
    rw [if_neg (show ¬ nI (b2 true) = 0 by decide), if_pos rfl, q_cl (by omega)]
    simp (disch := omega) only [q_lit, q_gt, q_bd, q_bxl, q_bxr, q_vib, q_cl, q_pos, q_lt, q_le, q_eq, q_neg, q_neg1, q_negz, q_negeq0, q_neg0le, q_rem, q_div, q_sub, q_if1, q_if0, q_okB0, q_okB1, q_dz, q_dn, q_nb, and_true, true_and, and_false, false_and, nI_add, pk_mul, if_true, if_false, ite_true, ite_false, Nat.add_zero, Nat.zero_add, Nat.reduceAdd, s6_ad hN]
    rcases bit_cases (hD.2.2.2 s (by omega)).1 with z | z
    · rw [z]
      simp (disch := omega) only [q_lit, q_gt, q_bd, q_bxl, q_bxr, q_vib, q_cl, q_pos, q_lt, q_le, q_eq, q_neg, q_neg1, q_negz, q_negeq0, q_neg0le, q_rem, q_div, q_sub, q_if1, q_if0, q_okB0, q_okB1, q_dz, q_dn, q_nb, and_true, true_and, and_false, false_and, nI_add, pk_mul, if_true, if_false, ite_true, ite_false, Nat.add_zero, Nat.zero_add, Nat.reduceAdd]
    · rw [z]
      simp (disch := omega) only [q_lit, q_gt, q_bd, q_bxl, q_bxr, q_vib, q_cl, q_pos, q_lt, q_le, q_eq, q_neg, q_neg1, q_negz, q_negeq0, q_neg0le, q_rem, q_div, q_sub, q_if1, q_if0, q_okB0, q_okB1, q_dz, q_dn, q_nb, and_true, true_and, and_false, false_and, nI_add, pk_mul, if_true, if_false, ite_true, ite_false, Nat.add_zero, Nat.zero_add, Nat.reduceAdd]
end S1
/-! two sides agree on a call -/
def Agree (A B : Hp → Option (Int32 × Hp)) (σ : Hp) : Prop := ∃ f σ1 r σ2, f < 10 ∧ A σ = some (nI f, σ1) ∧ B σ1 = some (r, σ2) ∧ σ2 84 0 = nI f ∧ (f = 0 → σ2 100 0 = r) ∧ Inv σ2
/-- the law's tail -/
theorem agree_tail {ρ : Type} {A B : Hp → Option (Int32 × Hp)} {σ : Hp} (h : Agree A B σ) (N : Nat) (K : Hp → Option ρ) : ∃ σ', Inv σ' ∧ bd (A σ) (fun r σ1 => bd (B σ1) (fun b σ2 => bd (f6_thrown N σ2) (fun t σ3 => if t = r then if r = 0 then if (σ3 100 0) = b then K σ3 else none else K σ3 else none))) = K σ' := by
  obtain ⟨f, σ1, r, σ2, hf, h1, h2, h3, h4, h5⟩ := h
  refine ⟨σ2, h5, ?_⟩
  rw [h1, q_bd, h2, q_bd]
  unfold f6_thrown
  rw [q_bd, h3, if_pos rfl]
  by_cases z : f = 0
  · rw [if_pos (by rw [z]; rfl), if_pos (h4 z)]
  · rw [if_neg (fun q => z (by rw [show (0 : Int32) = nI 0 from rfl, nI_eq (by omega) (by omega)] at q; exact q))]
section C1
variable {σ : Hp}
theorem case_addStory (hI : Inv σ) (N : Nat) (hN : 500 ≤ N) (x1 x2 x3 x4 x5 : Int32) : Agree (fL_addStory N x1 x2 x3 x4 x5) (f6_addStory N x1 x2 x3 x4 x5) σ := by
  obtain ⟨D, ⟨h1, h2, h3⟩, h4, ⟨c, n, Es, h5, h6⟩, h7⟩ := id hI
  have hle := fltS_le D x1 x2 x3 x4 x5
  have hF := s1_faultOfStory N 1 h2 h1 x1 x2 x3 x4 x5
  by_cases z : fltS D x1 x2 x3 x4 x5 = 0
  · obtain ⟨d0, n1, n2, n3, n4, n5, p, w, h, l, pr, rfl, rfl, rfl, rfl, rfl, b1, b2, b3, b4, b5⟩ := fltS_ok z
    have hD' := storyD_ok h1 d0 b1 b2 b3 b4 b5
    obtain ⟨σm, e1, e2⟩ := mut_class (β := (Int32 ⊕ Nat) × Hp) N hN h2 h1 hD' h5 (f1_putStory N 1 (nI p) (nI w) (nI h) (nI l) (nI pr)) (nI (D 0)) (fun τ hτ => by
      obtain ⟨τ', t1, t2, t3⟩ := s1_putStory N 1 hτ d0 p w h l pr
      exact ⟨τ', t1, t2, fun k hk => t3 k (by omega)⟩)
    obtain ⟨σ', g1, g2, g3, g4⟩ := mut_ref N hN hD' e2 h3 h5.2.2.1 h6 h7 (nI (D 0)) (f6_laysStory N (nI p) (nI w) (nI h) (nI l) (nI pr)) (nI (D 0)) (fun τ hτ _ => s6_laysStory_ok N hN hτ p w h l pr d0 n1 n2 n3 n4 n5)
    refine ⟨0, _, _, σ', by omega, ?_, g1, g2, fun _ => g3, g4⟩
    unfold fL_addStory f5_addStory
    rw [hF, q_bd, z]
    unfold f5_refuse
    simp (disch := omega) only [q_lit, q_gt, q_bd, q_bxl, q_bxr, q_vib, q_cl, q_pos, q_lt, q_le, q_eq, q_neg, q_neg1, q_negz, q_negeq0, q_neg0le, q_rem, q_div, q_sub, q_if1, q_if0, q_okB0, q_okB1, q_dz, q_dn, q_nb, and_true, true_and, and_false, false_and, nI_add, pk_mul, if_true, if_false, ite_true, ite_false, Nat.add_zero, Nat.zero_add, Nat.reduceAdd]
    rw [e1]
    rfl
  · obtain ⟨σ', r, g1, g2, g3⟩ := ref_refuse N hN hI h3 (fltS D x1 x2 x3 x4 x5) (by omega) (by omega) (f6_laysStory N x1 x2 x3 x4 x5) (fun τ hτ => s6_laysStory_f N hτ h1 x1 x2 x3 x4 x5 _ rfl z)
    refine ⟨_, σ, r, σ', by omega, ?_, g1, g2, fun q => absurd q z, g3⟩
    unfold fL_addStory f5_addStory
    rw [hF, q_bd]
    generalize fltS D x1 x2 x3 x4 x5 = f at hle z
    unfold f5_refuse
    obtain rfl | rfl | rfl : f = 1 ∨ f = 2 ∨ f = 3 := by omega
    · rfl
    · rfl
    · rfl
theorem case_addAd (hI : Inv σ) (N : Nat) (hN : 500 ≤ N) (x1 x2 x3 x4 x5 x6 : Int32) : Agree (fL_addAdvertisement N x1 x2 x3 x4 x5 x6) (f6_addAdvertisement N x1 x2 x3 x4 x5 x6) σ := by
  obtain ⟨D, ⟨h1, h2, h3⟩, h4, ⟨c, n, Es, h5, h6⟩, h7⟩ := id hI
  have hle := fltA_le D x1 x2 x3 x4 x5 x6
  have hF := s1_faultOfAd N 1 hN h2 h1 x1 x2 x3 x4 x5 x6
  by_cases z : fltA D x1 x2 x3 x4 x5 x6 = 0
  · obtain ⟨d1, p, cc, r, w, h, pr, rfl, rfl, rfl, rfl, rfl, rfl, b1, b2, b3, b4, b5, b6, b7, b8⟩ := fltA_ok z
    have hD' := adD_ok (pr := pr) h1 d1 b1 b2 b3 b4 b5 b7 b6
    obtain ⟨σm, e1, e2⟩ := mut_class (β := (Int32 ⊕ Nat) × Hp) N hN h2 h1 hD' h5 (f1_putAdvertisement N 1 (nI p) (nI cc) (nI r) (nI w) (nI h) (nI pr)) (nI (D 1)) (fun τ hτ => by
      obtain ⟨τ', t1, t2, t3⟩ := s1_putAd N 1 hτ d1 p cc r w h pr
      exact ⟨τ', t1, t2, fun k hk => t3 k (by omega)⟩)
    obtain ⟨σ', g1, g2, g3, g4⟩ := mut_ref N hN hD' e2 h3 h5.2.2.1 h6 h7 (nI (D 1)) (f6_laysAd N (nI p) (nI cc) (nI r) (nI w) (nI h) (nI pr)) (nI (D 1)) (fun τ hτ _ => s6_laysAd_ok N hN hτ h1 p cc r w h pr d1 b1 b2 b3 b4 b5 b6 b7 b8)
    refine ⟨0, _, _, σ', by omega, ?_, g1, g2, fun _ => g3, g4⟩
    unfold fL_addAdvertisement f5_addAdvertisement
    rw [hF, q_bd, z]
    unfold f5_refuse
    simp (disch := omega) only [q_lit, q_gt, q_bd, q_bxl, q_bxr, q_vib, q_cl, q_pos, q_lt, q_le, q_eq, q_neg, q_neg1, q_negz, q_negeq0, q_neg0le, q_rem, q_div, q_sub, q_if1, q_if0, q_okB0, q_okB1, q_dz, q_dn, q_nb, and_true, true_and, and_false, false_and, nI_add, pk_mul, if_true, if_false, ite_true, ite_false, Nat.add_zero, Nat.zero_add, Nat.reduceAdd]
    rw [e1]
    rfl
  · obtain ⟨σ', r, g1, g2, g3⟩ := ref_refuse N hN hI h3 (fltA D x1 x2 x3 x4 x5 x6) (by omega) (by omega) (f6_laysAd N x1 x2 x3 x4 x5 x6) (fun τ hτ => s6_laysAd_f N hN hτ h1 x1 x2 x3 x4 x5 x6 _ rfl z)
    refine ⟨_, σ, r, σ', by omega, ?_, g1, g2, fun q => absurd q z, g3⟩
    unfold fL_addAdvertisement f5_addAdvertisement
    rw [hF, q_bd]
    generalize fltA D x1 x2 x3 x4 x5 x6 = f at hle z
    unfold f5_refuse
    obtain rfl | rfl | rfl : f = 1 ∨ f = 2 ∨ f = 3 := by omega
    · rfl
    · rfl
    · rfl
end C1
