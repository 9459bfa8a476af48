/-! THE PURE PART. Carrying out a command, on both sides. -/
section EX
variable {σ : Hp} {D : Nat → Nat}
def exF (D : Nat → Nat) (x : Nat) (v : Nat → Nat) : Nat := if x = 115 then fltS D (nI (v 0)) (nI (v 1)) (nI (v 2)) (nI (v 3)) (nI (v 4)) else if x = 97 then fltA D (nI (v 0)) (nI (v 1)) (nI (v 2)) (nI (v 3)) (nI (v 4)) (nI (v 5)) else if x = 112 then fltP D (nI (v 0)) (nI (v 1)) (nI (v 2)) else if isS D (nI (v 0)) = 0 then 1 else 0
def exD (D : Nat → Nat) (x : Nat) (v : Nat → Nat) : Nat → Nat := if x = 115 then storyD D (v 0) (v 1) (v 2) (v 3) (v 4) else if x = 97 then adD D (v 0) (v 1) (v 2) (v 3) (v 4) (v 5) else if x = 112 then setD (setD D (v 0) 6 (v 1)) (v 0) 7 (v 2) else setD D (v 0) 8 (if v 1 = 0 then 0 else 1)
theorem nI_inj {x y : Nat} (hx : x < 2 ^ 31) (hy : y < 2 ^ 31) (h : nI x = nI y) : x = y := by rwa [nI_eq hx hy] at h
theorem fltP_le (D : Nat → Nat) (x h c : Int32) : fltP D x h c ≤ 2 := by
  unfold fltP
  split
  · omega
  · split
    · omega
    · omega
theorem exF_le (D : Nat → Nat) (x : Nat) (v : Nat → Nat) : exF D x v ≤ 3 := by
  unfold exF
  split
  · exact fltS_le ..
  · split
    · exact fltA_le ..
    · split
      · have := fltP_le D (nI (v 0)) (nI (v 1)) (nI (v 2))
        omega
      · split
        · omega
        · omega
theorem ph_in {x y : Nat} (hx : x < 2 ^ 31) (hy : y < 2 ^ 31) (h : phOk (nI x) (nI y) = true) : x ≤ 8 ∧ y ≤ 2 := by
  obtain ⟨p, q, e1, e2, h1, h2⟩ := phOk_some h
  have := nI_inj hx (by omega) e1
  have := nI_inj hy (by omega) e2
  omega
theorem fltP_0 {x h c : Int32} (e : fltP D x h c = 0) : isS D x ≠ 0 ∧ phOk h c = true := by
  unfold fltP at e
  by_cases z : isS D x = 0
  · rw [if_pos z] at e
    cases e
  · rw [if_neg z] at e
    refine ⟨z, ?_⟩
    cases q : phOk h c
    · rw [q] at e
      cases e
    · rfl
theorem isS_in (hD : DOk D) {x : Nat} (hx : x < 2 ^ 31) (h : isS D (nI x) ≠ 0) : x < 12 ∧ dS D x 0 = 1 := by
  rcases isS_cases hD (nI x) with q | ⟨q, s, hs, e, h0⟩
  · exact absurd q h
  · have := nI_inj hx (by omega) e
    rw [this]
    exact ⟨hs, h0⟩
/-- the class carries out a command on the trial -/
theorem s5_carry (N : Nat) (hN : 500 ≤ N) (hE : EdR σ 6 D) (hD : DOk D) {c x : Nat} {v : Nat → Nat} (hx : szN x ≠ 0) (hl : f0_letterOf N (nI c) σ = some (nI x, σ)) (hv : ∀ k, k < szN x → f0_numberOf N (nI c) (nI k) σ = some (nI (v k), σ)) (hvl : ∀ k, v k ≤ 999) : ∃ σ', f5_carryOut N (nI c) σ = some (nI (exF D x v), σ') ∧ (∀ k, k < 6 ∨ 10 < k → σ' k = σ k) ∧ (exF D x v = 0 → EdR σ' 6 (exD D x v) ∧ DOk (exD D x v)) := by
  have b := hvl
  rcases szN_cases x with q | ⟨rfl, q⟩ | ⟨rfl, q⟩ | ⟨rfl, q⟩ | ⟨rfl, q⟩
  · exact absurd q.1 hx
  · rw [q] at hv
    rw [show exF D 115 v = fltS D (nI (v 0)) (nI (v 1)) (nI (v 2)) (nI (v 3)) (nI (v 4)) from rfl, show exD D 115 v = storyD D (v 0) (v 1) (v 2) (v 3) (v 4) from rfl]
    have hF := s1_faultOfStory N 6 hE hD (nI (v 0)) (nI (v 1)) (nI (v 2)) (nI (v 3)) (nI (v 4))
    have red : f5_carryOut N (nI c) σ = bd (if nI (fltS D (nI (v 0)) (nI (v 1)) (nI (v 2)) (nI (v 3)) (nI (v 4))) = 0 then bd (f1_putStory N 6 (nI (v 0)) (nI (v 1)) (nI (v 2)) (nI (v 3)) (nI (v 4)) σ) (fun r87 σ87 => some (nI (fltS D (nI (v 0)) (nI (v 1)) (nI (v 2)) (nI (v 3)) (nI (v 4))), σ87)) else some (nI (fltS D (nI (v 0)) (nI (v 1)) (nI (v 2)) (nI (v 3)) (nI (v 4))), σ)) (fun r46 σ46 => some (r46, σ46)) := by
      unfold f5_carryOut f5_carryOutStory
      rw [hl, q_bd, if_neg (show ¬ nI 115 = 97 by decide), if_neg (show ¬ nI 115 = 112 by decide), if_pos (show nI 115 = 115 from rfl)]
      rw [show f0_numberOf N (nI c) 0 σ = some (nI (v 0), σ) from hv 0 (by omega), q_bd, show f0_numberOf N (nI c) 1 σ = some (nI (v 1), σ) from hv 1 (by omega), q_bd, show f0_numberOf N (nI c) 2 σ = some (nI (v 2), σ) from hv 2 (by omega), q_bd, show f0_numberOf N (nI c) 3 σ = some (nI (v 3), σ) from hv 3 (by omega), q_bd, show f0_numberOf N (nI c) 4 σ = some (nI (v 4), σ) from hv 4 (by omega), q_bd, hF, q_bd]
    have hle := fltS_le D (nI (v 0)) (nI (v 1)) (nI (v 2)) (nI (v 3)) (nI (v 4))
    by_cases z : fltS D (nI (v 0)) (nI (v 1)) (nI (v 2)) (nI (v 3)) (nI (v 4)) = 0
    · obtain ⟨d0, -, -, -, -, -, p, w, h, l, pr, e1, e2, e3, e4, e5, b1, b2, b3, b4, b5⟩ := fltS_ok z
      have hD' := storyD_ok hD d0 b1 b2 b3 b4 b5
      obtain rfl := nI_inj (by have := b 0; omega) (by omega) e1
      obtain rfl := nI_inj (by have := b 1; omega) (by omega) e2
      obtain rfl := nI_inj (by have := b 2; omega) (by omega) e3
      obtain rfl := nI_inj (by have := b 3; omega) (by omega) e4
      obtain rfl := nI_inj (by have := b 4; omega) (by omega) e5
      obtain ⟨σ', a1, a2, a3⟩ := s1_putStory N 6 hE d0 (v 0) (v 1) (v 2) (v 3) (v 4)
      refine ⟨σ', ?_, fun k hk => a3 k (by omega), fun _ => ⟨a2, hD'⟩⟩
      rw [red, z, if_pos (show nI 0 = 0 from rfl), a1, q_bd, q_bd]
    · refine ⟨σ, ?_, fun _ _ => rfl, fun q => absurd q z⟩
      rw [red, if_neg (nI_ne0 (by omega) (by omega)), q_bd]
  · rw [q] at hv
    rw [show exF D 97 v = fltA D (nI (v 0)) (nI (v 1)) (nI (v 2)) (nI (v 3)) (nI (v 4)) (nI (v 5)) from rfl, show exD D 97 v = adD D (v 0) (v 1) (v 2) (v 3) (v 4) (v 5) from rfl]
    have hF := s1_faultOfAd N 6 hN hE hD (nI (v 0)) (nI (v 1)) (nI (v 2)) (nI (v 3)) (nI (v 4)) (nI (v 5))
    have red : f5_carryOut N (nI c) σ = bd (if nI (fltA D (nI (v 0)) (nI (v 1)) (nI (v 2)) (nI (v 3)) (nI (v 4)) (nI (v 5))) = 0 then bd (f1_putAdvertisement N 6 (nI (v 0)) (nI (v 1)) (nI (v 2)) (nI (v 3)) (nI (v 4)) (nI (v 5)) σ) (fun r87 σ87 => some (nI (fltA D (nI (v 0)) (nI (v 1)) (nI (v 2)) (nI (v 3)) (nI (v 4)) (nI (v 5))), σ87)) else some (nI (fltA D (nI (v 0)) (nI (v 1)) (nI (v 2)) (nI (v 3)) (nI (v 4)) (nI (v 5))), σ)) (fun r46 σ46 => some (r46, σ46)) := by
      unfold f5_carryOut f5_carryOutAdvertisement
      rw [hl, q_bd, if_pos (show nI 97 = 97 from rfl)]
      rw [show f0_numberOf N (nI c) 0 σ = some (nI (v 0), σ) from hv 0 (by omega), q_bd, show f0_numberOf N (nI c) 1 σ = some (nI (v 1), σ) from hv 1 (by omega), q_bd, show f0_numberOf N (nI c) 2 σ = some (nI (v 2), σ) from hv 2 (by omega), q_bd, show f0_numberOf N (nI c) 3 σ = some (nI (v 3), σ) from hv 3 (by omega), q_bd, show f0_numberOf N (nI c) 4 σ = some (nI (v 4), σ) from hv 4 (by omega), q_bd, show f0_numberOf N (nI c) 5 σ = some (nI (v 5), σ) from hv 5 (by omega), q_bd, hF, q_bd]
    have hle := fltA_le D (nI (v 0)) (nI (v 1)) (nI (v 2)) (nI (v 3)) (nI (v 4)) (nI (v 5))
    by_cases z : fltA D (nI (v 0)) (nI (v 1)) (nI (v 2)) (nI (v 3)) (nI (v 4)) (nI (v 5)) = 0
    · obtain ⟨d1, p, cc, r, w, h, pr, e1, e2, e3, e4, e5, e6, b1, b2, b3, b4, b5, b6, b7, b8⟩ := fltA_ok z
      have hD' := adD_ok (pr := pr) hD d1 b1 b2 b3 b4 b5 b7 b6
      obtain rfl := nI_inj (by have := b 0; omega) (by omega) e1
      obtain rfl := nI_inj (by have := b 1; omega) (by omega) e2
      obtain rfl := nI_inj (by have := b 2; omega) (by omega) e3
      obtain rfl := nI_inj (by have := b 3; omega) (by omega) e4
      obtain rfl := nI_inj (by have := b 4; omega) (by omega) e5
      obtain rfl := nI_inj (by have := b 5; omega) (by omega) e6
      obtain ⟨σ', a1, a2, a3⟩ := s1_putAd N 6 hE d1 (v 0) (v 1) (v 2) (v 3) (v 4) (v 5)
      refine ⟨σ', ?_, fun k hk => a3 k (by omega), fun _ => ⟨a2, hD'⟩⟩
      rw [red, z, if_pos (show nI 0 = 0 from rfl), a1, q_bd, q_bd]
    · refine ⟨σ, ?_, fun _ _ => rfl, fun q => absurd q z⟩
      rw [red, if_neg (nI_ne0 (by omega) (by omega)), q_bd]
  · rw [q] at hv
    rw [show exF D 112 v = fltP D (nI (v 0)) (nI (v 1)) (nI (v 2)) from rfl, show exD D 112 v = setD (setD D (v 0) 6 (v 1)) (v 0) 7 (v 2) from rfl]
    have hF := s1_faultOfPhoto (b := 6) hE hD N (nI (v 0)) (nI (v 1)) (nI (v 2))
    have red : f5_carryOut N (nI c) σ = bd (if nI (fltP D (nI (v 0)) (nI (v 1)) (nI (v 2))) = 0 then bd (f1_putPhoto N 6 (nI (v 0)) (nI (v 1)) (nI (v 2)) σ) (fun _ σ57 => some (nI (fltP D (nI (v 0)) (nI (v 1)) (nI (v 2))), σ57)) else some (nI (fltP D (nI (v 0)) (nI (v 1)) (nI (v 2))), σ)) (fun r46 σ46 => some (r46, σ46)) := by
      unfold f5_carryOut f5_carryOutPhoto
      rw [hl, q_bd, if_neg (show ¬ nI 112 = 97 by decide), if_pos (show nI 112 = 112 from rfl)]
      rw [show f0_numberOf N (nI c) 0 σ = some (nI (v 0), σ) from hv 0 (by omega), q_bd, show f0_numberOf N (nI c) 1 σ = some (nI (v 1), σ) from hv 1 (by omega), q_bd, show f0_numberOf N (nI c) 2 σ = some (nI (v 2), σ) from hv 2 (by omega), q_bd, hF, q_bd]
    have hle := fltP_le D (nI (v 0)) (nI (v 1)) (nI (v 2))
    by_cases z : fltP D (nI (v 0)) (nI (v 1)) (nI (v 2)) = 0
    · obtain ⟨i0, ok⟩ := fltP_0 z
      obtain ⟨s12, s1⟩ := isS_in hD (by have := b 0; omega) i0
      obtain ⟨h8, c2⟩ := ph_in (by have := b 1; omega) (by have := b 2; omega) ok
      obtain ⟨σ', a1, a2, a3⟩ := s1_photo (b := 6) hE N s12 (v 1) (v 2)
      refine ⟨σ', ?_, fun k hk => a3 k (by omega), fun _ => ⟨a2, photo_ok hD s12 h8 c2⟩⟩
      rw [red, z, if_pos (show nI 0 = 0 from rfl), a1, q_bd, q_bd]
    · refine ⟨σ, ?_, fun _ _ => rfl, fun q => absurd q z⟩
      rw [red, if_neg (nI_ne0 (by omega) (by omega)), q_bd]
  · rw [q] at hv
    rw [show exF D 108 v = if isS D (nI (v 0)) = 0 then 1 else 0 from rfl, show exD D 108 v = setD D (v 0) 8 (if v 1 = 0 then 0 else 1) from rfl]
    have hH := s1_hasX (b := 6) hE hD N (nI (v 0))
    have red : f5_carryOut N (nI c) σ = bd (if nI (isS D (nI (v 0))) = 0 then some (1, σ) else if nI (v 1) = 0 then f5_carryOutLate_J45 N (nI c) 0 (nI (v 0)) σ else f5_carryOutLate_J45 N (nI c) 1 (nI (v 0)) σ) (fun r46 σ46 => some (r46, σ46)) := by
      unfold f5_carryOut f5_carryOutLate
      rw [hl, q_bd, if_neg (show ¬ nI 108 = 97 by decide), if_neg (show ¬ nI 108 = 112 by decide), if_neg (show ¬ nI 108 = 115 by decide)]
      rw [show f0_numberOf N (nI c) 0 σ = some (nI (v 0), σ) from hv 0 (by omega), q_bd, hH, q_bd]
      by_cases z : nI (isS D (nI (v 0))) = 0
      · rw [if_pos z, if_pos z]
      · rw [if_neg z, if_neg z, show f0_numberOf N (nI c) 1 σ = some (nI (v 1), σ) from hv 1 (by omega), q_bd]
    by_cases z : isS D (nI (v 0)) = 0
    · refine ⟨σ, ?_, fun _ _ => rfl, fun q => by rw [if_pos z] at q; cases q⟩
      rw [red, z, if_pos (show nI 0 = 0 from rfl), q_bd]
      rfl
    · obtain ⟨s12, s1⟩ := isS_in hD (by have := b 0; omega) z
      have i1 := isS_1 s12 s1
      refine ⟨st σ (6 + 2) (v 0 * 8 + 7) (nI (if v 1 = 0 then 0 else 1)), ?_, fun k hk => st_row _ _ _ _ (by omega), fun _ => ⟨EdR_st hE s12 (k := 7) (by omega) _, late_ok hD s12 (by split <;> omega)⟩⟩
      rw [red, i1, if_neg (show ¬ nI 1 = 0 by decide), if_neg (show ¬ (1 : Nat) = 0 by decide)]
      unfold f5_carryOutLate_J45
      by_cases w : v 1 = 0
      · rw [if_pos (show nI (v 1) = 0 by rw [w]; rfl), s1_putLate N 6 s12, q_bd, q_bd, if_pos w]
        rfl
      · rw [if_neg (nI_ne0 (by omega) (by have := b 1; omega)), s1_putLate N 6 s12, q_bd, q_bd, if_neg w]
        rfl
/-- the reference does -/
theorem s6_does (N : Nat) (hN : 500 ≤ N) (hNw : NwR σ 85 D) (hD : DOk D) {x : Nat} {v : Nat → Nat} (hx : szN x ≠ 0) (hv : ∀ k, k < szN x → σ 99 k = nI (v k)) (hvl : ∀ k, v k ≤ 999) : (exF D x v ≠ 0 → f6_does N (nI x) σ = some (nI 0, st σ 84 0 (nI (exF D x v)))) ∧ (exF D x v = 0 → ∃ r σ', f6_does N (nI x) σ = some (r, σ') ∧ NwR σ' 85 (exD D x v) ∧ ∀ k, k ≠ 85 → σ' k = σ k) := by
  have b := hvl
  have vb : ∀ n : Nat, n < 6 → vib (nI n) 6 = true := fun n hn => q_vib hn (by omega)
  have v0 : vib 0 6 = true := vb 0 (by omega)
  have v1 : vib 1 6 = true := vb 1 (by omega)
  have v2 : vib 2 6 = true := vb 2 (by omega)
  have v3 : vib 3 6 = true := vb 3 (by omega)
  have v4 : vib 4 6 = true := vb 4 (by omega)
  have v5 : vib 5 6 = true := vb 5 (by omega)
  rcases szN_cases x with q | ⟨rfl, q⟩ | ⟨rfl, q⟩ | ⟨rfl, q⟩ | ⟨rfl, q⟩
  · exact absurd q.1 hx
  · rw [q] at hv
    rw [show exF D 115 v = fltS D (nI (v 0)) (nI (v 1)) (nI (v 2)) (nI (v 3)) (nI (v 4)) from rfl, show exD D 115 v = storyD D (v 0) (v 1) (v 2) (v 3) (v 4) from rfl]
    have red : f6_does N (nI 115) σ = bd (f6_laysStory N (nI (v 0)) (nI (v 1)) (nI (v 2)) (nI (v 3)) (nI (v 4)) σ) (fun r37 σ37 => some (r37, σ37)) := by
      unfold f6_does
      rw [if_pos (show nI 115 = 115 from rfl), v0, q_gt, v1, q_gt, v2, q_gt, v3, q_gt, v4, q_gt, show σ 99 (0 : Int32).toNatClampNeg = nI (v 0) from hv 0 (by omega), show σ 99 (1 : Int32).toNatClampNeg = nI (v 1) from hv 1 (by omega), show σ 99 (2 : Int32).toNatClampNeg = nI (v 2) from hv 2 (by omega), show σ 99 (3 : Int32).toNatClampNeg = nI (v 3) from hv 3 (by omega), show σ 99 (4 : Int32).toNatClampNeg = nI (v 4) from hv 4 (by omega)]
    constructor
    · intro z
      rw [red, s6_laysStory_f N hNw hD _ _ _ _ _ _ rfl z, q_bd]
    · intro z
      obtain ⟨d0, n1, n2, n3, n4, n5, -⟩ := fltS_ok z
      obtain ⟨σ', a1, a2, a3⟩ := s6_laysStory_ok N hN hNw (v 0) (v 1) (v 2) (v 3) (v 4) d0 n1 n2 n3 n4 n5
      exact ⟨_, σ', by rw [red, a1, q_bd], a2, a3⟩
  · rw [q] at hv
    rw [show exF D 97 v = fltA D (nI (v 0)) (nI (v 1)) (nI (v 2)) (nI (v 3)) (nI (v 4)) (nI (v 5)) from rfl, show exD D 97 v = adD D (v 0) (v 1) (v 2) (v 3) (v 4) (v 5) from rfl]
    have red : f6_does N (nI 97) σ = bd (f6_laysAd N (nI (v 0)) (nI (v 1)) (nI (v 2)) (nI (v 3)) (nI (v 4)) (nI (v 5)) σ) (fun r37 σ37 => some (r37, σ37)) := by
      unfold f6_does
      rw [if_neg (show ¬ nI 97 = 115 by decide), if_pos (show nI 97 = 97 from rfl), v0, q_gt, v1, q_gt, v2, q_gt, v3, q_gt, v4, q_gt, v5, q_gt, show σ 99 (0 : Int32).toNatClampNeg = nI (v 0) from hv 0 (by omega), show σ 99 (1 : Int32).toNatClampNeg = nI (v 1) from hv 1 (by omega), show σ 99 (2 : Int32).toNatClampNeg = nI (v 2) from hv 2 (by omega), show σ 99 (3 : Int32).toNatClampNeg = nI (v 3) from hv 3 (by omega), show σ 99 (4 : Int32).toNatClampNeg = nI (v 4) from hv 4 (by omega), show σ 99 (5 : Int32).toNatClampNeg = nI (v 5) from hv 5 (by omega)]
    constructor
    · intro z
      rw [red, s6_laysAd_f N hN hNw hD _ _ _ _ _ _ _ rfl z, q_bd]
    · intro z
      obtain ⟨d1, p, cc, r, w, h, pr, e1, e2, e3, e4, e5, e6, b1, b2, b3, b4, b5, b6, b7, b8⟩ := fltA_ok z
      obtain rfl := nI_inj (by have := b 0; omega) (by omega) e1
      obtain rfl := nI_inj (by have := b 1; omega) (by omega) e2
      obtain rfl := nI_inj (by have := b 2; omega) (by omega) e3
      obtain rfl := nI_inj (by have := b 3; omega) (by omega) e4
      obtain rfl := nI_inj (by have := b 4; omega) (by omega) e5
      obtain rfl := nI_inj (by have := b 5; omega) (by omega) e6
      obtain ⟨σ', a1, a2, a3⟩ := s6_laysAd_ok N hN hNw hD (v 0) (v 1) (v 2) (v 3) (v 4) (v 5) d1 b1 b2 b3 b4 b5 b6 b7 b8
      exact ⟨_, σ', by rw [red, a1, q_bd], a2, a3⟩
  · rw [q] at hv
    rw [show exF D 112 v = fltP D (nI (v 0)) (nI (v 1)) (nI (v 2)) from rfl, show exD D 112 v = setD (setD D (v 0) 6 (v 1)) (v 0) 7 (v 2) from rfl]
    have red : f6_does N (nI 112) σ = bd (f6_laysPhoto N (nI (v 0)) (nI (v 1)) (nI (v 2)) σ) (fun r37 σ37 => some (r37, σ37)) := by
      unfold f6_does
      rw [if_neg (show ¬ nI 112 = 115 by decide), if_neg (show ¬ nI 112 = 97 by decide), if_pos (show nI 112 = 112 from rfl), v0, q_gt, v1, q_gt, v2, q_gt, show σ 99 (0 : Int32).toNatClampNeg = nI (v 0) from hv 0 (by omega), show σ 99 (1 : Int32).toNatClampNeg = nI (v 1) from hv 1 (by omega), show σ 99 (2 : Int32).toNatClampNeg = nI (v 2) from hv 2 (by omega)]
    constructor
    · intro z
      rw [red, s6_laysPhoto_f hNw hD N _ _ _ _ rfl z, q_bd]
    · intro z
      obtain ⟨i0, ok⟩ := fltP_0 z
      obtain ⟨s12, s1⟩ := isS_in hD (by have := b 0; omega) i0
      obtain ⟨σ', a1, a2, a3⟩ := s6_laysPhoto_ok hNw hD N (v 0) (v 1) (v 2) s12 s1 ok
      exact ⟨_, σ', by rw [red, a1, q_bd], a2, a3⟩
  · rw [q] at hv
    rw [show exF D 108 v = if isS D (nI (v 0)) = 0 then 1 else 0 from rfl, show exD D 108 v = setD D (v 0) 8 (if v 1 = 0 then 0 else 1) from rfl]
    have red : f6_does N (nI 108) σ = bd (f6_laysLate N (nI (v 0)) (nI (if v 1 = 0 then 0 else 1)) σ) (fun r37 σ37 => some (r37, σ37)) := by
      unfold f6_does f6_does_J140
      rw [if_neg (show ¬ nI 108 = 115 by decide), if_neg (show ¬ nI 108 = 97 by decide), if_neg (show ¬ nI 108 = 112 by decide), v0, q_gt, v1, q_gt, show σ 99 (0 : Int32).toNatClampNeg = nI (v 0) from hv 0 (by omega), show σ 99 (1 : Int32).toNatClampNeg = nI (v 1) from hv 1 (by omega)]
      by_cases w : v 1 = 0
      · rw [if_pos (show nI (v 1) = 0 by rw [w]; rfl), if_pos w]
        rfl
      · rw [if_neg (nI_ne0 (by omega) (by have := b 1; omega)), if_neg w]
        rfl
    by_cases z : isS D (nI (v 0)) = 0
    · rw [if_pos z]
      refine ⟨fun _ => ?_, fun q => by cases q⟩
      rw [red, s6_laysLate_f hNw hD N _ _ z, q_bd]
    · rw [if_neg z]
      refine ⟨fun q => absurd rfl q, fun _ => ?_⟩
      obtain ⟨s12, s1⟩ := isS_in hD (by have := b 0; omega) z
      obtain ⟨σ', a1, a2, a3⟩ := s6_laysLate_ok hNw hD N (v 0) (if v 1 = 0 then 0 else 1) s12 s1
      exact ⟨_, σ', by rw [red, a1, q_bd], a2, a3⟩
end EX
