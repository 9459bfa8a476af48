/-! THE PURE PART. takeUp: both sides agree. -/
section TU
variable {σ : Hp} {D : Nat → Nat}
theorem s4_kept (N p k v : Nat) (hp : p < 12) (hk : k < 8) (h : σ 78 (p * 8 + k) = nI v) : f4_kept N (nI p) (nI k) σ = some (nI v, σ) := by
  unfold f4_kept f4_isSpot
  simp (disch := omega) only [q_lit, q_gt, q_bd, q_bxl, q_bxr, q_vib, q_cl, q_pos, q_lt, q_le, q_eq, q_neg, q_neg1, q_negz, q_negeq0, q_neg0le, q_rem, q_div, q_sub, q_if1, q_if0, q_okB0, q_okB1, q_dz, q_dn, q_nb, and_true, true_and, and_false, false_and, nI_add, pk_mul, if_true, if_false, ite_true, ite_false, Nat.add_zero, Nat.zero_add, Nat.reduceAdd, h]
theorem s4_heldAt (N p h : Nat) (hp : p < 12) (e : σ 77 p = nI h) : f4_heldAt N (nI p) σ = some (nI h, σ) := by
  unfold f4_heldAt f4_isSpot
  simp (disch := omega) only [q_lit, q_gt, q_bd, q_bxl, q_bxr, q_vib, q_cl, q_pos, q_lt, q_le, q_eq, q_neg, q_neg1, q_negz, q_negeq0, q_neg0le, q_rem, q_div, q_sub, q_if1, q_if0, q_okB0, q_okB1, q_dz, q_dn, q_nb, and_true, true_and, and_false, false_and, nI_add, pk_mul, if_true, if_false, ite_true, ite_false, Nat.add_zero, Nat.zero_add, Nat.reduceAdd, e]
theorem s1_putStory_full (N b : Nat) (hE : EdR σ b D) (h0 : D 0 = 12) (x1 x2 x3 x4 x5 : Int32) : f1_putStory N b x1 x2 x3 x4 x5 σ = some (-nI 1, σ) := by
  unfold f1_putStory
  rw [hE.1, h0, s5_storyIx, q_bd, show inB (nI 12) 0 11 = false by decide]
  rfl
def takD (D : Nat → Nat) (v : Nat → Nat) : Nat → Nat := setD (setD (setD (storyD D (v 0) (v 1) (v 2) (v 3) (v 4)) (D 0) 6 (v 5)) (D 0) 7 (v 6)) (D 0) 8 (v 7)
theorem takD_ok (hD : DOk D) {v : Nat → Nat} (hv : ShS v) (h0 : D 0 < 12) : DOk (takD D v) := by
  obtain ⟨a0, a1, a2, a3, a4, a5, a6, a7, a8, a9, a10⟩ := hv
  exact late_ok (photo_ok (storyD_ok hD h0 a0 ⟨a1, a2⟩ ⟨a3, a4⟩ ⟨a5, a6⟩ a7) h0 a8 a9) h0 a10
theorem s4_giveStory (N b p : Nat) {v : Nat → Nat} (hp : p < 12) (hv : ShS v) (h78 : ∀ k, k < 8 → σ 78 (p * 8 + k) = nI (v k)) (hE : EdR σ b D) (hD : DOk D) (hb : b + 4 < 78) : (D 0 = 12 ∧ f4_giveStory N b (nI p) σ = some (-nI 1, σ)) ∨ (D 0 < 12 ∧ ∃ σ', f4_giveStory N b (nI p) σ = some (nI (D 0), σ') ∧ EdR σ' b (takD D v) ∧ ∀ k, k < b ∨ b + 4 < k → σ' k = σ k) := by
  have h12 := hD.1
  have kk : ∀ (τ : Hp), τ 78 = σ 78 → ∀ k, k < 8 → f4_kept N (nI p) (nI k) τ = some (nI (v k), τ) := fun τ e k hk => s4_kept N p k (v k) hp hk (by rw [e]; exact h78 k hk)
  have k0 : f4_kept N (nI p) 0 σ = some (nI (v 0), σ) := kk σ rfl 0 (by omega)
  have k1 : f4_kept N (nI p) 1 σ = some (nI (v 1), σ) := kk σ rfl 1 (by omega)
  have k2 : f4_kept N (nI p) 2 σ = some (nI (v 2), σ) := kk σ rfl 2 (by omega)
  have k3 : f4_kept N (nI p) 3 σ = some (nI (v 3), σ) := kk σ rfl 3 (by omega)
  have k4 : f4_kept N (nI p) 4 σ = some (nI (v 4), σ) := kk σ rfl 4 (by omega)
  by_cases z : D 0 < 12
  · right
    refine ⟨z, ?_⟩
    obtain ⟨σ1, a1, a2, a3⟩ := s1_putStory N b hE z (v 0) (v 1) (v 2) (v 3) (v 4)
    obtain ⟨σ2, b1, b2, b3⟩ := s1_photo (b := b) a2 N z (v 5) (v 6)
    have c1 := s1_putLate N b z (nI (v 7)) σ2
    have hv7 : (if nI (v 7) = nI 0 then 0 else 1) = v 7 := by
      obtain ⟨-, -, -, -, -, -, -, -, -, -, a10⟩ := hv
      rcases (show v 7 = 0 ∨ v 7 = 1 by omega) with e | e
      · rw [e]
        rfl
      · rw [e]
        rfl
    rw [hv7] at c1
    have e78 : σ1 78 = σ 78 := a3 78 (by omega)
    have e78' : σ2 78 = σ 78 := (b3 78 (by omega)).trans e78
    refine ⟨st σ2 (b + 2) (D 0 * 8 + 7) (nI (v 7)), ?_, EdR_st b2 z (k := 7) (by omega) (v 7), fun k hk => by rw [st_row _ _ _ _ (by omega), b3 k hk, a3 k hk]⟩
    unfold f4_giveStory f4_giveStory_J75
    rw [k0, q_bd, k1, q_bd, k2, q_bd, k3, q_bd, k4, q_bd, a1, q_bd]
    rw [if_neg (show ¬ nI (D 0) = -1 from fun h => by
      have h2 := congrArg Int32.toInt h
      rw [nI_toInt (by omega)] at h2
      have h3 : (-1 : Int32).toInt = -1 := by decide
      omega)]
    rw [show f4_kept N (nI p) 5 σ1 = some (nI (v 5), σ1) from kk σ1 e78 5 (by omega), q_bd, show f4_kept N (nI p) 6 σ1 = some (nI (v 6), σ1) from kk σ1 e78 6 (by omega), q_bd, b1, q_bd, show f4_kept N (nI p) 7 σ2 = some (nI (v 7), σ2) from kk σ2 e78' 7 (by omega), q_bd]
    by_cases w : nI (v 7) = 0
    · rw [if_pos w, show (0 : Int32) = nI (v 7) from w.symm, c1, q_bd]
    · rw [if_neg w]
      have : v 7 = 1 := by
        obtain ⟨-, -, -, -, -, -, -, -, -, -, a10⟩ := hv
        rcases (show v 7 = 0 ∨ v 7 = 1 by omega) with e | e
        · exact absurd (by rw [e]; rfl) w
        · exact e
      rw [show (1 : Int32) = nI (v 7) by rw [this]; rfl, c1, q_bd]
  · left
    refine ⟨by omega, ?_⟩
    unfold f4_giveStory
    rw [k0, q_bd, k1, q_bd, k2, q_bd, k3, q_bd, k4, q_bd, s1_putStory_full N b hE (by omega), q_bd]
    rfl
theorem flt_ShA {v : Nat → Nat} (hv : ShA v) : fltA D (nI (v 0)) (nI (v 1)) (nI (v 2)) (nI (v 3)) (nI (v 4)) (nI (v 5)) = 0 ∨ fltA D (nI (v 0)) (nI (v 1)) (nI (v 2)) (nI (v 3)) (nI (v 4)) (nI (v 5)) = 3 := by
  obtain ⟨a0, a1, a2, a3, a4, a5, a6, a7, a8⟩ := hv
  unfold fltA
  rw [q_cl (show v 1 < 2 ^ 31 by omega), q_cl (show v 2 < 2 ^ 31 by omega)]
  have i : ∀ n a b : Nat, n < 2 ^ 31 → a ≤ n → n ≤ b → b < 2 ^ 31 → inB (nI n) a b = true := fun n a b h1 h2 h3 h4 => by
    rw [inB_nI h1 (by omega) h4]
    exact decide_eq_true ⟨h2, h3⟩
  rw [i (v 0) 0 3 (by omega) (by omega) (by omega) (by omega), i (v 1) 0 4 (by omega) (by omega) (by omega) (by omega), i (v 2) 0 23 (by omega) (by omega) (by omega) (by omega), i (v 3) 1 (5 - v 1) (by omega) (by omega) (by omega) (by omega), i (v 4) 1 (24 - v 2) (by omega) (by omega) (by omega) (by omega), i (v 5) 1 999 (by omega) (by omega) (by omega) (by omega)]
  repeat rw [if_pos rfl]
  by_cases z : D 1 < 8
  · rw [if_pos z]
    split
    · exact Or.inl rfl
    · exact Or.inr rfl
  · rw [if_neg z]
    exact Or.inr rfl
theorem s4_giveAd (N b p : Nat) (hN : 500 ≤ N) {v : Nat → Nat} (hp : p < 12) (hv : ShA v) (h78 : ∀ k, k < 6 → σ 78 (p * 8 + k) = nI (v k)) (hE : EdR σ b D) (hD : DOk D) : (fltA D (nI (v 0)) (nI (v 1)) (nI (v 2)) (nI (v 3)) (nI (v 4)) (nI (v 5)) = 3 ∧ f4_giveAdvertisement N b (nI p) σ = some (-nI 1, σ)) ∨ (fltA D (nI (v 0)) (nI (v 1)) (nI (v 2)) (nI (v 3)) (nI (v 4)) (nI (v 5)) = 0 ∧ D 1 < 8 ∧ hitN D (v 0) (v 1) (v 2) (v 3) (v 4) = 0 ∧ ∃ σ', f4_giveAdvertisement N b (nI p) σ = some (nI (D 1), σ') ∧ EdR σ' b (adD D (v 0) (v 1) (v 2) (v 3) (v 4) (v 5)) ∧ ∀ k, k < b ∨ b + 4 < k → σ' k = σ k) := by
  have kk : ∀ k, k < 6 → f4_kept N (nI p) (nI k) σ = some (nI (v k), σ) := fun k hk => s4_kept N p k (v k) hp (by omega) (h78 k hk)
  have k0 : f4_kept N (nI p) 0 σ = some (nI (v 0), σ) := kk 0 (by omega)
  have k1 : f4_kept N (nI p) 1 σ = some (nI (v 1), σ) := kk 1 (by omega)
  have k2 : f4_kept N (nI p) 2 σ = some (nI (v 2), σ) := kk 2 (by omega)
  have k3 : f4_kept N (nI p) 3 σ = some (nI (v 3), σ) := kk 3 (by omega)
  have k4 : f4_kept N (nI p) 4 σ = some (nI (v 4), σ) := kk 4 (by omega)
  have k5 : f4_kept N (nI p) 5 σ = some (nI (v 5), σ) := kk 5 (by omega)
  have hF := s1_faultOfAd N b hN hE hD (nI (v 0)) (nI (v 1)) (nI (v 2)) (nI (v 3)) (nI (v 4)) (nI (v 5))
  rcases flt_ShA (D := D) hv with z | z
  · right
    obtain ⟨d1, p', c', r', w', h', pr', e0, e1, e2, e3, e4, e5, b1, b2, b3, b4, b5, b6, b7, b8⟩ := fltA_ok z
    obtain ⟨a0, a1, a2, a3, a4, a5, a6, a7, a8⟩ := id hv
    have inj : ∀ {x y : Nat}, x < 2 ^ 31 → y < 2 ^ 31 → nI x = nI y → x = y := fun hx hy h => by rwa [nI_eq hx hy] at h
    obtain rfl := inj (by omega) (by omega) e0
    obtain rfl := inj (by omega) (by omega) e1
    obtain rfl := inj (by omega) (by omega) e2
    obtain rfl := inj (by omega) (by omega) e3
    obtain rfl := inj (by omega) (by omega) e4
    obtain ⟨σ1, c1, c2, c3⟩ := s1_putAd N b hE d1 (v 0) (v 1) (v 2) (v 3) (v 4) (v 5)
    refine ⟨z, d1, b8, σ1, ?_, c2, c3⟩
    unfold f4_giveAdvertisement
    rw [k0, q_bd, k1, q_bd, k2, q_bd, k3, q_bd, k4, q_bd, k5, q_bd, hF, q_bd, z, if_pos (show nI 0 = 0 from rfl), c1, q_bd]
  · left
    refine ⟨z, ?_⟩
    unfold f4_giveAdvertisement
    rw [k0, q_bd, k1, q_bd, k2, q_bd, k3, q_bd, k4, q_bd, k5, q_bd, hF, q_bd, z]
    rfl
theorem s6_take3 (N f s : Nat) (hN : 500 ≤ N) (x1 x2 : Int32) (K : Hp → Option (Int32 × Hp)) (h84 : σ 84 0 = nI 0) (hs : s < 12) (hf : f + 9 ≤ 108) {v : Nat → Nat} (hv : ∀ k, k < 8 → σ 97 (f + 1 + k) = nI (v k)) : f6_takeUp_L184 N x1 x2 (nI f) (nI s) K N (nI 6) σ = K (st (st (st σ 85 (2 + 9 * s + 6) (nI (v 5))) 85 (2 + 9 * s + 7) (nI (v 6))) 85 (2 + 9 * s + 8) (nI (v 7))) := by
  have step : ∀ (n j : Nat) (τ : Hp), j < 3 → τ 84 0 = nI 0 → τ 97 (f + (6 + j)) = nI (v (5 + j)) → it (fun _ _ => none) (f6_takeUp_B184 N x1 x2 (nI f) (nI s) K) (n + 1) (nI (6 + j)) τ = it (fun _ _ => none) (f6_takeUp_B184 N x1 x2 (nI f) (nI s) K) n (nI (6 + j + 1)) (st τ 85 (2 + 9 * s + (6 + j)) (nI (v (5 + j)))) := by
    intro n j τ hj e1 e2
    show f6_takeUp_B184 N x1 x2 (nI f) (nI s) K (it (fun _ _ => none) (f6_takeUp_B184 N x1 x2 (nI f) (nI s) K) n) (nI (6 + j)) τ = _
    unfold f6_takeUp_B184
    simp (disch := omega) only [q_lit, q_gt, q_bd, q_bxl, q_bxr, q_vib, q_cl, q_pos, q_lt, q_le, q_eq, q_neg, q_neg1, q_negz, q_negeq0, q_neg0le, q_rem, q_div, q_sub, q_if1, q_if0, q_okB0, q_okB1, q_dz, q_dn, q_nb, and_true, true_and, and_false, false_and, nI_add, pk_mul, if_true, if_false, ite_true, ite_false, Nat.add_zero, Nat.zero_add, Nat.reduceAdd, e1, e2]
  have last : ∀ (n : Nat) (τ : Hp), it (fun _ _ => none) (f6_takeUp_B184 N x1 x2 (nI f) (nI s) K) (n + 1) (nI 9) τ = K τ := by
    intro n τ
    show f6_takeUp_B184 N x1 x2 (nI f) (nI s) K (it (fun _ _ => none) (f6_takeUp_B184 N x1 x2 (nI f) (nI s) K) n) (nI 9) τ = _
    unfold f6_takeUp_B184
    simp (disch := omega) only [q_lit, q_gt, q_bd, q_bxl, q_bxr, q_vib, q_cl, q_pos, q_lt, q_le, q_eq, q_neg, q_neg1, q_negz, q_negeq0, q_neg0le, q_rem, q_div, q_sub, q_if1, q_if0, q_okB0, q_okB1, q_dz, q_dn, q_nb, and_true, true_and, and_false, false_and, nI_add, pk_mul, if_true, if_false, ite_true, ite_false, Nat.add_zero, Nat.zero_add, Nat.reduceAdd]
  have go : ∀ m, it (fun _ _ => none) (f6_takeUp_B184 N x1 x2 (nI f) (nI s) K) (m + 1 + 1 + 1 + 1) (nI 6) σ = K (st (st (st σ 85 (2 + 9 * s + 6) (nI (v 5))) 85 (2 + 9 * s + 7) (nI (v 6))) 85 (2 + 9 * s + 8) (nI (v 7))) := by
    intro m
    refine (step (m + 1 + 1 + 1) 0 σ (by omega) h84 (by rw [← hv 5 (by omega)])).trans ?_
    refine (step (m + 1 + 1) 1 _ (by omega) (by rw [st_row _ _ _ _ (by omega)]; exact h84) (by rw [st_row _ _ _ _ (by omega), ← hv 6 (by omega)])).trans ?_
    refine (step (m + 1) 2 _ (by omega) (by rw [st_row _ _ _ _ (by omega), st_row _ _ _ _ (by omega)]; exact h84) (by rw [st_row _ _ _ _ (by omega), st_row _ _ _ _ (by omega), ← hv 7 (by omega)])).trans ?_
    exact last m _
  obtain ⟨m, hm⟩ : ∃ m, N = m + 1 + 1 + 1 + 1 := ⟨N - 4, by omega⟩
  have g2 := go m
  rw [← hm] at g2
  exact g2
theorem s6_take0 (N : Nat) (hN : 500 ≤ N) (x1 x2 x4 x5 : Int32) (K : Hp → Option (Int32 × Hp)) (h84 : σ 84 0 = nI 3) : f6_takeUp_L184 N x1 x2 x4 x5 K N (nI 6) σ = K σ := by
  obtain ⟨m, rfl⟩ : ∃ m, N = m + 1 := ⟨N - 1, by omega⟩
  show f6_takeUp_B184 (m + 1) x1 x2 x4 x5 K (it (fun _ _ => none) (f6_takeUp_B184 (m + 1) x1 x2 x4 x5 K) m) (nI 6) σ = _
  unfold f6_takeUp_B184
  simp (disch := omega) only [q_lit, q_gt, q_bd, q_bxl, q_bxr, q_vib, q_cl, q_pos, q_lt, q_le, q_eq, q_neg, q_neg1, q_negz, q_negeq0, q_neg0le, q_rem, q_div, q_sub, q_if1, q_if0, q_okB0, q_okB1, q_dz, q_dn, q_nb, and_true, true_and, and_false, false_and, nI_add, pk_mul, if_true, if_false, ite_true, ite_false, Nat.add_zero, Nat.zero_add, Nat.reduceAdd, h84]
theorem mut_class2 {β : Type} {D' : Nat → Nat} {c n : Nat} {Es : Nat → Nat → Nat} (N : Nat) (hN : 500 ≤ N) (hE : EdR σ 1 D) (hD : DOk D) (hD' : DOk D') (hE6 : EdR σ 6 D') (hH : HiC σ c n Es) : ∃ σ', (∀ K : Hp → Option β, bd (f2_remember N 1 σ) (fun _ σ1 => bd (f1_copyFrom N 1 6 σ1) (fun _ σ2 => bd (f3_layOut N 56 σ2) (fun _ σ3 => K σ3))) = K σ') ∧ Mid σ σ' D' c n Es D := by
  obtain ⟨σ1, a1, a2, a3⟩ := s2_remember N c n hN Es hE hD hH
  obtain ⟨σ2, b1, b2, b3⟩ := s1_copyFrom N 1 6 hN (hE6.congr (fun k k1 k2 => a3 k (by omega))) hD' (by omega)
  obtain ⟨σ3, c1, c2, c3⟩ := s3_layI b2 hD' N hN
  refine ⟨σ3, fun K => ?_, b2.congr (fun k k1 k2 => c3 k (by omega)), c2, a2.congr (fun k hk => ?_), fun k hk => ?_⟩
  · rw [a1, q_bd, b1, q_bd, c1, q_bd]
  · rw [c3 k (by omega), b3 k (by omega)]
  · rw [c3 k (by omega), b3 k (by omega), a3 k (by omega)]
theorem agree_noB (hI : Inv σ) (hNw : NwR σ 85 D) (N : Nat) (hN : 500 ≤ N) (f : Nat) (hf : 0 < f) (hf2 : f < 10) (A B : Hp → Option (Int32 × Hp)) (σ1 : Hp) (hA : A σ = some (nI f, σ1)) (hr : ∀ k, k < 6 ∨ 10 < k → σ1 k = σ k) (hB : ∀ τ, f6_begins N σ1 = some ((), τ) → NwR τ 85 D → τ 84 0 = nI 0 → (∀ k, k ≠ 84 → k ≠ 86 → τ k = σ1 k) → B σ1 = some (nI 0, st τ 84 0 (nI f))) : Agree A B σ := by
  obtain ⟨τ, a1, a2, a3, a4, a5⟩ := s6_begins (σ := σ1) N hN (hNw.congr (hr 85 (by omega)))
  refine ⟨f, σ1, nI 0, st τ 84 0 (nI f), hf2, hA, hB τ a1 (hNw.congr (by rw [a5 85 (by omega) (by omega), hr 85 (by omega)])) a3 a5, st_same _ _ _ _, fun q => by omega, inv_keep2 hI (fun k hk => ?_) (fun i i1 i2 => ?_)⟩
  · rw [st_row _ _ _ _ (by omega), a5 k (by omega) (by omega), hr k (by omega)]
  · rw [st_ne _ _ _ _ (Or.inr i1), a4 i i1, hr 84 (by omega)]
theorem case_takeUp (hI : Inv σ) (N : Nat) (hN : 500 ≤ N) (x1 x2 : Int32) : Agree (fL_takeUp N x1 x2) (f6_takeUp N x1 x2) σ := by
  obtain ⟨D, ⟨h1, h2, h3⟩, h4, ⟨c, n, Es, h5, h6⟩, h7⟩ := id hI
  have in1 : ∀ τ : Hp, f6_in N x1 0 2 τ = some (nI (b2 (inB x1 0 2)), τ) := fun τ => s6_in N x1 0 2
  have in2 : ∀ τ : Hp, f6_in N x2 0 3 τ = some (nI (b2 (inB x2 0 3)), τ) := fun τ => s6_in N x2 0 3
  have t1 : ¬ nI (b2 true) = 0 := by decide
  cases e1 : inB x1 0 2
  · refine agree_noB hI h3 N hN 1 (by omega) (by omega) _ _ σ ?_ (fun _ _ => rfl) (fun τ a1 a2 a3 a4 => ?_)
    · unfold fL_takeUp f5_takeUp
      rw [s5_needShelf, e1]
      rfl
    · unfold f6_takeUp
      rw [a1, q_bd, in1, q_bd, e1]
      rfl
  cases e2 : inB x2 0 3
  · refine agree_noB hI h3 N hN 1 (by omega) (by omega) _ _ σ ?_ (fun _ _ => rfl) (fun τ a1 a2 a3 a4 => ?_)
    · unfold fL_takeUp f5_takeUp
      rw [s5_needShelf, e1, e2]
      rfl
    · unfold f6_takeUp
      rw [a1, q_bd, in1, q_bd, e1, if_neg t1, in2, q_bd, e2]
      rfl
  obtain ⟨r, -, r2, rfl⟩ := inB_some e1 (by decide) (by decide)
  obtain ⟨pl, -, p2, rfl⟩ := inB_some e2 (by decide) (by decide)
  have sp1 : (nI r * 4 + nI pl : Int32) = nI (4 * r + pl) := by rw [show (4 : Int32) = nI 4 from rfl, pk_mul, nI_add, Nat.mul_comm]
  have sp2 : (4 * nI r + nI pl : Int32) = nI (4 * r + pl) := by rw [show (4 : Int32) = nI 4 from rfl, pk_mul, nI_add]
  obtain ⟨σ1, a1, a2, a3⟩ := s1_copyFrom N 6 1 hN h2 h1 (by omega)
  have hp : 4 * r + pl < 12 := by omega
  generalize hP : 4 * r + pl = p at sp1 sp2 hp
  have cls0 : ∀ w : Nat, w ≤ 2 → w ≠ 0 → σ 77 p = nI w → f5_takeUp N (nI r) (nI pl) σ = bd (f4_isStoryAt N (nI p) σ1) (fun r46 σ46 => if r46 = 0 then bd (f4_giveAdvertisement N 6 (nI p) σ46) (fun r76 σ76 => f5_takeUp_J79 N (nI r) (nI pl) r76 σ76) else bd (f4_giveStory N 6 (nI p) σ46) (fun r61 σ61 => f5_takeUp_J79 N (nI r) (nI pl) r61 σ61)) := fun w w2 w0 e => by
    unfold f5_takeUp f4_isEmptyAt
    rw [s5_needShelf, e1, e2, if_pos rfl, if_pos rfl, q_bxl, sp1, s4_heldAt N p w hp e, q_bd, if_neg (fun q => w0 (by rw [show (0 : Int32) = nI 0 from rfl, nI_eq (by omega) (by omega)] at q; exact q)), q_bd, if_pos rfl, a1, q_bd]
  rcases h7.2.1 p hp with ⟨u1, u2⟩ | ⟨u1, u2, v, hv, hvk⟩ | ⟨u1, u2, v, hv, hvk⟩
  · refine agree_noB hI h3 N hN 2 (by omega) (by omega) _ _ σ ?_ (fun _ _ => rfl) (fun τ a1 a2 a3 a4 => ?_)
    · unfold fL_takeUp f5_takeUp f4_isEmptyAt
      rw [s5_needShelf, e1, e2, if_pos rfl, if_pos rfl, q_bxl, sp1, s4_heldAt N p 0 hp u1, q_bd]
      rfl
    · unfold f6_takeUp
      rw [a1, q_bd, in1, q_bd, e1, if_neg t1, in2, q_bd, e2, if_neg t1, sp2, q_vib hp (by omega), q_gt, q_cl (by omega), a4 96 (by omega) (by omega), u2]
      rfl
  · -- a story
    have hg := s4_giveStory (σ := σ1) (D := D) N 6 p hp hv (fun k hk => by rw [a3 78 (by omega)]; exact (hvk k hk).1) a2 h1 (by omega)
    have isSt : f4_isStoryAt N (nI p) σ1 = some (nI 1, σ1) := by
      unfold f4_isStoryAt
      rw [s4_heldAt N p 1 hp (by rw [a3 77 (by omega)]; exact u1), q_bd]
      rfl
    have ref : ∀ τ : Hp, (τ 96 = σ 96) → (τ 97 = σ 97) → ∀ ρ : Hp, f6_begins N ρ = some ((), τ) → f6_takeUp N (nI r) (nI pl) ρ = bd (f6_laysStory N (nI (v 0)) (nI (v 1)) (nI (v 2)) (nI (v 3)) (nI (v 4)) τ) (fun r175 σ175 => f6_takeUp_L184 N (nI r) (nI pl) (nI (9 * p)) r175 (fun σL184 => bd (f6_ends N r175 σL184) (fun r232 σ232 => some (r232, σ232))) N 6 σ175) := fun τ q1 q2 ρ q3 => by
      unfold f6_takeUp
      rw [q3, q_bd, in1, q_bd, e1, if_neg t1, in2, q_bd, e2, if_neg t1, sp2]
      have w0 := (hvk 0 (by omega)).2
      have w1 := (hvk 1 (by omega)).2
      have w2 := (hvk 2 (by omega)).2
      have w3 := (hvk 3 (by omega)).2
      have w4 := (hvk 4 (by omega)).2
      rw [show 9 * p + 1 + 0 = 9 * p + 1 by omega] at w0
      rw [show 9 * p + 1 + 1 = 9 * p + 2 by omega] at w1
      rw [show 9 * p + 1 + 2 = 9 * p + 3 by omega] at w2
      rw [show 9 * p + 1 + 3 = 9 * p + 4 by omega] at w3
      rw [show 9 * p + 1 + 4 = 9 * p + 5 by omega] at w4
      simp (disch := omega) only [q_lit, q_gt, q_bd, q_bxl, q_bxr, q_vib, q_cl, q_pos, q_lt, q_le, q_eq, q_neg, q_neg1, q_negz, q_negeq0, q_neg0le, q_rem, q_div, q_sub, q_if1, q_if0, q_okB0, q_okB1, q_dz, q_dn, q_nb, and_true, true_and, and_false, false_and, nI_add, pk_mul, if_true, if_false, ite_true, ite_false, Nat.add_zero, Nat.zero_add, Nat.reduceAdd, q1, q2, u2, w0, w1, w2, w3, w4]
    rcases hg with ⟨d0, g1⟩ | ⟨d0, σ2, g1, g2, g3⟩
    · refine agree_noB hI h3 N hN 3 (by omega) (by omega) _ _ σ1 ?_ (fun k hk => a3 k (by omega)) (fun τ b1 b2 b3 b4 => ?_)
      · unfold fL_takeUp
        rw [cls0 1 (by omega) (by omega) u1, isSt, q_bd, if_neg (show ¬ nI 1 = 0 by decide), g1, q_bd]
        unfold f5_takeUp_J79
        rw [if_pos (show -nI 1 = -1 from rfl)]
        rfl
      · rw [ref τ (by rw [b4 96 (by omega) (by omega), a3 96 (by omega)]) (by rw [b4 97 (by omega) (by omega), a3 97 (by omega)]) σ1 b1]
        rw [s6_laysStory_f N b2 h1 _ _ _ _ _ 3 (by
          obtain ⟨c0, c1, c2, c3, c4, c5, c6, c7, c8, c9, c10⟩ := hv
          have i : ∀ n a b : Nat, n < 2 ^ 31 → a ≤ n → n ≤ b → b < 2 ^ 31 → inB (nI n) a b = true := fun n a b h1 h2 h3 h4 => by
            rw [inB_nI h1 (by omega) h4]
            exact decide_eq_true ⟨h2, h3⟩
          unfold fltS numOk
          rw [show inB (nI (v 0)) (loN 0) (hiN 0) = true from i (v 0) 0 3 (by omega) (by omega) (by omega) (by omega), show inB (nI (v 1)) (loN 1) (hiN 1) = true from i (v 1) 1 3 (by omega) (by omega) (by omega) (by omega), show inB (nI (v 2)) (loN 2) (hiN 2) = true from i (v 2) 1 3 (by omega) (by omega) (by omega) (by omega), show inB (nI (v 3)) (loN 3) (hiN 3) = true from i (v 3) 1 150 (by omega) (by omega) (by omega) (by omega), show inB (nI (v 4)) (loN 4) (hiN 4) = true from i (v 4) 0 9 (by omega) (by omega) (by omega) (by omega)]
          repeat rw [if_pos rfl]
          rw [if_neg (by omega)]) (by omega), q_bd]
        rw [show f6_takeUp_L184 N (nI r) (nI pl) (nI (9 * p)) (nI 0) (fun σL184 => bd (f6_ends N (nI 0) σL184) (fun r232 σ232 => some (r232, σ232))) N 6 (st τ 84 0 (nI 3)) = bd (f6_ends N (nI 0) (st τ 84 0 (nI 3))) (fun r232 σ232 => some (r232, σ232)) from s6_take0 N hN _ _ _ _ _ (st_same _ _ _ _), s6_ends1 N 3 _ (st_same _ _ _ _) (by omega) (by omega), q_bd]
    · have hD' := takD_ok h1 hv d0
      have fr : ∀ k, k < 6 ∨ 10 < k → σ2 k = σ k := fun k hk => by rw [g3 k (by omega), a3 k (by omega)]
      obtain ⟨σm, m1, m2⟩ := mut_class2 (σ := σ2) (D := D) (D' := takD D v) (β := (Int32 ⊕ Nat) × Hp) N hN (h2.congr (fun k k1 k2 => fr k (by omega))) h1 hD' g2 (h5.congr (fun k hk => fr k (by omega)))
      obtain ⟨σ', n1, n2, n3, n4⟩ := mut_ref (σ := σ2) N hN hD' m2 (h3.congr (fr 85 (by omega))) h5.2.2.1 (h6.congr (fr 88 (by omega)) (by rw [fr 84 (by omega)])) (h7.congr (Rest.of (fun k hk => fr k (by omega)) (fun i _ _ _ => by rw [fr 84 (by omega)]))) (nI (D 0)) (fun τ => bd (f6_laysStory N (nI (v 0)) (nI (v 1)) (nI (v 2)) (nI (v 3)) (nI (v 4)) τ) (fun a τ1 => some (a, st (st (st τ1 85 (2 + 9 * D 0 + 6) (nI (v 5))) 85 (2 + 9 * D 0 + 7) (nI (v 6))) 85 (2 + 9 * D 0 + 8) (nI (v 7))))) (nI (D 0)) (fun τ hτ _ => by
        obtain ⟨c0, c1, c2, c3, c4, c5, c6, c7, c8, c9, c10⟩ := hv
        have i : ∀ n a b : Nat, n < 2 ^ 31 → a ≤ n → n ≤ b → b < 2 ^ 31 → inB (nI n) a b = true := fun n a b h1 h2 h3 h4 => by
          rw [inB_nI h1 (by omega) h4]
          exact decide_eq_true ⟨h2, h3⟩
        obtain ⟨τ1, l1, l2, l3⟩ := s6_laysStory_ok N hN hτ (v 0) (v 1) (v 2) (v 3) (v 4) d0 (i (v 0) 0 3 (by omega) (by omega) (by omega) (by omega)) (i (v 1) 1 3 (by omega) (by omega) (by omega) (by omega)) (i (v 2) 1 3 (by omega) (by omega) (by omega) (by omega)) (i (v 3) 1 150 (by omega) (by omega) (by omega) (by omega)) (i (v 4) 0 9 (by omega) (by omega) (by omega) (by omega))
        refine ⟨_, by rw [l1, q_bd], NwR_st (NwR_st (NwR_st l2 _) _) _, fun k hk => by rw [st_row _ _ _ _ hk, st_row _ _ _ _ hk, st_row _ _ _ _ hk, l3 k hk]⟩)
      refine ⟨0, st σm 100 0 (nI (D 0)), nI (D 0), σ', by omega, ?_, ?_, n2, fun _ => n3, n4⟩
      · unfold fL_takeUp
        rw [cls0 1 (by omega) (by omega) u1, isSt, q_bd, if_neg (show ¬ nI 1 = 0 by decide), g1, q_bd]
        unfold f5_takeUp_J79
        rw [if_neg (show ¬ nI (D 0) = -1 from fun h => by
          have h2 := congrArg Int32.toInt h
          rw [nI_toInt (by omega)] at h2
          have h3 : (-1 : Int32).toInt = -1 := by decide
          omega), m1]
        rfl
      · rw [← n1]
        have f85 : ∀ k, 64 < k → k ≠ 74 → k ≠ 100 → (st σm 100 0 (nI (D 0))) k = σ k := fun k k1 k2 k3 => by
          rw [st_row _ _ _ _ k3, m2.2.2.2 k (by omega), fr k (by omega)]
        obtain ⟨τ, b1, b2, b3, b4, b5⟩ := s6_begins (σ := st σm 100 0 (nI (D 0))) N hN (h3.congr (f85 85 (by omega) (by omega) (by omega)))
        have hτ : NwR τ 85 D := h3.congr (by rw [b5 85 (by omega) (by omega), f85 85 (by omega) (by omega) (by omega)])
        rw [ref τ (by rw [b5 96 (by omega) (by omega), f85 96 (by omega) (by omega) (by omega)]) (by rw [b5 97 (by omega) (by omega), f85 97 (by omega) (by omega) (by omega)]) _ b1, b1, q_bd]
        obtain ⟨c0, c1, c2, c3, c4, c5, c6, c7, c8, c9, c10⟩ := hv
        have i : ∀ n a b : Nat, n < 2 ^ 31 → a ≤ n → n ≤ b → b < 2 ^ 31 → inB (nI n) a b = true := fun n a b h1 h2 h3 h4 => by
          rw [inB_nI h1 (by omega) h4]
          exact decide_eq_true ⟨h2, h3⟩
        obtain ⟨τ1, l1, l2, l3⟩ := s6_laysStory_ok N hN hτ (v 0) (v 1) (v 2) (v 3) (v 4) d0 (i (v 0) 0 3 (by omega) (by omega) (by omega) (by omega)) (i (v 1) 1 3 (by omega) (by omega) (by omega) (by omega)) (i (v 2) 1 3 (by omega) (by omega) (by omega) (by omega)) (i (v 3) 1 150 (by omega) (by omega) (by omega) (by omega)) (i (v 4) 0 9 (by omega) (by omega) (by omega) (by omega))
        rw [l1, q_bd, q_bd, q_bd]
        exact s6_take3 N (9 * p) (D 0) hN (nI r) (nI pl) _ (by rw [l3 84 (by omega)]; exact b3) d0 (by omega) (fun k hk => by
          rw [l3 97 (by omega), b5 97 (by omega) (by omega), f85 97 (by omega) (by omega) (by omega)]
          exact (hvk k hk).2)
  · -- an advertisement
    have hg := s4_giveAd (σ := σ1) (D := D) N 6 p hN hp hv (fun k hk => by rw [a3 78 (by omega)]; exact (hvk k hk).1) a2 h1
    have isSt : f4_isStoryAt N (nI p) σ1 = some (nI 0, σ1) := by
      unfold f4_isStoryAt
      rw [s4_heldAt N p 2 hp (by rw [a3 77 (by omega)]; exact u1), q_bd]
      rfl
    have ref : ∀ τ : Hp, (τ 96 = σ 96) → (τ 97 = σ 97) → ∀ ρ : Hp, f6_begins N ρ = some ((), τ) → f6_takeUp N (nI r) (nI pl) ρ = bd (f6_laysAd N (nI (v 0)) (nI (v 1)) (nI (v 2)) (nI (v 3)) (nI (v 4)) (nI (v 5)) τ) (fun r122 σ122 => bd (f6_ends N r122 σ122) (fun r125 σ125 => some (r125, σ125))) := fun τ q1 q2 ρ q3 => by
      unfold f6_takeUp
      rw [q3, q_bd, in1, q_bd, e1, if_neg t1, in2, q_bd, e2, if_neg t1, sp2]
      have w0 := (hvk 0 (by omega)).2
      have w1 := (hvk 1 (by omega)).2
      have w2 := (hvk 2 (by omega)).2
      have w3 := (hvk 3 (by omega)).2
      have w4 := (hvk 4 (by omega)).2
      have w5 := (hvk 5 (by omega)).2
      rw [show 9 * p + 1 + 0 = 9 * p + 1 by omega] at w0
      rw [show 9 * p + 1 + 1 = 9 * p + 2 by omega] at w1
      rw [show 9 * p + 1 + 2 = 9 * p + 3 by omega] at w2
      rw [show 9 * p + 1 + 3 = 9 * p + 4 by omega] at w3
      rw [show 9 * p + 1 + 4 = 9 * p + 5 by omega] at w4
      rw [show 9 * p + 1 + 5 = 9 * p + 6 by omega] at w5
      simp (disch := omega) only [q_lit, q_gt, q_bd, q_bxl, q_bxr, q_vib, q_cl, q_pos, q_lt, q_le, q_eq, q_neg, q_neg1, q_negz, q_negeq0, q_neg0le, q_rem, q_div, q_sub, q_if1, q_if0, q_okB0, q_okB1, q_dz, q_dn, q_nb, and_true, true_and, and_false, false_and, nI_add, pk_mul, if_true, if_false, ite_true, ite_false, Nat.add_zero, Nat.zero_add, Nat.reduceAdd, q1, q2, u2, w0, w1, w2, w3, w4, w5]
    rcases hg with ⟨d0, g1⟩ | ⟨dz, d0, dh, σ2, g1, g2, g3⟩
    · refine agree_noB hI h3 N hN 3 (by omega) (by omega) _ _ σ1 ?_ (fun k hk => a3 k (by omega)) (fun τ b1 b2 b3 b4 => ?_)
      · unfold fL_takeUp
        rw [cls0 2 (by omega) (by omega) u1, isSt, q_bd, if_pos (show nI 0 = 0 from rfl), g1, q_bd]
        unfold f5_takeUp_J79
        rw [if_pos (show -nI 1 = -1 from rfl)]
        rfl
      · rw [ref τ (by rw [b4 96 (by omega) (by omega), a3 96 (by omega)]) (by rw [b4 97 (by omega) (by omega), a3 97 (by omega)]) σ1 b1]
        rw [s6_laysAd_f N hN b2 h1 _ _ _ _ _ _ 3 d0 (by omega), q_bd, s6_ends1 N 3 _ (st_same _ _ _ _) (by omega) (by omega), q_bd]
    · obtain ⟨c0, c1, c2, c3, c4, c5, c6, c7, c8⟩ := id hv
      have hD' : DOk (adD D (v 0) (v 1) (v 2) (v 3) (v 4) (v 5)) := adD_ok h1 d0 c0 c4 c3 c6 c5 c8 c7
      have fr : ∀ k, k < 6 ∨ 10 < k → σ2 k = σ k := fun k hk => by rw [g3 k (by omega), a3 k (by omega)]
      obtain ⟨σm, m1, m2⟩ := mut_class2 (σ := σ2) (D := D) (D' := adD D (v 0) (v 1) (v 2) (v 3) (v 4) (v 5)) (β := (Int32 ⊕ Nat) × Hp) N hN (h2.congr (fun k k1 k2 => fr k (by omega))) h1 hD' g2 (h5.congr (fun k hk => fr k (by omega)))
      obtain ⟨σ', n1, n2, n3, n4⟩ := mut_ref (σ := σ2) N hN hD' m2 (h3.congr (fr 85 (by omega))) h5.2.2.1 (h6.congr (fr 88 (by omega)) (by rw [fr 84 (by omega)])) (h7.congr (Rest.of (fun k hk => fr k (by omega)) (fun i _ _ _ => by rw [fr 84 (by omega)]))) (nI (D 1)) (f6_laysAd N (nI (v 0)) (nI (v 1)) (nI (v 2)) (nI (v 3)) (nI (v 4)) (nI (v 5))) (nI (D 1)) (fun τ hτ _ => s6_laysAd_ok N hN hτ h1 (v 0) (v 1) (v 2) (v 3) (v 4) (v 5) d0 c0 c4 c3 c6 c5 c7 c8 dh)
      refine ⟨0, st σm 100 0 (nI (D 1)), nI (D 1), σ', by omega, ?_, ?_, n2, fun _ => n3, n4⟩
      · unfold fL_takeUp
        rw [cls0 2 (by omega) (by omega) u1, isSt, q_bd, if_pos (show nI 0 = 0 from rfl), g1, q_bd]
        unfold f5_takeUp_J79
        rw [if_neg (show ¬ nI (D 1) = -1 from fun h => by
          have h2 := congrArg Int32.toInt h
          rw [nI_toInt (by omega)] at h2
          have h3 : (-1 : Int32).toInt = -1 := by decide
          omega), m1]
        rfl
      · rw [← n1]
        have f85 : ∀ k, 64 < k → k ≠ 74 → k ≠ 100 → (st σm 100 0 (nI (D 1))) k = σ k := fun k k1 k2 k3 => by
          rw [st_row _ _ _ _ k3, m2.2.2.2 k (by omega), fr k (by omega)]
        obtain ⟨τ, b1, b2, b3, b4, b5⟩ := s6_begins (σ := st σm 100 0 (nI (D 1))) N hN (h3.congr (f85 85 (by omega) (by omega) (by omega)))
        rw [ref τ (by rw [b5 96 (by omega) (by omega), f85 96 (by omega) (by omega) (by omega)]) (by rw [b5 97 (by omega) (by omega), f85 97 (by omega) (by omega) (by omega)]) _ b1, b1, q_bd]
end TU
