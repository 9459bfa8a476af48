/-! THE PURE PART. blamed: a layout without a story, and that of the edition in which it is dropped. -/
def SmD (D D' : Nat → Nat) (t : Nat) : Prop := ∀ k, k < 9 → dS D' t k = dS D t k
section B1
variable {D D' : Nat → Nat} {t : Nat}
theorem hd_sm (h : SmD D D' t) : hd D' t = hd D t := by
  unfold hd
  rw [h 3 (by omega), h 6 (by omega), h 7 (by omega)]
theorem abv_sm (h : SmD D D' t) (q : Nat) : abv D' t q = abv D t q := by
  unfold abv
  rw [hd_sm h]
theorem pW_sm (h : SmD D D' t) (q : Nat) : pW D' t q = pW D t q := by
  unfold pW
  rw [h 2 (by omega)]
theorem pR_sm (h : SmD D D' t) (v : Nat → Int32) (q i w lr lines j : Nat) (f : Nat → Int32) : pR v D' t q i w lr lines j f = pR v D t q i w lr lines j f := by
  unfold pR hdR
  rw [abv_sm h, h 3 (by omega), h 6 (by omega), h 7 (by omega)]
theorem pD_sm (h : SmD D D' t) (q i : Nat) (Y : Ly) : pD D' t q i Y = pD D t q i Y := by
  unfold pD
  rw [pW_sm h, abv_sm h]
theorem pWant_sm (h : SmD D D' t) (Y : Ly) : pWant D' t Y = pWant D t Y := by
  unfold pWant
  rw [h 4 (by omega)]
theorem pNx_sm (h : SmD D D' t) (q i : Nat) (Y : Ly) : pNx D' t q i Y = pNx D t q i Y := by
  unfold pNx
  rw [pWant_sm h, pW_sm h, pD_sm h]
theorem pJ_sm (h : SmD D D' t) (q i : Nat) (Y : Ly) : pJ D' t q i Y = pJ D t q i Y := by
  unfold pJ
  rw [pNx_sm h]
theorem pNl_sm (h : SmD D D' t) (q i : Nat) (Y : Ly) : pNl D' t q i Y = pNl D t q i Y := by
  unfold pNl
  rw [pWant_sm h, pW_sm h, pD_sm h, pNx_sm h]
theorem pLr_sm (h : SmD D D' t) (q i : Nat) (Y : Ly) : pLr D' t q i Y = pLr D t q i Y := by
  unfold pLr
  rw [pNl_sm h, pW_sm h]
theorem partY_sm (h : SmD D D' t) (q i : Nat) (Y : Ly) : partY D' t q i Y = partY D t q i Y := by
  unfold partY
  rw [pR_sm h, pR_sm h, pW_sm h, pLr_sm h, pNl_sm h, pJ_sm h, pD_sm h, abv_sm h]
theorem goY_sm (h : SmD D D' t) : ∀ (n q i : Nat) (Y : Ly), goY D' t n q i Y = goY D t n q i Y
  | 0, _, _, _ => rfl
  | n + 1, q, i, Y => by
    unfold goY
    rw [pNx_sm h, partY_sm h]
    cases pNx D t q i Y with
    | none => rfl
    | some i' => exact goY_sm h n (q + 1) i' _
theorem placeY_sm (h : SmD D D' t) (Y : Ly) : placeY D' t Y = placeY D t Y := by
  unfold placeY findSt
  rw [h 1 (by omega), h 2 (by omega), h 8 (by omega), hd_sm h]
  cases fsN (goF (lc Y) (dS D t 2) (hd D t + 2)) ((if dS D t 8 = 0 then 3 else dS D t 1) + 1 - dS D t 1) (dS D t 1) with
  | none => rfl
  | some i => exact goY_sm h 4 0 i Y
theorem adR_sm (h : ∀ a k, a < 8 → k < 7 → dA D' a k = dA D a k) (v : Nat → Int32) (f : Nat → Int32) : ∀ n, n ≤ 8 → adR v D' n f = adR v D n f
  | 0, _ => rfl
  | n + 1, hn => by
    rw [adR_s, adR_s, adR_sm h v f n (by omega), h n 0 (by omega) (by omega), h n 1 (by omega) (by omega), h n 2 (by omega) (by omega), h n 3 (by omega) (by omega), h n 4 (by omega) (by omega), h n 5 (by omega) (by omega)]
theorem ord_uniq {o o2 : Nat → Nat} {n n2 : Nat} (h : OrdI D 12 o n) (h2 : OrdI D 12 o2 n2) : n = n2 ∧ ∀ k, k < n → o k = o2 k := by
  have e : n = n2 := (ord_n h).trans (ord_n h2).symm
  refine ⟨e, fun k hk => ?_⟩
  obtain ⟨k2, a, b⟩ := h2.2.2 (o k) (h.1 k hk).1 (h.1 k hk).2
  have c1 := ord_cnt h k hk
  have c2 := ord_cnt h2 k2 a
  rw [b, c1] at c2
  rw [← b, c2]
end B1
section B2
variable {D : Nat → Nat} {w : Nat}
theorem drop_S {s k : Nat} (hk : k < 9) : dS (setD D w 0 0) s k = if s = w ∧ k = 0 then 0 else dS D s k := setD_S (by omega) hk
theorem kR_drop (s : Nat) : kR (setD D w 0 0) s = kR D s := by
  unfold kR
  rw [drop_S (by omega), drop_S (by omega), if_neg (by omega), if_neg (by omega)]
theorem ord_drop (hw : w < 12) (h0 : dS D w 0 = 1) : nS (setD D w 0 0) + 1 = nS D ∧ ∀ k, k < nS (setD D w 0 0) → ordN (setD D w 0 0) k = if k < cnt D w then ordN D k else ordN D (k + 1) := by
  have hI := ordN_I D
  have hr := cnt_n hw h0
  have hor : ordN D (cnt D w) = w := by
    obtain ⟨k, k1, k2⟩ := hI.2.2 w hw h0
    have := ord_cnt hI k k1
    rw [k2] at this
    rw [this, k2]
  have hne : ∀ k, k < nS D → k ≠ cnt D w → ordN D k ≠ w := fun k hk hne e => by
    have := ord_cnt hI k hk
    rw [e] at this
    exact hne this.symm
  have hO : OrdI (setD D w 0 0) 12 (fun k => if k < cnt D w then ordN D k else ordN D (k + 1)) (nS D - 1) := by
    refine ⟨fun k hk => ?_, fun i j hij hj => ?_, fun s hs h1 => ?_⟩
    · show (if k < cnt D w then ordN D k else ordN D (k + 1)) < 12 ∧ dS (setD D w 0 0) (if k < cnt D w then ordN D k else ordN D (k + 1)) 0 = 1
      by_cases z : k < cnt D w
      · rw [if_pos z, drop_S (by omega), if_neg (fun h => hne k (by omega) (by omega) h.1)]
        exact hI.1 k (by omega)
      · rw [if_neg z, drop_S (by omega), if_neg (fun h => hne (k + 1) (by omega) (by omega) h.1)]
        exact hI.1 (k + 1) (by omega)
    · show kR _ (if i < cnt D w then ordN D i else ordN D (i + 1)) < kR _ (if j < cnt D w then ordN D j else ordN D (j + 1))
      rw [kR_drop, kR_drop]
      by_cases z : i < cnt D w
      · rw [if_pos z]
        by_cases z2 : j < cnt D w
        · rw [if_pos z2]
          exact hI.2.1 i j hij (by omega)
        · rw [if_neg z2]
          exact hI.2.1 i (j + 1) (by omega) (by omega)
      · rw [if_neg z, if_neg (by omega)]
        exact hI.2.1 (i + 1) (j + 1) (by omega) (by omega)
    · rw [drop_S (by omega)] at h1
      by_cases z : s = w
      · rw [if_pos ⟨z, rfl⟩] at h1
        omega
      · rw [if_neg (fun h => z h.1)] at h1
        obtain ⟨k, k1, k2⟩ := hI.2.2 s hs h1
        have kne : k ≠ cnt D w := fun e => z (by rw [← k2, e, hor])
        by_cases z2 : k < cnt D w
        · exact ⟨k, by omega, by show (if k < cnt D w then _ else _) = s; rw [if_pos z2, k2]⟩
        · refine ⟨k - 1, by omega, ?_⟩
          show (if k - 1 < cnt D w then _ else _) = s
          rw [if_neg (by omega), show k - 1 + 1 = k by omega, k2]
  have u := ord_uniq (ordN_I (setD D w 0 0)) hO
  exact ⟨by omega, u.2⟩
theorem lay_drop (hw : w < 12) (h0 : dS D w 0 = 1) (Y0 : Ly) : layN (setD D w 0 0) 99 Y0 (nS (setD D w 0 0)) = layN D w Y0 (nS D) := by
  obtain ⟨e1, e2⟩ := ord_drop hw h0
  have hI := ordN_I D
  have hI' := ordN_I (setD D w 0 0)
  have hr := cnt_n hw h0
  have hor : ordN D (cnt D w) = w := by
    obtain ⟨k, k1, k2⟩ := hI.2.2 w hw h0
    have := ord_cnt hI k k1
    rw [k2] at this
    rw [this, k2]
  have hne : ∀ k, k < nS D → k ≠ cnt D w → ordN D k ≠ w := fun k hk hne e => by
    have := ord_cnt hI k hk
    rw [e] at this
    exact hne this.symm
  have sm : ∀ t, t ≠ w → SmD D (setD D w 0 0) t := fun t ht k hk => by
    rw [drop_S hk, if_neg (fun h => ht h.1)]
  have low : ∀ k, k ≤ cnt D w → layN (setD D w 0 0) 99 Y0 k = layN D w Y0 k := by
    intro k
    induction k with
    | zero =>
      intro _
      show adsY _ Y0 = adsY _ Y0
      unfold adsY
      rw [adR_sm (fun a k ha hk => setD_A hw (by omega)) _ _ 8 (Nat.le_refl 8), adR_sm (fun a k ha hk => setD_A hw (by omega)) _ _ 8 (Nat.le_refl 8)]
    | succ k ih =>
      intro hk
      have n1 := hne k (by omega) (by omega)
      unfold layN
      rw [e2 k (by omega), if_pos (show k < cnt D w by omega), if_neg (show ¬ ordN D k = 99 by have := (hI.1 k (by omega)).1; omega), if_neg n1, ih (by omega), placeY_sm (sm _ n1)]
  have high : ∀ k, cnt D w ≤ k → k + 1 ≤ nS D → layN (setD D w 0 0) 99 Y0 k = layN D w Y0 (k + 1) := by
    intro k
    induction k with
    | zero =>
      intro h1 h2
      rw [low 0 (by omega)]
      show _ = (if ordN D 0 = w then layN D w Y0 0 else _)
      have : cnt D w = 0 := by omega
      rw [this] at hor
      rw [if_pos hor]
    | succ k ih =>
      intro h1 h2
      by_cases z : cnt D w = k + 1
      · rw [low (k + 1) (by omega)]
        show _ = (if ordN D (k + 1) = w then layN D w Y0 (k + 1) else _)
        rw [z] at hor
        rw [if_pos hor]
      · have n1 := hne (k + 1) (by omega) (by omega)
        show (if ordN (setD D w 0 0) k = 99 then _ else placeY _ _ _) = (if ordN D (k + 1) = w then _ else placeY _ _ _)
        rw [e2 k (by omega), if_neg (show ¬ k < cnt D w by omega), if_neg (show ¬ ordN D (k + 1) = 99 by have := (hI.1 (k + 1) (by omega)).1; omega), if_neg n1, ih (by omega) (by omega), placeY_sm (sm _ n1)]
  rw [high (nS (setD D w 0 0)) (by omega) (by omega), e1]
/-- where a story starts doesn't depend on what lies beyond the pages -/
theorem stP_indep (hD : DOk D) {Y0 Y1 : Ly} (h0 : Ly0 Y0) (h1 : Ly0 Y1) {s : Nat} (hs : s < 12) (hsw : s ≠ w) (hi : dS D s 0 = 1) (hw : w < 12) : stP (layN D w Y0 (nS D)) s = stP (layN D w Y1 (nS D)) s := by
  have hN : NwR (fun _ i => nI (D i)) 85 D := fun i _ => rfl
  obtain ⟨σ1, a1, -, -, -, -, a6⟩ := s6_lays hN hD 500 w (nI w) (fun s hs => by rw [nI_eq (by omega) (by omega)]) (by omega) Y0 h0
  obtain ⟨σ2, b1, -, -, -, -, b6⟩ := s6_lays hN hD 500 w (nI w) (fun s hs => by rw [nI_eq (by omega) (by omega)]) (by omega) Y1 h1
  have e : σ1 = σ2 := by
    have b2 := a1.symm.trans b1
    exact (Prod.mk.inj (Option.some.inj b2)).2
  rw [← e] at b6
  have p1 := (a6.2.2 s hs ⟨hsw, hi⟩).2.2.1
  have p2 := (b6.2.2 s hs ⟨hsw, hi⟩).2.2.1
  exact p1.symm.trans p2
end B2
