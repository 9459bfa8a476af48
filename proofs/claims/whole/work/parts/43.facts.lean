/-! THE PURE PART. Facts on a finished layout. -/
def sumL (Y : Ly) (s : Nat) : Nat → Nat
  | 0 => 0
  | n + 1 => sumL Y s n + lp Y s n 5
def PartOk (D : Nat → Nat) (Y : Ly) (s q : Nat) : Prop :=
  lp Y s q 0 ≤ 3 ∧ lp Y s q 1 + lp Y s q 3 ≤ 5 ∧ lp Y s q 2 + lp Y s q 4 ≤ 24 ∧ lp Y s q 3 = pW D s q ∧ 1 ≤ lp Y s q 3 ∧ lp Y s q 3 ≤ 3 ∧ lp Y s q 4 = abv D s q + (lp Y s q 5 + lp Y s q 3 - 1) / lp Y s q 3 + lp Y s q 7 ∧ lp Y s q 6 = sumL Y s q ∧ lp Y s q 7 ≤ 1 ∧ lp Y s q 5 ≤ 150 ∧ lp Y s q 8 = abv D s q
def GoodS (D : Nat → Nat) (Y : Ly) (s : Nat) : Prop := ln Y s ≤ 4 ∧ sumL Y s (ln Y s) = ll Y s ∧ ll Y s ≤ dS D s 4 ∧ ld Y s ≤ 24 ∧ ∀ q, q < ln Y s → PartOk D Y s q
theorem sumL_congr {Y Y' : Ly} {s : Nat} : ∀ {n : Nat}, (∀ q, q < n → lp Y' s q 5 = lp Y s q 5) → sumL Y' s n = sumL Y s n
  | 0, _ => rfl
  | n + 1, h => by
    unfold sumL
    rw [sumL_congr (n := n) (fun q hq => h q (by omega)), h n (by omega)]
theorem PartOk.congr {D : Nat → Nat} {Y Y' : Ly} {s q : Nat} (h : PartOk D Y s q) (e : ∀ q', q' ≤ q → ∀ k, lp Y' s q' k = lp Y s q' k) : PartOk D Y' s q := by
  unfold PartOk at h ⊢
  rw [e q (Nat.le_refl _) 0, e q (Nat.le_refl _) 1, e q (Nat.le_refl _) 2, e q (Nat.le_refl _) 3, e q (Nat.le_refl _) 4, e q (Nat.le_refl _) 5, e q (Nat.le_refl _) 6, e q (Nat.le_refl _) 7, e q (Nat.le_refl _) 8, sumL_congr (fun q' hq' => e q' (by omega) 5)]
  exact h
theorem good_part {D : Nat → Nat} {s q i : Nat} {Y : Ly} (hS : SOk D s) (h0 : dS D s 0 = 1) (hq : q ≤ 3) (hp : Pre D s q i Y) (hG : GoodS D Y s) : GoodS D (partY D s q i Y) s := by
  have hw := Pre.w (q := q) (i := i) (Y := Y) hS h0
  have hd2 := hp.d
  have ft := part_fit (i := i) (Y := Y) hw.1 hw.2.1 (by omega)
  have hib := hp.2.2.2
  obtain ⟨g1, g2, g3, g4, g5⟩ := hG
  have l4 := hS.2.2.2.2.1
  have hln := hp.1
  have hwant : pWant D s Y = dS D s 4 - ll Y s := rfl
  have e1 : ln (partY D s q i Y) s = q + 1 := upN_s _ _ _
  have e2 : ll (partY D s q i Y) s = ll Y s + pNl D s q i Y := upN_s _ _ _
  have e3 : ∀ q', q' < q → ∀ k, lp (partY D s q i Y) s q' k = lp Y s q' k := fun q' h k => if_neg (by omega)
  have e4 : ∀ k, lp (partY D s q i Y) s q k = pVal i (pW D s q) (abv D s q + pLr D s q i Y + pJ D s q i Y) (pNl D s q i Y) (ll Y s) (pJ D s q i Y) (abv D s q) k := fun k => if_pos ⟨rfl, rfl⟩
  have es : sumL (partY D s q i Y) s q = ll Y s := by
    rw [sumL_congr (Y := Y) (fun q' h => e3 q' h 5), ← hln, g2]
  have hj : pJ D s q i Y ≤ 1 := by
    unfold pJ
    cases pNx D s q i Y
    · exact Nat.zero_le 1
    · exact Nat.le_refl 1
  refine ⟨by rw [e1]; omega, ?_, by rw [e2]; omega, ?_, ?_⟩
  · rw [e1, e2]
    show sumL (partY D s q i Y) s q + lp (partY D s q i Y) s q 5 = _
    rw [es, e4 5]
    rfl
  · show (if q = 0 then upN (ld Y) s (pD D s q i Y) else ld Y) s ≤ 24
    by_cases z : q = 0
    · rw [if_pos z, upN_s]
      omega
    · rw [if_neg z]
      exact g4
  · rw [e1]
    intro q' hq'
    by_cases z : q' = q
    · rw [z]
      unfold PartOk
      rw [e4 0, e4 1, e4 2, e4 3, e4 4, e4 5, e4 6, e4 7, e4 8, es]
      have i0 := hib.1
      have i1 := hib.2.2.1
      refine ⟨?_, ?_, ?_, rfl, hw.1, hw.2.1, rfl, rfl, hj, ?_, rfl⟩
      · show i / 120 ≤ 3
        omega
      · show i % 5 + pW D s q ≤ 5
        exact i1
      · show i % 120 / 5 + (abv D s q + pLr D s q i Y + pJ D s q i Y) ≤ 24
        omega
      · show pNl D s q i Y ≤ 150
        omega
    · exact (g5 q' (by omega)).congr (fun q'' h k => e3 q'' (by omega) k)
theorem good_go {D : Nat → Nat} {s : Nat} (hS : SOk D s) (h0 : dS D s 0 = 1) : ∀ (n q i : Nat) (Y : Ly), q + n ≤ 4 → (0 < n → Pre D s q i Y) → GoodS D Y s → GoodS D (goY D s n q i Y) s
  | 0, _, _, _, _, _, hG => hG
  | n + 1, q, i, Y, hn, hp, hG => by
    have hp' := hp (by omega)
    have g := good_part hS h0 (by omega) hp' hG
    show GoodS D (om (pNx D s q i Y) (partY D s q i Y) (fun i' => goY D s n (q + 1) i' (partY D s q i Y))) s
    cases e : pNx D s q i Y with
    | none => exact g
    | some i' => exact good_go hS h0 n (q + 1) i' _ (by omega) (fun _ => (hp'.next hS h0 e).1) g
theorem good_place {D : Nat → Nat} {s : Nat} {Y : Ly} (hS : SOk D s) (h0 : dS D s 0 = 1) (h1 : ln Y s = 0) (h2 : ll Y s = 0) (h3 : ld Y s = 0) : GoodS D (placeY D s Y) s := by
  have base : GoodS D Y s := ⟨by omega, by rw [h1, h2]; rfl, by omega, by omega, fun q hq => by omega⟩
  unfold placeY
  cases e : findSt (lc Y) D s with
  | none => exact base
  | some i => exact good_go hS h0 4 0 i Y (by omega) (fun _ => ⟨h1, fun _ => h2, by omega, findSt_some hS h0 e⟩) base
theorem GoodS.congr {D : Nat → Nat} {Y Y' : Ly} {s : Nat} (h : GoodS D Y s) (e : SameS s Y Y') : GoodS D Y' s := by
  obtain ⟨e1, e2, e3, e4⟩ := e
  obtain ⟨g1, g2, g3, g4, g5⟩ := h
  refine ⟨by rw [e1]; exact g1, ?_, by rw [e2]; exact g3, by rw [e3]; exact g4, fun q hq => (g5 q (by rw [← e1]; exact hq)).congr (fun q' _ k => e4 q' k)⟩
  rw [e1, e2, sumL_congr (fun q _ => e4 q 5)]
  exact g2
theorem good_lay {D : Nat → Nat} {w : Nat} {Y0 : Ly} (hD : DOk D) (h0 : Ly0 Y0) : ∀ n, n ≤ nS D → ∀ s, s < 12 → GoodS D (layN D w Y0 n) s
  | 0, _, s, hs => by
    have a := h0.2.2.1 s
    have b := h0.2.2.2.1 s
    have c := h0.2.2.2.2 s
    have a' : ln (layN D w Y0 0) s = 0 := a
    have b' : ll (layN D w Y0 0) s = 0 := b
    have c' : ld (layN D w Y0 0) s = 0 := c
    exact ⟨by omega, by rw [a', b']; rfl, by omega, by omega, fun q hq => by omega⟩
  | n + 1, hn, s, hs => by
    have ih := good_lay (w := w) hD h0 n (by omega) s hs
    unfold layN
    by_cases z : ordN D n = w
    · rw [if_pos z]
      exact ih
    · rw [if_neg z]
      by_cases z2 : s = ordN D n
      · have hI := (ordN_I D).1 n (by omega)
        have fr := layN_fresh (D := D) (w := w) h0 n (ordN D n) (fun j hj => Or.inr (ordN_ne hj (by omega)))
        rw [z2]
        exact good_place (hD.2.2.1 _ hI.1) hI.2 fr.1 fr.2.1 fr.2.2
      · exact ih.congr (placeY_other z2)
/-! kinds and owners go together -/
def CO (c o : Nat → Int32) (t : Nat) : Prop := (c t = nI 0 ∧ o t = -nI 1) ∨ ((∃ k, 0 < k ∧ k < 9 ∧ c t = nI k) ∧ ∃ a, a < 200 ∧ o t = nI a)
theorem co_fl1 {c o : Nat → Int32} {t : Nat} (h : CO c o t) {k a : Nat} (hk : 0 < k) (hk9 : k < 9) (ha : a < 200) (i : Nat) : ∀ w, CO (fl1 (nI k) i w c) (fl1 (nI a) i w o) t
  | 0 => h
  | w + 1 => by
    have ih := co_fl1 h hk hk9 ha i w
    show CO (upd (fl1 (nI k) i w c) (i + w) (nI k)) (upd (fl1 (nI a) i w o) (i + w) (nI a)) t
    unfold CO at ih ⊢
    by_cases z : t = i + w
    · rw [z, pk_us, pk_us]
      exact Or.inr ⟨⟨k, hk, hk9, rfl⟩, a, ha, rfl⟩
    · rw [pk_un z, pk_un z]
      exact ih
theorem co_fl {c o : Nat → Int32} {t : Nat} (h : CO c o t) {k a : Nat} (hk : 0 < k) (hk9 : k < 9) (ha : a < 200) (i w : Nat) : ∀ n, CO (fl (nI k) i w n c) (fl (nI a) i w n o) t
  | 0 => h
  | n + 1 => co_fl1 (co_fl h hk hk9 ha i w n) hk hk9 ha (i + n * 5) w
theorem co_ln {c o : Nat → Int32} {t : Nat} (h : CO c o t) {k a : Nat} (hk : 0 < k) (hk9 : k < 9) (ha : a < 200) (i w lines : Nat) : ∀ n, CO (lnR (nI k) i w lines n c) (lnR (nI a) i w lines n o) t
  | 0 => h
  | n + 1 => co_fl (co_ln h hk hk9 ha i w lines n) hk hk9 ha (i + n) 1 _
theorem co_pR {c o : Nat → Int32} {t : Nat} (h : CO c o t) {D : Nat → Nat} {s q i w lr lines j : Nat} (hs : s < 12) : CO (pR nI D s q i w lr lines j c) (pR (fun _ => nI s) D s q i w lr lines j o) t := by
  unfold pR
  refine co_fl (co_ln (co_fl ?_ (by omega) (by omega) (by omega) _ _ _) (by omega) (by omega) (by omega) _ _ _ _) (by omega) (by omega) (by omega) _ _ _
  unfold hdR
  by_cases z : q = 0
  · rw [if_pos z, if_pos z]
    exact co_fl (co_fl (co_fl h (by omega) (by omega) (by omega) _ _ _) (by omega) (by omega) (by omega) _ _ _) (by omega) (by omega) (by omega) _ _ _
  · rw [if_neg z, if_neg z]
    exact co_fl h (by omega) (by omega) (by omega) _ _ _
theorem co_go {D : Nat → Nat} {s t : Nat} (hs : s < 12) : ∀ (n q i : Nat) (Y : Ly), CO (lc Y) (lo Y) t → CO (lc (goY D s n q i Y)) (lo (goY D s n q i Y)) t
  | 0, _, _, _, h => h
  | n + 1, q, i, Y, h => by
    have h2 : CO (lc (partY D s q i Y)) (lo (partY D s q i Y)) t := co_pR h hs
    unfold goY
    cases pNx D s q i Y with
    | none => exact h2
    | some i' => exact co_go hs n (q + 1) i' _ h2
theorem co_ads {D : Nat → Nat} {t : Nat} {c o : Nat → Int32} (h : CO c o t) : ∀ n, n ≤ 8 → CO (adR (fun _ => nI 1) D n c) (adR (fun a => nI (100 + a)) D n o) t
  | 0, _ => h
  | n + 1, hn => by
    have ih := co_ads (D := D) h n (by omega)
    rw [adR_s, adR_s]
    by_cases z : dA D n 0 = 1
    · rw [if_pos z, if_pos z]
      exact co_fl ih (by omega) (by omega) (by omega) _ _ _
    · rw [if_neg z, if_neg z]
      exact ih
theorem co_lay {D : Nat → Nat} {w : Nat} {Y0 : Ly} (h0 : Ly0 Y0) {t : Nat} (ht : t < 480) : ∀ n, n ≤ nS D → CO (lc (layN D w Y0 n)) (lo (layN D w Y0 n)) t
  | 0, _ => co_ads (Or.inl ⟨h0.1 t ht, h0.2.1 t ht⟩) 8 (Nat.le_refl 8)
  | n + 1, hn => by
    have ih := co_lay (D := D) (w := w) h0 ht n (by omega)
    unfold layN
    by_cases z : ordN D n = w
    · rw [if_pos z]
      exact ih
    · rw [if_neg z]
      unfold placeY
      cases findSt (lc (layN D w Y0 n)) D (ordN D n) with
      | none => exact ih
      | some i => exact co_go ((ordN_I D).1 n (by omega)).1 4 0 i _ ih
