/-! THE PURE PART. The reference places a story. -/
theorem fl1_pt (v : Int32) (i : Nat) {f f' : Nat → Int32} {t : Nat} (h : f t = f' t) : ∀ w, fl1 v i w f t = fl1 v i w f' t
  | 0 => h
  | w + 1 => by
    show upd (fl1 v i w f) (i + w) v t = upd (fl1 v i w f') (i + w) v t
    by_cases z : t = i + w
    · rw [z, pk_us, pk_us]
    · rw [pk_un z, pk_un z]
      exact fl1_pt v i h w
theorem fl_pt (v : Int32) (i w : Nat) {f f' : Nat → Int32} {t : Nat} (h : f t = f' t) : ∀ n, fl v i w n f t = fl v i w n f' t
  | 0 => h
  | n + 1 => fl1_pt v (i + n * 5) (fl_pt v i w h n) w
theorem lnR_pt (v : Int32) (i w lines : Nat) {f f' : Nat → Int32} {t : Nat} (h : f t = f' t) : ∀ c, lnR v i w lines c f t = lnR v i w lines c f' t
  | 0 => h
  | c + 1 => fl_pt v (i + c) 1 (lnR_pt v i w lines h c) (locN lines w c)
theorem pR_pt (v : Nat → Int32) (D : Nat → Nat) (s q i w lr lines j : Nat) {f f' : Nat → Int32} {t : Nat} (h : f t = f' t) : pR v D s q i w lr lines j f t = pR v D s q i w lr lines j f' t := by
  unfold pR
  apply fl_pt
  apply lnR_pt
  apply fl_pt
  unfold hdR
  by_cases z : q = 0
  · rw [if_pos z, if_pos z]
    exact fl_pt _ _ _ (fl_pt _ _ _ (fl_pt _ _ _ h _) _) _
  · rw [if_neg z, if_neg z]
    exact fl_pt _ _ _ h _
def RfR (P : Nat → Prop) (σ : Hp) (Y : Ly) : Prop :=
  (∀ i, i < 480 → σ 89 i = lc Y i) ∧ (∀ i, i < 480 → σ 90 i = lo Y i) ∧ (∀ s, s < 12 → P s → σ 93 s = nI (ln Y s) ∧ ln Y s ≤ 4 ∧ σ 92 s = (if ln Y s = 0 then -nI 1 else nI (lp Y s 0 0)) ∧ (0 < ln Y s → σ 95 s = nI (ld Y s)) ∧ ∀ q k, q < ln Y s → k < 8 → σ 94 (8 * (4 * s + q) + k) = nI (lp Y s q k))
theorem loc_eq {lines w c : Nat} (hw : 1 ≤ w) (hw3 : w ≤ 3) (hc : c < w) : (lines - lines / w * w ≤ c → lines / w = locN lines w c) ∧ (¬ lines - lines / w * w ≤ c → lines / w + 1 = locN lines w c) := by
  unfold locN
  obtain h | h | h : w = 1 ∨ w = 2 ∨ w = 3 := by omega
  all_goals
    rw [h] at hc ⊢
    constructor
    · intro q
      omega
    · intro q
      omega
section L5
variable {σ : Hp} {D : Nat → Nat} {Y : Ly} {P : Nat → Prop}
theorem s6_fillsT (N p c r w h i : Nat) (k o : Int32) (f f' : Nat → Int32) (σ : Hp) (hN : 500 ≤ N) (hw : w ≤ 5) (hh : h ≤ 24) (hp : p ≤ 3) (hr : r ≤ 30) (hc : c ≤ 5) (hi : h = 0 ∨ i + h * 5 + w ≤ 485) (e : i = 120 * p + 5 * r + c) : f6_fills N (nI p) (nI c) (nI r) (nI w) (nI h) k o (tw 88 f f' σ) = some ((), tw 88 (fl k i w h f) (fl o i w h f') σ) := by
  rw [s6_fills N p c r w h i k o _ hN hw hh hp hr hc hi e, pnt_tw]
theorem s6_linesIn (N s p c r w lr lines i : Nat) (f f' : Nat → Int32) (hN : 500 ≤ N) (hw : 1 ≤ w) (hw3 : w ≤ 3) (hl : (lines + w - 1) / w ≤ lr) (hlr : lr ≤ 24) (hi : i + lr * 5 + w ≤ 485) (hll : lines ≤ 1000) (hp : p ≤ 3) (hr : r ≤ 24) (hc : c + w ≤ 5) (e : i = 120 * p + 5 * r + c) : f6_linesIn N (nI s) (nI p) (nI c) (nI r) (nI w) (nI lr) (nI lines) (tw 88 f f' σ) = some ((), tw 88 (lnR (nI 5) i w lines w (fl (nI 8) i w lr f)) (lnR (nI s) i w lines w (fl (nI s) i w lr f')) σ) := by
  have main := lpc (fun _ _ => none) (f6_linesIn_B18 N (nI s) (nI p) (nI c) (nI r) (nI w) (nI lr) (nI lines) (fun σL18 => some ((), σL18))) (fun t q => t (nI q) (tw 88 (lnR (nI 5) i w lines q (fl (nI 8) i w lr f)) (lnR (nI s) i w lines q (fl (nI s) i w lr f')) σ)) (some ((), (tw 88 (lnR (nI 5) i w lines w (fl (nI 8) i w lr f)) (lnR (nI s) i w lines w (fl (nI s) i w lr f')) σ))) w (by
    intro r'
    show f6_linesIn_B18 _ _ _ _ _ _ _ _ _ _ _ _ = _
    unfold f6_linesIn_B18
    simp (disch := omega) only [q_lit, q_gt, q_bd, q_bxl, q_bxr, q_vib, q_cl, q_pos, q_lt, q_le, q_eq, q_neg, q_neg1, q_negz, q_negeq0, q_neg0le, q_rem, q_div, q_sub, q_if1, q_if0, q_okB0, q_okB1, q_dz, q_dn, q_nb, and_true, true_and, and_false, false_and, nI_add, pk_mul, if_true, if_false, ite_true, ite_false, Nat.add_zero, Nat.zero_add, Nat.reduceAdd]) (by
    intro r' q hq
    have h1 := loc_le lines w q
    have h2 := loc_eq (lines := lines) hw hw3 hq
    show f6_linesIn_B18 _ _ _ _ _ _ _ _ _ _ _ _ = _
    have hdm := Nat.div_mul_le_self lines w
    have hdl := Nat.div_le_self lines w
    unfold f6_linesIn_B18 f6_linesIn_J45
    simp (disch := omega) only [q_lit, q_gt, q_bd, q_bxl, q_bxr, q_vib, q_cl, q_pos, q_lt, q_le, q_eq, q_neg, q_neg1, q_negz, q_negeq0, q_neg0le, q_rem, q_div, q_sub, q_if1, q_if0, q_okB0, q_okB1, q_dz, q_dn, q_nb, and_true, true_and, and_false, false_and, nI_add, pk_mul, if_true, if_false, ite_true, ite_false, Nat.add_zero, Nat.zero_add, Nat.reduceAdd]
    by_cases z : lines - lines / w * w ≤ q
    · rw [if_pos z, h2.1 z, s6_fillsT N p (c + q) r 1 (locN lines w q) (i + q) (nI 5) (nI s) _ _ σ hN (by omega) (by omega) hp (by omega) (by omega) (by omega) (by omega)]
      rfl
    · rw [if_neg z, h2.2 z, s6_fillsT N p (c + q) r 1 (locN lines w q) (i + q) (nI 5) (nI s) _ _ σ hN (by omega) (by omega) hp (by omega) (by omega) (by omega) (by omega)]
      rfl) (Nat.zero_le w) (show w < 0 + N by omega)
  unfold f6_linesIn
  simp (disch := omega) only [q_lit, q_gt, q_bd, q_bxl, q_bxr, q_vib, q_cl, q_pos, q_lt, q_le, q_eq, q_neg, q_neg1, q_negz, q_negeq0, q_neg0le, q_rem, q_div, q_sub, q_if1, q_if0, q_okB0, q_okB1, q_dz, q_dn, q_nb, and_true, true_and, and_false, false_and, nI_add, pk_mul, if_true, if_false, ite_true, ite_false, Nat.add_zero, Nat.zero_add, Nat.reduceAdd, s6_fillsT N p c r w lr i (nI 8) (nI s) f f' σ hN (by omega) hlr hp (by omega) (by omega) (by omega) e]
  exact main
theorem s6_notes (N s q i w rows lines l j a : Nat) (hs : s < 12) (hq : q ≤ 3) (h5 : σ 93 s = nI q) (hj : j ≤ 1) : ∃ σ', f6_notes N (nI s) (nI (i / 120)) (nI (i % 5)) (nI (i % 120 / 5)) (nI w) (nI rows) (nI lines) (nI l) (nI j) σ = some ((), σ') ∧ (∀ k, k ≠ 93 → k ≠ 94 → σ' k = σ k) ∧ (∀ t, σ' 93 t = if t = s then nI (q + 1) else σ 93 t) ∧ (∀ k, k < 8 → σ' 94 (8 * (4 * s + q) + k) = nI (pVal i w rows lines l j a k)) ∧ (∀ t, t < 8 * (4 * s + q) ∨ 8 * (4 * s + q) + 8 ≤ t → σ' 94 t = σ 94 t) := by
  rcases bit_cases hj with rfl | rfl
  · unfold f6_notes f6_notes_J108
    simp (disch := omega) only [q_lit, q_gt, q_bd, q_bxl, q_bxr, q_vib, q_cl, q_pos, q_lt, q_le, q_eq, q_neg, q_neg1, q_negz, q_negeq0, q_neg0le, q_rem, q_div, q_sub, q_if1, q_if0, q_okB0, q_okB1, q_dz, q_dn, q_nb, and_true, true_and, and_false, false_and, nI_add, pk_mul, if_true, if_false, ite_true, ite_false, Nat.add_zero, Nat.zero_add, Nat.reduceAdd, h5, st_row]
    refine ⟨_, rfl, ?_, ?_, ?_, ?_⟩
    · intro k k1 k2
      simp (disch := omega) only [q_lit, q_gt, q_bd, q_bxl, q_bxr, q_vib, q_cl, q_pos, q_lt, q_le, q_eq, q_neg, q_neg1, q_negz, q_negeq0, q_neg0le, q_rem, q_div, q_sub, q_if1, q_if0, q_okB0, q_okB1, q_dz, q_dn, q_nb, and_true, true_and, and_false, false_and, nI_add, pk_mul, if_true, if_false, ite_true, ite_false, Nat.add_zero, Nat.zero_add, Nat.reduceAdd, st_row]
    · intro t
      simp (disch := omega) only [q_lit, q_gt, q_bd, q_bxl, q_bxr, q_vib, q_cl, q_pos, q_lt, q_le, q_eq, q_neg, q_neg1, q_negz, q_negeq0, q_neg0le, q_rem, q_div, q_sub, q_if1, q_if0, q_okB0, q_okB1, q_dz, q_dn, q_nb, and_true, true_and, and_false, false_and, nI_add, pk_mul, if_true, if_false, ite_true, ite_false, Nat.add_zero, Nat.zero_add, Nat.reduceAdd, st_row, st_get]
    · intro k hk
      rcases eight k hk with rfl | rfl | rfl | rfl | rfl | rfl | rfl | rfl
      all_goals
        simp (disch := omega) only [q_lit, q_gt, q_bd, q_bxl, q_bxr, q_vib, q_cl, q_pos, q_lt, q_le, q_eq, q_neg, q_neg1, q_negz, q_negeq0, q_neg0le, q_rem, q_div, q_sub, q_if1, q_if0, q_okB0, q_okB1, q_dz, q_dn, q_nb, and_true, true_and, and_false, false_and, nI_add, pk_mul, if_true, if_false, ite_true, ite_false, Nat.add_zero, Nat.zero_add, Nat.reduceAdd, st_get, pVal]
    · intro t ht
      simp (disch := omega) only [q_lit, q_gt, q_bd, q_bxl, q_bxr, q_vib, q_cl, q_pos, q_lt, q_le, q_eq, q_neg, q_neg1, q_negz, q_negeq0, q_neg0le, q_rem, q_div, q_sub, q_if1, q_if0, q_okB0, q_okB1, q_dz, q_dn, q_nb, and_true, true_and, and_false, false_and, nI_add, pk_mul, if_true, if_false, ite_true, ite_false, Nat.add_zero, Nat.zero_add, Nat.reduceAdd, st_get]
  · unfold f6_notes f6_notes_J108
    simp (disch := omega) only [q_lit, q_gt, q_bd, q_bxl, q_bxr, q_vib, q_cl, q_pos, q_lt, q_le, q_eq, q_neg, q_neg1, q_negz, q_negeq0, q_neg0le, q_rem, q_div, q_sub, q_if1, q_if0, q_okB0, q_okB1, q_dz, q_dn, q_nb, and_true, true_and, and_false, false_and, nI_add, pk_mul, if_true, if_false, ite_true, ite_false, Nat.add_zero, Nat.zero_add, Nat.reduceAdd, h5, st_row]
    refine ⟨_, rfl, ?_, ?_, ?_, ?_⟩
    · intro k k1 k2
      simp (disch := omega) only [q_lit, q_gt, q_bd, q_bxl, q_bxr, q_vib, q_cl, q_pos, q_lt, q_le, q_eq, q_neg, q_neg1, q_negz, q_negeq0, q_neg0le, q_rem, q_div, q_sub, q_if1, q_if0, q_okB0, q_okB1, q_dz, q_dn, q_nb, and_true, true_and, and_false, false_and, nI_add, pk_mul, if_true, if_false, ite_true, ite_false, Nat.add_zero, Nat.zero_add, Nat.reduceAdd, st_row]
    · intro t
      simp (disch := omega) only [q_lit, q_gt, q_bd, q_bxl, q_bxr, q_vib, q_cl, q_pos, q_lt, q_le, q_eq, q_neg, q_neg1, q_negz, q_negeq0, q_neg0le, q_rem, q_div, q_sub, q_if1, q_if0, q_okB0, q_okB1, q_dz, q_dn, q_nb, and_true, true_and, and_false, false_and, nI_add, pk_mul, if_true, if_false, ite_true, ite_false, Nat.add_zero, Nat.zero_add, Nat.reduceAdd, st_row, st_get]
    · intro k hk
      rcases eight k hk with rfl | rfl | rfl | rfl | rfl | rfl | rfl | rfl
      all_goals
        simp (disch := omega) only [q_lit, q_gt, q_bd, q_bxl, q_bxr, q_vib, q_cl, q_pos, q_lt, q_le, q_eq, q_neg, q_neg1, q_negz, q_negeq0, q_neg0le, q_rem, q_div, q_sub, q_if1, q_if0, q_okB0, q_okB1, q_dz, q_dn, q_nb, and_true, true_and, and_false, false_and, nI_add, pk_mul, if_true, if_false, ite_true, ite_false, Nat.add_zero, Nat.zero_add, Nat.reduceAdd, st_get, pVal]
    · intro t ht
      simp (disch := omega) only [q_lit, q_gt, q_bd, q_bxl, q_bxr, q_vib, q_cl, q_pos, q_lt, q_le, q_eq, q_neg, q_neg1, q_negz, q_negeq0, q_neg0le, q_rem, q_div, q_sub, q_if1, q_if0, q_okB0, q_okB1, q_dz, q_dn, q_nb, and_true, true_and, and_false, false_and, nI_add, pk_mul, if_true, if_false, ite_true, ite_false, Nat.add_zero, Nat.zero_add, Nat.reduceAdd, st_get]
/-- the relation behind a part -/
theorem rf_part (hR : RfR P σ Y) {σ' : Hp} {s q i : Nat} (hs : s < 12) (hq : q ≤ 3) (hl : P s → ln Y s = q) (h89 : σ' 89 = pR nI D s q i (pW D s q) (pLr D s q i Y) (pNl D s q i Y) (pJ D s q i Y) (σ 89)) (h90 : σ' 90 = pR (fun _ => nI s) D s q i (pW D s q) (pLr D s q i Y) (pNl D s q i Y) (pJ D s q i Y) (σ 90)) (h93 : ∀ t, σ' 93 t = if t = s then nI (q + 1) else σ 93 t) (h94 : ∀ k, k < 8 → σ' 94 (8 * (4 * s + q) + k) = nI (pVal i (pW D s q) (abv D s q + pLr D s q i Y + pJ D s q i Y) (pNl D s q i Y) (ll Y s) (pJ D s q i Y) (abv D s q) k)) (h94' : ∀ t, t < 8 * (4 * s + q) ∨ 8 * (4 * s + q) + 8 ≤ t → σ' 94 t = σ 94 t) (h92 : ∀ t, σ' 92 t = if t = s ∧ q = 0 then nI (i / 120) else σ 92 t) (h95 : ∀ t, σ' 95 t = if t = s ∧ q = 0 then nI (pD D s q i Y) else σ 95 t) : RfR P σ' (partY D s q i Y) := by
  obtain ⟨r1, r2, r3⟩ := hR
  refine ⟨?_, ?_, ?_⟩
  · intro t ht
    rw [h89]
    exact pR_pt _ _ _ _ _ _ _ _ _ (r1 t ht)
  · intro t ht
    rw [h90]
    exact pR_pt _ _ _ _ _ _ _ _ _ (r2 t ht)
  · intro t ht hPt
    obtain ⟨u1, u2, u3, u4, u5⟩ := r3 t ht hPt
    rw [h93, h92, h95]
    show _ = nI (upN (ln Y) s (q + 1) t) ∧ upN (ln Y) s (q + 1) t ≤ 4 ∧ _ = (if upN (ln Y) s (q + 1) t = 0 then -nI 1 else nI (if t = s ∧ 0 = q then pVal i _ _ _ _ _ _ 0 else lp Y t 0 0)) ∧ (0 < upN (ln Y) s (q + 1) t → _ = nI ((if q = 0 then upN (ld Y) s (pD D s q i Y) else ld Y) t)) ∧ ∀ q' k, q' < upN (ln Y) s (q + 1) t → k < 8 → _ = nI (if t = s ∧ q' = q then _ else lp Y t q' k)
    by_cases z : t = s
    · subst z
      have hlq := hl hPt
      rw [upN_s, if_pos rfl]
      refine ⟨rfl, by omega, ?_, ?_, ?_⟩
      · rw [if_neg (show ¬ q + 1 = 0 by omega)]
        by_cases z0 : q = 0
        · rw [if_pos ⟨rfl, z0⟩, if_pos ⟨rfl, z0.symm⟩]
          rfl
        · rw [if_neg (fun h => z0 h.2), if_neg (fun h => z0 h.2.symm), u3, if_neg (by omega)]
      · intro _
        by_cases z0 : q = 0
        · rw [if_pos ⟨rfl, z0⟩, if_pos z0, upN_s]
        · rw [if_neg (fun h => z0 h.2), if_neg z0]
          exact u4 (by omega)
      · intro q' k hq' hk
        by_cases z2 : q' = q
        · subst z2
          rw [if_pos ⟨rfl, rfl⟩]
          exact h94 k hk
        · rw [if_neg (fun h => z2 h.2), h94' _ (by omega)]
          exact u5 q' k (by omega) hk
    · have n1 : ¬ (t = s ∧ q = 0) := fun h => z h.1
      have n2 : ¬ (t = s ∧ 0 = q) := fun h => z h.1
      rw [upN_n _ _ _ z, if_neg z, if_neg n1, if_neg n1, if_neg n2]
      refine ⟨u1, u2, u3, ?_, ?_⟩
      · intro h
        rw [u4 h]
        by_cases z0 : q = 0
        · rw [if_pos z0, upN_n _ _ _ z]
        · rw [if_neg z0]
      · intro q' k hq' hk
        rw [if_neg (fun h => z h.1), h94' _ (by omega)]
        exact u5 q' k hq' hk
theorem rf_bk (hR : RfR P σ Y) {p w h : Nat} (hp : p ≤ 3) (hw : w ≤ 5) : bk (σ 89) p w h = bk (lc Y) p w h := bk_congr hw (fun t h1 h2 => hR.1 t (by omega))
theorem rf_frn (hR : RfR P σ Y) {w i : Nat} (hi : i < 480) (hc : i % 5 + w ≤ 5) : frn (σ 89) w (24 - i % 120 / 5) i = frn (lc Y) w (24 - i % 120 / 5) i := frn_congr (by omega) _ _ (fun t h1 h2 => hR.1 t (by omega))
theorem s6_goesOn (hR : RfR P σ Y) (N p : Nat) (hN : 500 ≤ N) (hp : p ≤ 3) : f6_goesOn N (nI p) σ = some (om (goA (lc Y) (p + 1)) (-nI 1) (fun i => nI (i / 120)), σ) := by
  have main := lps (goF (lc Y) 1 3) (fun _ _ => none) (f6_goesOn_B4 N (nI p) (fun σL4 => some (-nI 1, σL4))) (fun t j => t (nI j) σ) 4 (fun a => some (nI (a / 120), σ)) (some (-nI 1, σ)) (by
    intro r
    show f6_goesOn_B4 _ _ _ _ _ _ = _
    unfold f6_goesOn_B4
    simp (disch := omega) only [q_lit, q_gt, q_bd, q_bxl, q_bxr, q_vib, q_cl, q_pos, q_lt, q_le, q_eq, q_neg, q_neg1, q_negz, q_negeq0, q_neg0le, q_rem, q_div, q_sub, q_if1, q_if0, q_okB0, q_okB1, q_dz, q_dn, q_nb, and_true, true_and, and_false, false_and, nI_add, pk_mul, if_true, if_false, ite_true, ite_false, Nat.add_zero, Nat.zero_add, Nat.reduceAdd]) (by
    intro r j hj
    show f6_goesOn_B4 _ _ _ _ _ _ = _
    unfold f6_goesOn_B4
    simp (disch := omega) only [q_lit, q_gt, q_bd, q_bxl, q_bxr, q_vib, q_cl, q_pos, q_lt, q_le, q_eq, q_neg, q_neg1, q_negz, q_negeq0, q_neg0le, q_rem, q_div, q_sub, q_if1, q_if0, q_okB0, q_okB1, q_dz, q_dn, q_nb, and_true, true_and, and_false, false_and, nI_add, pk_mul, if_true, if_false, ite_true, ite_false, Nat.add_zero, Nat.zero_add, Nat.reduceAdd, s6_block N j 1 3 σ hN (by omega) (by omega) (by omega) (by omega) (by omega)]
    unfold goF
    rw [rf_bk hR (by omega) (by omega)]
    cases e : bk (lc Y) j 1 3 with
    | none =>
      simp (disch := omega) only [q_lit, q_gt, q_bd, q_bxl, q_bxr, q_vib, q_cl, q_pos, q_lt, q_le, q_eq, q_neg, q_neg1, q_negz, q_negeq0, q_neg0le, q_rem, q_div, q_sub, q_if1, q_if0, q_okB0, q_okB1, q_dz, q_dn, q_nb, and_true, true_and, and_false, false_and, nI_add, pk_mul, if_true, if_false, ite_true, ite_false, Nat.add_zero, Nat.zero_add, Nat.reduceAdd, om]
    | some a =>
      have q := bk_some e (by omega) (by omega) (by omega) (by omega)
      simp (disch := omega) only [q_lit, q_gt, q_bd, q_bxl, q_bxr, q_vib, q_cl, q_pos, q_lt, q_le, q_eq, q_neg, q_neg1, q_negz, q_negeq0, q_neg0le, q_rem, q_div, q_sub, q_if1, q_if0, q_okB0, q_okB1, q_dz, q_dn, q_nb, and_true, true_and, and_false, false_and, nI_add, pk_mul, if_true, if_false, ite_true, ite_false, Nat.add_zero, Nat.zero_add, Nat.reduceAdd, om]
      rw [show (120 * j + a) / 120 = j by omega]) (p + 1) N (by omega) (by omega)
  unfold f6_goesOn
  simp (disch := omega) only [q_lit, q_gt, q_bd, q_bxl, q_bxr, q_vib, q_cl, q_pos, q_lt, q_le, q_eq, q_neg, q_neg1, q_negz, q_negeq0, q_neg0le, q_rem, q_div, q_sub, q_if1, q_if0, q_okB0, q_okB1, q_dz, q_dn, q_nb, and_true, true_and, and_false, false_and, nI_add, pk_mul, if_true, if_false, ite_true, ite_false, Nat.add_zero, Nat.zero_add, Nat.reduceAdd]
  refine Eq.trans main ?_
  unfold goA
  cases fsN (goF (lc Y) 1 3) (4 - (p + 1)) (p + 1)
  · rfl
  · rfl
end L5
