/-! THE PURE PART. Sums over stories and advertisements. -/
def sumF (F : Nat → Nat) : Nat → Nat
  | 0 => 0
  | n + 1 => sumF F n + F n
theorem sumF_congr {F G : Nat → Nat} : ∀ {n : Nat}, (∀ a, a < n → F a = G a) → sumF F n = sumF G n
  | 0, _ => rfl
  | n + 1, h => by
    unfold sumF
    rw [sumF_congr (n := n) (fun a ha => h a (by omega)), h n (by omega)]
def pick (p : Nat → Bool) (F : Nat → Nat) (a : Nat) : Nat := if p a then F a else 0
theorem pick_d (p : Nat → Bool) (F : Nat → Nat) (a : Nat) : pick p F a = if p a = true then F a else 0 := rfl
theorem sumF_add {p : Nat → Bool} {F : Nat → Nat} {b : Nat} (hb : p b = false) : ∀ {n : Nat}, b < n → sumF (pick (fun a => p a || decide (a = b)) F) n = sumF (pick p F) n + F b
  | 0, h => absurd h (Nat.not_lt_zero b)
  | n + 1, h => by
    have ne : ∀ a, a ≠ b → pick (fun a => p a || decide (a = b)) F a = pick p F a := fun a ha => by
      show (if (p a || decide (a = b)) = true then F a else 0) = if p a = true then F a else 0
      rw [show decide (a = b) = false from decide_eq_false ha, Bool.or_false]
    unfold sumF
    by_cases z : b = n
    · subst z
      rw [sumF_congr (G := pick p F) (fun a ha => ne a (by omega))]
      have e1 : pick (fun a => p a || decide (a = b)) F b = F b := by
        show (if (p b || decide (b = b)) = true then F b else 0) = F b
        rw [show decide (b = b) = true from decide_eq_true rfl, Bool.or_true, if_pos rfl]
      have e2 : pick p F b = 0 := by
        rw [pick_d, hb]
        rfl
      rw [e1, e2]
      rfl
    · rw [sumF_add hb (n := n) (by omega), ne n (by omega)]
      omega
theorem ord_sumk {D : Nat → Nat} {o : Nat → Nat} {n : Nat} (h : OrdI D 12 o n) (F : Nat → Nat) : ∀ k, k ≤ n → sumF (pick (memB o k) F) 12 = sumF (fun j => F (o j)) k
  | 0, _ => rfl
  | k + 1, hk => by
    have h1 : memB o k (o k) = false := by
      apply Bool.eq_false_iff.mpr
      intro q
      obtain ⟨j, j1, j2⟩ := (memB_iff o k (o k)).mp q
      have := h.2.1 j k j1 (by omega)
      rw [j2] at this
      omega
    have h2 := sumF_add (p := memB o k) (F := F) (b := o k) h1 (n := 12) (h.1 k (by omega)).1
    rw [ord_sumk h F k (by omega)] at h2
    exact h2
/-- over the order as over the stories -/
theorem ord_sum (D : Nat → Nat) (F : Nat → Nat) : sumF (fun j => F (ordN D j)) (nS D) = sumF (pick (fun s => decide (dS D s 0 = 1)) F) 12 := by
  have h := ordN_I D
  rw [← ord_sumk h F (nS D) (Nat.le_refl _)]
  refine sumF_congr (fun a ha => ?_)
  unfold pick
  rw [show memB (ordN D) (nS D) a = decide (dS D a 0 = 1) from by
    apply Bool.eq_iff_iff.mpr
    rw [memB_iff, decide_eq_true_iff]
    constructor
    · rintro ⟨j, j1, j2⟩
      rw [← j2]
      exact (h.1 j j1).2
    · intro h0
      exact h.2.2 a ha h0]
theorem cntB_split (p : Nat → Bool) (a : Nat) : ∀ b, cntB p (a + b) = cntB p a + cntB (fun t => p (a + t)) b
  | 0 => rfl
  | b + 1 => by
    show cntB p (a + b) + (if p (a + b) then 1 else 0) = cntB p a + (cntB (fun t => p (a + t)) b + if p (a + b) then 1 else 0)
    rw [cntB_split p a b]
    omega
theorem cntB_not (p : Nat → Bool) : ∀ n, cntB p n + cntB (fun t => !p t) n = n
  | 0 => rfl
  | n + 1 => by
    have := cntB_not p n
    show cntB p n + (if p n then 1 else 0) + (cntB (fun t => !p t) n + if !p n then 1 else 0) = n + 1
    cases p n
    · simp
      omega
    · simp
      omega
/-! what is counted -/
def jmN (Y : Ly) (s : Nat) : Nat := sumF (fun i => lp Y s i 7) (ln Y s)
def prA (D : Nat → Nat) (a : Nat) : Nat := dA D a 4 * dA D a 5 * dA D a 6
def clA (D : Nat → Nat) (a : Nat) : Nat := dA D a 4 * dA D a 5
def clS (Y : Ly) (s : Nat) : Nat := sumF (fun i => lp Y s i 3 * lp Y s i 4) (ln Y s)
def isB (D : Nat → Nat) (s : Nat) : Bool := decide (dS D s 0 = 1)
def isBA (D : Nat → Nat) (a : Nat) : Bool := decide (dA D a 0 = 1)
def valN (D : Nat → Nat) (Y : Ly) (w s : Nat) : Nat := if w = 2 then (if ftN D Y s = 3 then 1 else 0) else if w = 3 then (if ftN D Y s = 2 then 1 else 0) else if w = 4 then jmN Y s else if w = 5 then ll Y s else if w = 6 then dS D s 4 - ll Y s else 0
section SU
variable {σ : Hp} {D : Nat → Nat} {Y : Ly}
theorem pick_1 {p : Nat → Bool} {F : Nat → Nat} {a : Nat} (h : p a = true) : pick p F a = F a := if_pos h
theorem pick_0 {p : Nat → Bool} {F : Nat → Nat} {a : Nat} (h : p a = false) : pick p F a = 0 := if_neg (by rw [h]; decide)
theorem isB_1 {s : Nat} (h : dS D s 0 = 1) : isB D s = true := decide_eq_true h
theorem isB_0 {s : Nat} (h : dS D s 0 = 0) : isB D s = false := decide_eq_false (by omega)
theorem isBA_1 {s : Nat} (h : dA D s 0 = 1) : isBA D s = true := decide_eq_true h
theorem isBA_0 {s : Nat} (h : dA D s 0 = 0) : isBA D s = false := decide_eq_false (by omega)
/-- whether a story that is left out or not is bumped -/
theorem s3_isBumped (hP : PgW 56 σ Y) (hE : EdR σ 1 D) (hD : DOk D) (N : Nat) {s : Nat} (hs : s < 12) (hG : GoodS D Y s) : f3_isBumped N 56 (nI s) σ = some (nI (if ftN D Y s = 2 then 1 else 0), σ) := by
  have l1 := (hD.2.2.1 s hs).2.1
  unfold f3_isBumped
  rw [s3_isLeftOut hP N hs, q_bd, s3_ownPage hP (show EdR σ (edOf 56) D from hE) N hs]
  by_cases z : ln Y s = 0
  · have e : ftN D Y s = 3 := if_pos z
    rw [if_pos z, e]
    rfl
  · have p0 := (hG.2.2.2.2 0 (by omega)).1
    have e : stP Y s = nI (lp Y s 0 0) := if_neg z
    rw [if_neg z, if_pos (show nI 0 = 0 from rfl), q_bd, e]
    by_cases z2 : lp Y s 0 0 = dS D s 1
    · have e2 : ftN D Y s ≠ 2 := by
        unfold ftN
        rw [if_neg z, if_pos z2]
        split
        · decide
        · decide
      rw [if_pos (show nI (lp Y s 0 0) = nI (dS D s 1) by rw [z2]), if_neg e2]
      rfl
    · have e2 : ftN D Y s = 2 := by
        unfold ftN
        rw [if_neg z, if_neg z2]
      rw [if_neg (show ¬ nI (lp Y s 0 0) = nI (dS D s 1) from fun q => z2 (by rw [nI_eq (by omega) (by omega)] at q; exact q)), e2]
      rfl
theorem s3_leftOutN (hP : PgW 56 σ Y) (N : Nat) {s : Nat} (hs : s < 12) : f3_isLeftOut N 56 (nI s) σ = some (nI (if ftN D Y s = 3 then 1 else 0), σ) := by
  rw [s3_isLeftOut hP N hs]
  unfold ftN
  by_cases z : ln Y s = 0
  · rw [if_pos z, if_pos z]
    rfl
  · rw [if_neg z, if_neg z]
    by_cases z2 : lp Y s 0 0 = dS D s 1
    · rw [if_pos z2]
      split
      · rfl
      · rfl
    · rw [if_neg z2]
      rfl
theorem s3_leftOutCount (hP : PgW 56 σ Y) (hE : EdR σ 1 D) (hD : DOk D) (hG : ∀ s, s < 12 → GoodS D Y s) (N : Nat) (hN : 500 ≤ N) : f3_leftOutCount N 56 σ = some (nI (sumF (pick (isB D) (valN D Y 2)) 12), σ) := by
  have main := lpc (fun _ _ _ => none) (f3_leftOutCount_B4 N 56 (fun x1_4 σL4 => some (x1_4, σL4))) (fun t j => t (nI (sumF (pick (isB D) (valN D Y 2)) j)) (nI j) σ) (some (nI (sumF (pick (isB D) (valN D Y 2)) 12), σ)) 12 (by
    intro r
    show f3_leftOutCount_B4 _ _ _ _ _ _ _ = _
    unfold f3_leftOutCount_B4
    simp (disch := omega) only [q_lit, q_gt, q_bd, q_bxl, q_bxr, q_vib, q_cl, q_pos, q_lt, q_le, q_eq, q_neg, q_neg1, q_negz, q_negeq0, q_neg0le, q_rem, q_div, q_sub, q_if1, q_if0, q_okB0, q_okB1, q_dz, q_dn, q_nb, and_true, true_and, and_false, false_and, nI_add, pk_mul, if_true, if_false, ite_true, ite_false, Nat.add_zero, Nat.zero_add, Nat.reduceAdd]) (by
    intro r s hs
    have hgs := hG s hs
    have lle := hgs.2.2.1
    show f3_leftOutCount_B4 _ _ _ _ _ _ _ = r (nI (sumF (pick (isB D) (valN D Y 2)) s + pick (isB D) (valN D Y 2) s)) (nI (s + 1)) σ
    unfold f3_leftOutCount_B4 f3_leftOutCount_J32
    simp (disch := omega) only [q_lit, q_gt, q_bd, q_bxl, q_bxr, q_vib, q_cl, q_pos, q_lt, q_le, q_eq, q_neg, q_neg1, q_negz, q_negeq0, q_neg0le, q_rem, q_div, q_sub, q_if1, q_if0, q_okB0, q_okB1, q_dz, q_dn, q_nb, and_true, true_and, and_false, false_and, nI_add, pk_mul, if_true, if_false, ite_true, ite_false, Nat.add_zero, Nat.zero_add, Nat.reduceAdd, s1_hasStory (show EdR σ (edOf 56) D from hE) hD]
    rcases bit_cases (hD.2.2.1 s hs).1 with e | e
    · rw [e, pick_0 (isB_0 e)]
      simp (disch := omega) only [q_lit, q_gt, q_bd, q_bxl, q_bxr, q_vib, q_cl, q_pos, q_lt, q_le, q_eq, q_neg, q_neg1, q_negz, q_negeq0, q_neg0le, q_rem, q_div, q_sub, q_if1, q_if0, q_okB0, q_okB1, q_dz, q_dn, q_nb, and_true, true_and, and_false, false_and, nI_add, pk_mul, if_true, if_false, ite_true, ite_false, Nat.add_zero, Nat.zero_add, Nat.reduceAdd]
    · rw [e, pick_1 (isB_1 e)]
      unfold valN
      simp (disch := omega) only [q_lit, q_gt, q_bd, q_bxl, q_bxr, q_vib, q_cl, q_pos, q_lt, q_le, q_eq, q_neg, q_neg1, q_negz, q_negeq0, q_neg0le, q_rem, q_div, q_sub, q_if1, q_if0, q_okB0, q_okB1, q_dz, q_dn, q_nb, and_true, true_and, and_false, false_and, nI_add, pk_mul, if_true, if_false, ite_true, ite_false, Nat.add_zero, Nat.zero_add, Nat.reduceAdd, s3_leftOutN (D := D) hP]
      by_cases z : ftN D Y s = 3
      · rw [if_pos z]
        simp (disch := omega) only [q_lit, q_gt, q_bd, q_bxl, q_bxr, q_vib, q_cl, q_pos, q_lt, q_le, q_eq, q_neg, q_neg1, q_negz, q_negeq0, q_neg0le, q_rem, q_div, q_sub, q_if1, q_if0, q_okB0, q_okB1, q_dz, q_dn, q_nb, and_true, true_and, and_false, false_and, nI_add, pk_mul, if_true, if_false, ite_true, ite_false, Nat.add_zero, Nat.zero_add, Nat.reduceAdd]
      · rw [if_neg z]
        simp (disch := omega) only [q_lit, q_gt, q_bd, q_bxl, q_bxr, q_vib, q_cl, q_pos, q_lt, q_le, q_eq, q_neg, q_neg1, q_negz, q_negeq0, q_neg0le, q_rem, q_div, q_sub, q_if1, q_if0, q_okB0, q_okB1, q_dz, q_dn, q_nb, and_true, true_and, and_false, false_and, nI_add, pk_mul, if_true, if_false, ite_true, ite_false, Nat.add_zero, Nat.zero_add, Nat.reduceAdd]) (i := 0) (n := N) (by omega) (by omega)
  exact main
theorem s3_bumpedCount (hP : PgW 56 σ Y) (hE : EdR σ 1 D) (hD : DOk D) (hG : ∀ s, s < 12 → GoodS D Y s) (N : Nat) (hN : 500 ≤ N) : f3_bumpedCount N 56 σ = some (nI (sumF (pick (isB D) (valN D Y 3)) 12), σ) := by
  have main := lpc (fun _ _ _ => none) (f3_bumpedCount_B4 N 56 (fun x1_4 σL4 => some (x1_4, σL4))) (fun t j => t (nI (sumF (pick (isB D) (valN D Y 3)) j)) (nI j) σ) (some (nI (sumF (pick (isB D) (valN D Y 3)) 12), σ)) 12 (by
    intro r
    show f3_bumpedCount_B4 _ _ _ _ _ _ _ = _
    unfold f3_bumpedCount_B4
    simp (disch := omega) only [q_lit, q_gt, q_bd, q_bxl, q_bxr, q_vib, q_cl, q_pos, q_lt, q_le, q_eq, q_neg, q_neg1, q_negz, q_negeq0, q_neg0le, q_rem, q_div, q_sub, q_if1, q_if0, q_okB0, q_okB1, q_dz, q_dn, q_nb, and_true, true_and, and_false, false_and, nI_add, pk_mul, if_true, if_false, ite_true, ite_false, Nat.add_zero, Nat.zero_add, Nat.reduceAdd]) (by
    intro r s hs
    have hgs := hG s hs
    have lle := hgs.2.2.1
    show f3_bumpedCount_B4 _ _ _ _ _ _ _ = r (nI (sumF (pick (isB D) (valN D Y 3)) s + pick (isB D) (valN D Y 3) s)) (nI (s + 1)) σ
    unfold f3_bumpedCount_B4 f3_bumpedCount_J32
    simp (disch := omega) only [q_lit, q_gt, q_bd, q_bxl, q_bxr, q_vib, q_cl, q_pos, q_lt, q_le, q_eq, q_neg, q_neg1, q_negz, q_negeq0, q_neg0le, q_rem, q_div, q_sub, q_if1, q_if0, q_okB0, q_okB1, q_dz, q_dn, q_nb, and_true, true_and, and_false, false_and, nI_add, pk_mul, if_true, if_false, ite_true, ite_false, Nat.add_zero, Nat.zero_add, Nat.reduceAdd, s1_hasStory (show EdR σ (edOf 56) D from hE) hD]
    rcases bit_cases (hD.2.2.1 s hs).1 with e | e
    · rw [e, pick_0 (isB_0 e)]
      simp (disch := omega) only [q_lit, q_gt, q_bd, q_bxl, q_bxr, q_vib, q_cl, q_pos, q_lt, q_le, q_eq, q_neg, q_neg1, q_negz, q_negeq0, q_neg0le, q_rem, q_div, q_sub, q_if1, q_if0, q_okB0, q_okB1, q_dz, q_dn, q_nb, and_true, true_and, and_false, false_and, nI_add, pk_mul, if_true, if_false, ite_true, ite_false, Nat.add_zero, Nat.zero_add, Nat.reduceAdd]
    · rw [e, pick_1 (isB_1 e)]
      unfold valN
      simp (disch := omega) only [q_lit, q_gt, q_bd, q_bxl, q_bxr, q_vib, q_cl, q_pos, q_lt, q_le, q_eq, q_neg, q_neg1, q_negz, q_negeq0, q_neg0le, q_rem, q_div, q_sub, q_if1, q_if0, q_okB0, q_okB1, q_dz, q_dn, q_nb, and_true, true_and, and_false, false_and, nI_add, pk_mul, if_true, if_false, ite_true, ite_false, Nat.add_zero, Nat.zero_add, Nat.reduceAdd, s3_isBumped hP hE hD N hs hgs]
      by_cases z : ftN D Y s = 2
      · rw [if_pos z]
        simp (disch := omega) only [q_lit, q_gt, q_bd, q_bxl, q_bxr, q_vib, q_cl, q_pos, q_lt, q_le, q_eq, q_neg, q_neg1, q_negz, q_negeq0, q_neg0le, q_rem, q_div, q_sub, q_if1, q_if0, q_okB0, q_okB1, q_dz, q_dn, q_nb, and_true, true_and, and_false, false_and, nI_add, pk_mul, if_true, if_false, ite_true, ite_false, Nat.add_zero, Nat.zero_add, Nat.reduceAdd]
      · rw [if_neg z]
        simp (disch := omega) only [q_lit, q_gt, q_bd, q_bxl, q_bxr, q_vib, q_cl, q_pos, q_lt, q_le, q_eq, q_neg, q_neg1, q_negz, q_negeq0, q_neg0le, q_rem, q_div, q_sub, q_if1, q_if0, q_okB0, q_okB1, q_dz, q_dn, q_nb, and_true, true_and, and_false, false_and, nI_add, pk_mul, if_true, if_false, ite_true, ite_false, Nat.add_zero, Nat.zero_add, Nat.reduceAdd]) (i := 0) (n := N) (by omega) (by omega)
  exact main
theorem s3_allLinesOnPages (hP : PgW 56 σ Y) (hE : EdR σ 1 D) (hD : DOk D) (hG : ∀ s, s < 12 → GoodS D Y s) (N : Nat) (hN : 500 ≤ N) : f3_allLinesOnPages N 56 σ = some (nI (sumF (pick (isB D) (valN D Y 5)) 12), σ) := by
  have main := lpc (fun _ _ _ => none) (f3_allLinesOnPages_B4 N 56 (fun x1_4 σL4 => some (x1_4, σL4))) (fun t j => t (nI (sumF (pick (isB D) (valN D Y 5)) j)) (nI j) σ) (some (nI (sumF (pick (isB D) (valN D Y 5)) 12), σ)) 12 (by
    intro r
    show f3_allLinesOnPages_B4 _ _ _ _ _ _ _ = _
    unfold f3_allLinesOnPages_B4
    simp (disch := omega) only [q_lit, q_gt, q_bd, q_bxl, q_bxr, q_vib, q_cl, q_pos, q_lt, q_le, q_eq, q_neg, q_neg1, q_negz, q_negeq0, q_neg0le, q_rem, q_div, q_sub, q_if1, q_if0, q_okB0, q_okB1, q_dz, q_dn, q_nb, and_true, true_and, and_false, false_and, nI_add, pk_mul, if_true, if_false, ite_true, ite_false, Nat.add_zero, Nat.zero_add, Nat.reduceAdd]) (by
    intro r s hs
    have hgs := hG s hs
    have lle := hgs.2.2.1
    show f3_allLinesOnPages_B4 _ _ _ _ _ _ _ = r (nI (sumF (pick (isB D) (valN D Y 5)) s + pick (isB D) (valN D Y 5) s)) (nI (s + 1)) σ
    unfold f3_allLinesOnPages_B4 f3_allLinesOnPages_J29
    simp (disch := omega) only [q_lit, q_gt, q_bd, q_bxl, q_bxr, q_vib, q_cl, q_pos, q_lt, q_le, q_eq, q_neg, q_neg1, q_negz, q_negeq0, q_neg0le, q_rem, q_div, q_sub, q_if1, q_if0, q_okB0, q_okB1, q_dz, q_dn, q_nb, and_true, true_and, and_false, false_and, nI_add, pk_mul, if_true, if_false, ite_true, ite_false, Nat.add_zero, Nat.zero_add, Nat.reduceAdd, s1_hasStory (show EdR σ (edOf 56) D from hE) hD]
    rcases bit_cases (hD.2.2.1 s hs).1 with e | e
    · rw [e, pick_0 (isB_0 e)]
      simp (disch := omega) only [q_lit, q_gt, q_bd, q_bxl, q_bxr, q_vib, q_cl, q_pos, q_lt, q_le, q_eq, q_neg, q_neg1, q_negz, q_negeq0, q_neg0le, q_rem, q_div, q_sub, q_if1, q_if0, q_okB0, q_okB1, q_dz, q_dn, q_nb, and_true, true_and, and_false, false_and, nI_add, pk_mul, if_true, if_false, ite_true, ite_false, Nat.add_zero, Nat.zero_add, Nat.reduceAdd]
    · rw [e, pick_1 (isB_1 e)]
      unfold valN
      simp (disch := omega) only [q_lit, q_gt, q_bd, q_bxl, q_bxr, q_vib, q_cl, q_pos, q_lt, q_le, q_eq, q_neg, q_neg1, q_negz, q_negeq0, q_neg0le, q_rem, q_div, q_sub, q_if1, q_if0, q_okB0, q_okB1, q_dz, q_dn, q_nb, and_true, true_and, and_false, false_and, nI_add, pk_mul, if_true, if_false, ite_true, ite_false, Nat.add_zero, Nat.zero_add, Nat.reduceAdd, s3_linesOnP hP]) (i := 0) (n := N) (by omega) (by omega)
  exact main
theorem s3_allLinesCut (hP : PgW 56 σ Y) (hE : EdR σ 1 D) (hD : DOk D) (hG : ∀ s, s < 12 → GoodS D Y s) (N : Nat) (hN : 500 ≤ N) : f3_allLinesCut N 56 σ = some (nI (sumF (pick (isB D) (valN D Y 6)) 12), σ) := by
  have main := lpc (fun _ _ _ => none) (f3_allLinesCut_B4 N 56 (fun x1_4 σL4 => some (x1_4, σL4))) (fun t j => t (nI (sumF (pick (isB D) (valN D Y 6)) j)) (nI j) σ) (some (nI (sumF (pick (isB D) (valN D Y 6)) 12), σ)) 12 (by
    intro r
    show f3_allLinesCut_B4 _ _ _ _ _ _ _ = _
    unfold f3_allLinesCut_B4
    simp (disch := omega) only [q_lit, q_gt, q_bd, q_bxl, q_bxr, q_vib, q_cl, q_pos, q_lt, q_le, q_eq, q_neg, q_neg1, q_negz, q_negeq0, q_neg0le, q_rem, q_div, q_sub, q_if1, q_if0, q_okB0, q_okB1, q_dz, q_dn, q_nb, and_true, true_and, and_false, false_and, nI_add, pk_mul, if_true, if_false, ite_true, ite_false, Nat.add_zero, Nat.zero_add, Nat.reduceAdd]) (by
    intro r s hs
    have hgs := hG s hs
    have lle := hgs.2.2.1
    show f3_allLinesCut_B4 _ _ _ _ _ _ _ = r (nI (sumF (pick (isB D) (valN D Y 6)) s + pick (isB D) (valN D Y 6) s)) (nI (s + 1)) σ
    unfold f3_allLinesCut_B4 f3_allLinesCut_J29
    simp (disch := omega) only [q_lit, q_gt, q_bd, q_bxl, q_bxr, q_vib, q_cl, q_pos, q_lt, q_le, q_eq, q_neg, q_neg1, q_negz, q_negeq0, q_neg0le, q_rem, q_div, q_sub, q_if1, q_if0, q_okB0, q_okB1, q_dz, q_dn, q_nb, and_true, true_and, and_false, false_and, nI_add, pk_mul, if_true, if_false, ite_true, ite_false, Nat.add_zero, Nat.zero_add, Nat.reduceAdd, s1_hasStory (show EdR σ (edOf 56) D from hE) hD]
    rcases bit_cases (hD.2.2.1 s hs).1 with e | e
    · rw [e, pick_0 (isB_0 e)]
      simp (disch := omega) only [q_lit, q_gt, q_bd, q_bxl, q_bxr, q_vib, q_cl, q_pos, q_lt, q_le, q_eq, q_neg, q_neg1, q_negz, q_negeq0, q_neg0le, q_rem, q_div, q_sub, q_if1, q_if0, q_okB0, q_okB1, q_dz, q_dn, q_nb, and_true, true_and, and_false, false_and, nI_add, pk_mul, if_true, if_false, ite_true, ite_false, Nat.add_zero, Nat.zero_add, Nat.reduceAdd]
    · rw [e, pick_1 (isB_1 e)]
      unfold valN
      simp (disch := omega) only [q_lit, q_gt, q_bd, q_bxl, q_bxr, q_vib, q_cl, q_pos, q_lt, q_le, q_eq, q_neg, q_neg1, q_negz, q_negeq0, q_neg0le, q_rem, q_div, q_sub, q_if1, q_if0, q_okB0, q_okB1, q_dz, q_dn, q_nb, and_true, true_and, and_false, false_and, nI_add, pk_mul, if_true, if_false, ite_true, ite_false, Nat.add_zero, Nat.zero_add, Nat.reduceAdd, s3_linesCutW hP (show EdR σ (edOf 56) D from hE) N s hs lle]) (i := 0) (n := N) (by omega) (by omega)
  exact main
theorem s3_jumpCount (hP : PgW 56 σ Y) (hnon : ∀ s, s < 12 → dS D s 0 ≠ 1 → ln Y s = 0) (N : Nat) (hN : 500 ≤ N) : f3_jumpCount N 56 σ = some (nI (sumF (pick (isB D) (valN D Y 4)) 12), σ) := by
  have main := lpc (fun _ _ _ => none) (f3_jumpCount_B4 N 56 (fun x1_4 σL4 => some (x1_4, σL4))) (fun t j => t (nI (sumF (pick (isB D) (valN D Y 4)) j)) (nI j) σ) (some (nI (sumF (pick (isB D) (valN D Y 4)) 12), σ)) 12 (by
    intro r
    show f3_jumpCount_B4 _ _ _ _ _ _ _ = _
    unfold f3_jumpCount_B4
    simp (disch := omega) only [q_lit, q_gt, q_bd, q_bxl, q_bxr, q_vib, q_cl, q_pos, q_lt, q_le, q_eq, q_neg, q_neg1, q_negz, q_negeq0, q_neg0le, q_rem, q_div, q_sub, q_if1, q_if0, q_okB0, q_okB1, q_dz, q_dn, q_nb, and_true, true_and, and_false, false_and, nI_add, pk_mul, if_true, if_false, ite_true, ite_false, Nat.add_zero, Nat.zero_add, Nat.reduceAdd]) (by
    intro r s hs
    have l4 := (hP.2.2.1 s hs).2.2.2
    show f3_jumpCount_B4 _ _ _ _ _ _ _ = r (nI (sumF (pick (isB D) (valN D Y 4)) s + pick (isB D) (valN D Y 4) s)) (nI (s + 1)) σ
    generalize sumF (pick (isB D) (valN D Y 4)) s = a
    unfold f3_jumpCount_B4
    simp (disch := omega) only [q_lit, q_gt, q_bd, q_bxl, q_bxr, q_vib, q_cl, q_pos, q_lt, q_le, q_eq, q_neg, q_neg1, q_negz, q_negeq0, q_neg0le, q_rem, q_div, q_sub, q_if1, q_if0, q_okB0, q_okB1, q_dz, q_dn, q_nb, and_true, true_and, and_false, false_and, nI_add, pk_mul, if_true, if_false, ite_true, ite_false, Nat.add_zero, Nat.zero_add, Nat.reduceAdd]
    have inn := lpc (fun _ _ _ => none) (f3_jumpCount_B12 N 56 (fun x1_4 σL4 => some (x1_4, σL4)) r (nI s) (fun x1_12 σL12 => r x1_12 (nI (s + 1)) σL12)) (fun t j => t (nI (a + sumF (fun i => lp Y s i 7) j)) (nI j) σ) (r (nI (a + pick (isB D) (valN D Y 4) s)) (nI (s + 1)) σ) (ln Y s) ?_ ?_ (i := 0) (n := N) (by omega) (by omega)
    · exact inn
    · intro t
      show f3_jumpCount_B12 _ _ _ _ _ _ _ _ _ _ = _
      unfold f3_jumpCount_B12
      simp (disch := omega) only [q_lit, q_gt, q_bd, q_bxl, q_bxr, q_vib, q_cl, q_pos, q_lt, q_le, q_eq, q_neg, q_neg1, q_negz, q_negeq0, q_neg0le, q_rem, q_div, q_sub, q_if1, q_if0, q_okB0, q_okB1, q_dz, q_dn, q_nb, and_true, true_and, and_false, false_and, nI_add, pk_mul, if_true, if_false, ite_true, ite_false, Nat.add_zero, Nat.zero_add, Nat.reduceAdd, s3_partCount hP]
      by_cases z : dS D s 0 = 1
      · rw [pick_1 (isB_1 z)]
        rfl
      · rw [hnon s hs z, pick_0 (show isB D s = false from decide_eq_false z)]
        rfl
    · intro t j hj
      show f3_jumpCount_B12 _ _ _ _ _ _ _ _ _ _ = t (nI (a + (sumF (fun i => lp Y s i 7) j + lp Y s j 7))) (nI (j + 1)) σ
      rw [← Nat.add_assoc]
      unfold f3_jumpCount_B12
      simp (disch := omega) only [q_lit, q_gt, q_bd, q_bxl, q_bxr, q_vib, q_cl, q_pos, q_lt, q_le, q_eq, q_neg, q_neg1, q_negz, q_negeq0, q_neg0le, q_rem, q_div, q_sub, q_if1, q_if0, q_okB0, q_okB1, q_dz, q_dn, q_nb, and_true, true_and, and_false, false_and, nI_add, pk_mul, if_true, if_false, ite_true, ite_false, Nat.add_zero, Nat.zero_add, Nat.reduceAdd, s3_partCount hP, s3_partNoY hP]) (i := 0) (n := N) (by omega) (by omega)
  exact main
theorem s3_cellsOfParts (hP : PgW 56 σ Y) (hnon : ∀ s, s < 12 → dS D s 0 ≠ 1 → ln Y s = 0) (N : Nat) (hN : 500 ≤ N) : f3_cellsOfParts N 56 σ = some (nI (sumF (pick (isB D) (clS Y)) 12), σ) := by
  have main := lpc (fun _ _ _ => none) (f3_cellsOfParts_B4 N 56 (fun x1_4 σL4 => some (x1_4, σL4))) (fun t j => t (nI (sumF (pick (isB D) (clS Y)) j)) (nI j) σ) (some (nI (sumF (pick (isB D) (clS Y)) 12), σ)) 12 (by
    intro r
    show f3_cellsOfParts_B4 _ _ _ _ _ _ _ = _
    unfold f3_cellsOfParts_B4
    simp (disch := omega) only [q_lit, q_gt, q_bd, q_bxl, q_bxr, q_vib, q_cl, q_pos, q_lt, q_le, q_eq, q_neg, q_neg1, q_negz, q_negeq0, q_neg0le, q_rem, q_div, q_sub, q_if1, q_if0, q_okB0, q_okB1, q_dz, q_dn, q_nb, and_true, true_and, and_false, false_and, nI_add, pk_mul, if_true, if_false, ite_true, ite_false, Nat.add_zero, Nat.zero_add, Nat.reduceAdd]) (by
    intro r s hs
    have l4 := (hP.2.2.1 s hs).2.2.2
    show f3_cellsOfParts_B4 _ _ _ _ _ _ _ = r (nI (sumF (pick (isB D) (clS Y)) s + pick (isB D) (clS Y) s)) (nI (s + 1)) σ
    generalize sumF (pick (isB D) (clS Y)) s = a
    unfold f3_cellsOfParts_B4
    simp (disch := omega) only [q_lit, q_gt, q_bd, q_bxl, q_bxr, q_vib, q_cl, q_pos, q_lt, q_le, q_eq, q_neg, q_neg1, q_negz, q_negeq0, q_neg0le, q_rem, q_div, q_sub, q_if1, q_if0, q_okB0, q_okB1, q_dz, q_dn, q_nb, and_true, true_and, and_false, false_and, nI_add, pk_mul, if_true, if_false, ite_true, ite_false, Nat.add_zero, Nat.zero_add, Nat.reduceAdd]
    have inn := lpc (fun _ _ _ => none) (f3_cellsOfParts_B12 N 56 (fun x1_4 σL4 => some (x1_4, σL4)) r (nI s) (fun x1_12 σL12 => r x1_12 (nI (s + 1)) σL12)) (fun t j => t (nI (a + sumF (fun i => lp Y s i 3 * lp Y s i 4) j)) (nI j) σ) (r (nI (a + pick (isB D) (clS Y) s)) (nI (s + 1)) σ) (ln Y s) ?_ ?_ (i := 0) (n := N) (by omega) (by omega)
    · exact inn
    · intro t
      show f3_cellsOfParts_B12 _ _ _ _ _ _ _ _ _ _ = _
      unfold f3_cellsOfParts_B12
      simp (disch := omega) only [q_lit, q_gt, q_bd, q_bxl, q_bxr, q_vib, q_cl, q_pos, q_lt, q_le, q_eq, q_neg, q_neg1, q_negz, q_negeq0, q_neg0le, q_rem, q_div, q_sub, q_if1, q_if0, q_okB0, q_okB1, q_dz, q_dn, q_nb, and_true, true_and, and_false, false_and, nI_add, pk_mul, if_true, if_false, ite_true, ite_false, Nat.add_zero, Nat.zero_add, Nat.reduceAdd, s3_partCount hP]
      by_cases z : dS D s 0 = 1
      · rw [pick_1 (isB_1 z)]
        rfl
      · rw [hnon s hs z, pick_0 (show isB D s = false from decide_eq_false z)]
        rfl
    · intro t j hj
      show f3_cellsOfParts_B12 _ _ _ _ _ _ _ _ _ _ = t (nI (a + (sumF (fun i => lp Y s i 3 * lp Y s i 4) j + lp Y s j 3 * lp Y s j 4))) (nI (j + 1)) σ
      rw [← Nat.add_assoc]
      unfold f3_cellsOfParts_B12
      simp (disch := omega) only [q_lit, q_gt, q_bd, q_bxl, q_bxr, q_vib, q_cl, q_pos, q_lt, q_le, q_eq, q_neg, q_neg1, q_negz, q_negeq0, q_neg0le, q_rem, q_div, q_sub, q_if1, q_if0, q_okB0, q_okB1, q_dz, q_dn, q_nb, and_true, true_and, and_false, false_and, nI_add, pk_mul, if_true, if_false, ite_true, ite_false, Nat.add_zero, Nat.zero_add, Nat.reduceAdd, s3_partCount hP, s3_partNoY hP]) (i := 0) (n := N) (by omega) (by omega)
  exact main
theorem s1_allPrices (hE : EdR σ 1 D) (hD : DOk D) (N : Nat) (hN : 500 ≤ N) : f1_allPrices N 1 σ = some (nI (sumF (pick (isBA D) (prA D)) 8), σ) := by
  have main := lpc (fun _ _ _ => none) (f1_allPrices_B4 N 1 (fun x2_4 σL4 => some (x2_4, σL4))) (fun t j => t (nI (sumF (pick (isBA D) (prA D)) j)) (nI j) σ) (some (nI (sumF (pick (isBA D) (prA D)) 8), σ)) 8 (by
    intro r
    show f1_allPrices_B4 _ _ _ _ _ _ _ = _
    unfold f1_allPrices_B4
    simp (disch := omega) only [q_lit, q_gt, q_bd, q_bxl, q_bxr, q_vib, q_cl, q_pos, q_lt, q_le, q_eq, q_neg, q_neg1, q_negz, q_negeq0, q_neg0le, q_rem, q_div, q_sub, q_if1, q_if0, q_okB0, q_okB1, q_dz, q_dn, q_nb, and_true, true_and, and_false, false_and, nI_add, pk_mul, if_true, if_false, ite_true, ite_false, Nat.add_zero, Nat.zero_add, Nat.reduceAdd]) (by
    intro r j hj
    show f1_allPrices_B4 _ _ _ _ _ _ _ = r (nI (sumF (pick (isBA D) (prA D)) j + pick (isBA D) (prA D) j)) (nI (j + 1)) σ
    unfold f1_allPrices_B4 f1_allPrices_J27 f1_priceOfCells f1_cellsOf
    simp (disch := omega) only [q_lit, q_gt, q_bd, q_bxl, q_bxr, q_vib, q_cl, q_pos, q_lt, q_le, q_eq, q_neg, q_neg1, q_negz, q_negeq0, q_neg0le, q_rem, q_div, q_sub, q_if1, q_if0, q_okB0, q_okB1, q_dz, q_dn, q_nb, and_true, true_and, and_false, false_and, nI_add, pk_mul, if_true, if_false, ite_true, ite_false, Nat.add_zero, Nat.zero_add, Nat.reduceAdd, hE.2.2.2.2.1 j hj]
    rcases bit_cases (hD.2.2.2 j hj).1 with e | e
    · rw [e, pick_0 (isBA_0 e)]
      simp (disch := omega) only [q_lit, q_gt, q_bd, q_bxl, q_bxr, q_vib, q_cl, q_pos, q_lt, q_le, q_eq, q_neg, q_neg1, q_negz, q_negeq0, q_neg0le, q_rem, q_div, q_sub, q_if1, q_if0, q_okB0, q_okB1, q_dz, q_dn, q_nb, and_true, true_and, and_false, false_and, nI_add, pk_mul, if_true, if_false, ite_true, ite_false, Nat.add_zero, Nat.zero_add, Nat.reduceAdd]
    · rw [e, pick_1 (isBA_1 e)]
      unfold prA
      simp (disch := omega) only [q_lit, q_gt, q_bd, q_bxl, q_bxr, q_vib, q_cl, q_pos, q_lt, q_le, q_eq, q_neg, q_neg1, q_negz, q_negeq0, q_neg0le, q_rem, q_div, q_sub, q_if1, q_if0, q_okB0, q_okB1, q_dz, q_dn, q_nb, and_true, true_and, and_false, false_and, nI_add, pk_mul, if_true, if_false, ite_true, ite_false, Nat.add_zero, Nat.zero_add, Nat.reduceAdd, s1_an hE]) (i := 0) (n := N) (by omega) (by omega)
  exact main
theorem s1_cellsOfAds (hE : EdR σ 1 D) (hD : DOk D) (N : Nat) (hN : 500 ≤ N) : f1_cellsOfAdvertisements N 1 σ = some (nI (sumF (pick (isBA D) (clA D)) 8), σ) := by
  have main := lpc (fun _ _ _ => none) (f1_cellsOfAdvertisements_B4 N 1 (fun x2_4 σL4 => some (x2_4, σL4))) (fun t j => t (nI (sumF (pick (isBA D) (clA D)) j)) (nI j) σ) (some (nI (sumF (pick (isBA D) (clA D)) 8), σ)) 8 (by
    intro r
    show f1_cellsOfAdvertisements_B4 _ _ _ _ _ _ _ = _
    unfold f1_cellsOfAdvertisements_B4
    simp (disch := omega) only [q_lit, q_gt, q_bd, q_bxl, q_bxr, q_vib, q_cl, q_pos, q_lt, q_le, q_eq, q_neg, q_neg1, q_negz, q_negeq0, q_neg0le, q_rem, q_div, q_sub, q_if1, q_if0, q_okB0, q_okB1, q_dz, q_dn, q_nb, and_true, true_and, and_false, false_and, nI_add, pk_mul, if_true, if_false, ite_true, ite_false, Nat.add_zero, Nat.zero_add, Nat.reduceAdd]) (by
    intro r j hj
    show f1_cellsOfAdvertisements_B4 _ _ _ _ _ _ _ = r (nI (sumF (pick (isBA D) (clA D)) j + pick (isBA D) (clA D) j)) (nI (j + 1)) σ
    unfold f1_cellsOfAdvertisements_B4 f1_cellsOfAdvertisements_J27 f1_cellsOf
    simp (disch := omega) only [q_lit, q_gt, q_bd, q_bxl, q_bxr, q_vib, q_cl, q_pos, q_lt, q_le, q_eq, q_neg, q_neg1, q_negz, q_negeq0, q_neg0le, q_rem, q_div, q_sub, q_if1, q_if0, q_okB0, q_okB1, q_dz, q_dn, q_nb, and_true, true_and, and_false, false_and, nI_add, pk_mul, if_true, if_false, ite_true, ite_false, Nat.add_zero, Nat.zero_add, Nat.reduceAdd, hE.2.2.2.2.1 j hj]
    rcases bit_cases (hD.2.2.2 j hj).1 with e | e
    · rw [e, pick_0 (isBA_0 e)]
      simp (disch := omega) only [q_lit, q_gt, q_bd, q_bxl, q_bxr, q_vib, q_cl, q_pos, q_lt, q_le, q_eq, q_neg, q_neg1, q_negz, q_negeq0, q_neg0le, q_rem, q_div, q_sub, q_if1, q_if0, q_okB0, q_okB1, q_dz, q_dn, q_nb, and_true, true_and, and_false, false_and, nI_add, pk_mul, if_true, if_false, ite_true, ite_false, Nat.add_zero, Nat.zero_add, Nat.reduceAdd]
    · rw [e, pick_1 (isBA_1 e)]
      unfold clA
      simp (disch := omega) only [q_lit, q_gt, q_bd, q_bxl, q_bxr, q_vib, q_cl, q_pos, q_lt, q_le, q_eq, q_neg, q_neg1, q_negz, q_negeq0, q_neg0le, q_rem, q_div, q_sub, q_if1, q_if0, q_okB0, q_okB1, q_dz, q_dn, q_nb, and_true, true_and, and_false, false_and, nI_add, pk_mul, if_true, if_false, ite_true, ite_false, Nat.add_zero, Nat.zero_add, Nat.reduceAdd, s1_an hE]) (i := 0) (n := N) (by omega) (by omega)
  exact main
theorem s6_prices (hNw : NwR σ 85 D) (hD : DOk D) (N : Nat) (hN : 500 ≤ N) (K : Int32 → Hp → Option (Int32 × Hp)) : f6_count_L43 N (nI 7) K N 0 0 σ = K (nI (sumF (pick (isBA D) (prA D)) 8)) σ := by
  have main := lpc (fun _ _ _ => none) (f6_count_B43 N (nI 7) K) (fun t j => t (nI (sumF (pick (isBA D) (prA D)) j)) (nI j) σ) (K (nI (sumF (pick (isBA D) (prA D)) 8)) σ) 8 (by
    intro r
    show f6_count_B43 _ _ _ _ _ _ _ = _
    unfold f6_count_B43
    simp (disch := omega) only [q_lit, q_gt, q_bd, q_bxl, q_bxr, q_vib, q_cl, q_pos, q_lt, q_le, q_eq, q_neg, q_neg1, q_negz, q_negeq0, q_neg0le, q_rem, q_div, q_sub, q_if1, q_if0, q_okB0, q_okB1, q_dz, q_dn, q_nb, and_true, true_and, and_false, false_and, nI_add, pk_mul, if_true, if_false, ite_true, ite_false, Nat.add_zero, Nat.zero_add, Nat.reduceAdd]) (by
    intro r j hj
    show f6_count_B43 _ _ _ _ _ _ _ = r (nI (sumF (pick (isBA D) (prA D)) j + pick (isBA D) (prA D) j)) (nI (j + 1)) σ
    unfold f6_count_B43
    simp (disch := omega) only [q_lit, q_gt, q_bd, q_bxl, q_bxr, q_vib, q_cl, q_pos, q_lt, q_le, q_eq, q_neg, q_neg1, q_negz, q_negeq0, q_neg0le, q_rem, q_div, q_sub, q_if1, q_if0, q_okB0, q_okB1, q_dz, q_dn, q_nb, and_true, true_and, and_false, false_and, nI_add, pk_mul, if_true, if_false, ite_true, ite_false, Nat.add_zero, Nat.zero_add, Nat.reduceAdd, s6_ad hNw]
    rcases bit_cases (hD.2.2.2 j hj).1 with e | e
    · rw [e, pick_0 (isBA_0 e), Nat.zero_mul, Nat.zero_mul, Nat.zero_mul]
    · rw [e, pick_1 (isBA_1 e)]
      unfold prA
      rw [Nat.one_mul, Nat.mul_assoc, Nat.mul_comm]) (i := 0) (n := N) (by omega) (by omega)
  exact main
theorem s6_noPrices (N : Nat) (hN : 500 ≤ N) (w : Nat) (hw : w < 7) (K : Int32 → Hp → Option (Int32 × Hp)) : f6_count_L43 N (nI w) K N 0 0 σ = K (nI 0) σ := by
  obtain ⟨m, rfl⟩ : ∃ m, N = m + 1 := ⟨N - 1, by omega⟩
  show f6_count_B43 (m + 1) (nI w) K (it (fun _ _ _ => none) (f6_count_B43 (m + 1) (nI w) K) m) (nI 0) (nI 0) σ = _
  unfold f6_count_B43
  simp (disch := omega) only [q_lit, q_gt, q_bd, q_bxl, q_bxr, q_vib, q_cl, q_pos, q_lt, q_le, q_eq, q_neg, q_neg1, q_negz, q_negeq0, q_neg0le, q_rem, q_div, q_sub, q_if1, q_if0, q_okB0, q_okB1, q_dz, q_dn, q_nb, and_true, true_and, and_false, false_and, nI_add, pk_mul, if_true, if_false, ite_true, ite_false, Nat.add_zero, Nat.zero_add, Nat.reduceAdd]
theorem s6_count94 {τ : Hp} (hA : Asked τ D Y) (hD : DOk D) (hG : ∀ s, s < 12 → GoodS D Y s) (N : Nat) (hN : 500 ≤ N) (w a : Nat) (hw : w ≤ 7) (hw2 : 2 ≤ w) : f6_count_L94 N (nI w) (fun x2_94 σL94 => some (x2_94, σL94)) N (nI a) 0 τ = some (nI (a + sumF (fun k => valN D Y w (ordN D k)) (nS D)), τ) := by
  obtain ⟨t1, t2, t3, t4⟩ := hA
  have hle := nS_le D
  have main := lpc (fun _ _ _ => none) (f6_count_B94 N (nI w) (fun x2_94 σL94 => some (x2_94, σL94))) (fun t j => t (nI (a + sumF (fun k => valN D Y w (ordN D k)) j)) (nI j) τ) (some (nI (a + sumF (fun k => valN D Y w (ordN D k)) (nS D)), τ)) (nS D) (by
    intro r
    show f6_count_B94 _ _ _ _ _ _ _ = _
    unfold f6_count_B94
    simp (disch := omega) only [q_lit, q_gt, q_bd, q_bxl, q_bxr, q_vib, q_cl, q_pos, q_lt, q_le, q_eq, q_neg, q_neg1, q_negz, q_negeq0, q_neg0le, q_rem, q_div, q_sub, q_if1, q_if0, q_okB0, q_okB1, q_dz, q_dn, q_nb, and_true, true_and, and_false, false_and, nI_add, pk_mul, if_true, if_false, ite_true, ite_false, Nat.add_zero, Nat.zero_add, Nat.reduceAdd, t3]) (by
    intro r j hj
    obtain ⟨o1, o2⟩ := (ordN_I D).1 j hj
    have e91 := t4 j hj
    show f6_count_B94 _ _ _ _ _ _ _ = r (nI (a + (sumF (fun k => valN D Y w (ordN D k)) j + valN D Y w (ordN D j)))) (nI (j + 1)) τ
    rw [← Nat.add_assoc]
    generalize a + sumF (fun k => valN D Y w (ordN D k)) j = b
    generalize ordN D j = s at *
    obtain ⟨r1, r2, r3, r4, r5⟩ := t2.2.2 s o1 o2
    have fate := s6_fateOf t1 t2 N hN o1 o2 (hG s o1) (hD.2.2.1 s o1)
    have lin := s6_linesOn t2 N hN o1 o2 (hG s o1) (hD.2.2.1 s o1)
    have flt : ftN D Y s ≤ 3 := by
      unfold ftN
      repeat' split
      all_goals omega
    have lle := (hG s o1).2.2.1
    unfold f6_count_B94
    rw [t3, if_neg (show ¬ nI (nS D) ≤ nI j from nI_ge (a := j) (b := nS D) hj (by omega)), q_vib (show j < 12 by omega) (by omega), q_gt, q_cl (by omega), e91]
    refine lpc (fun _ _ _ => none) (f6_count_B116 N (nI w) (fun x2_94 σL94 => some (x2_94, σL94)) r (nI b) (nI j) (nI s) _) (fun t i => t (nI (sumF (fun i => lp Y s i 7) i)) (nI i) τ) (r (nI (b + valN D Y w s)) (nI (j + 1)) τ) (ln Y s) ?_ ?_ (i := 0) (n := N) (by omega) (by omega)
    · intro t
      show f6_count_B116 _ _ _ _ _ _ _ _ _ _ _ _ = _
      unfold f6_count_B116 f6_count_J252
      obtain rfl | rfl | rfl | rfl | rfl | rfl : w = 2 ∨ w = 3 ∨ w = 4 ∨ w = 5 ∨ w = 6 ∨ w = 7 := by omega
      · rw [show valN D Y 2 s = if ftN D Y s = 3 then 1 else 0 from rfl]
        by_cases z : ftN D Y s = 3
        · simp (disch := omega) only [q_lit, q_gt, q_bd, q_bxl, q_bxr, q_vib, q_cl, q_pos, q_lt, q_le, q_eq, q_neg, q_neg1, q_negz, q_negeq0, q_neg0le, q_rem, q_div, q_sub, q_if1, q_if0, q_okB0, q_okB1, q_dz, q_dn, q_nb, and_true, true_and, and_false, false_and, nI_add, pk_mul, if_true, if_false, ite_true, ite_false, Nat.add_zero, Nat.zero_add, Nat.reduceAdd, r1, fate, z]
        · simp (disch := omega) only [q_lit, q_gt, q_bd, q_bxl, q_bxr, q_vib, q_cl, q_pos, q_lt, q_le, q_eq, q_neg, q_neg1, q_negz, q_negeq0, q_neg0le, q_rem, q_div, q_sub, q_if1, q_if0, q_okB0, q_okB1, q_dz, q_dn, q_nb, and_true, true_and, and_false, false_and, nI_add, pk_mul, if_true, if_false, ite_true, ite_false, Nat.add_zero, Nat.zero_add, Nat.reduceAdd, r1, fate, z]
      · rw [show valN D Y 3 s = if ftN D Y s = 2 then 1 else 0 from rfl]
        by_cases z : ftN D Y s = 2
        · simp (disch := omega) only [q_lit, q_gt, q_bd, q_bxl, q_bxr, q_vib, q_cl, q_pos, q_lt, q_le, q_eq, q_neg, q_neg1, q_negz, q_negeq0, q_neg0le, q_rem, q_div, q_sub, q_if1, q_if0, q_okB0, q_okB1, q_dz, q_dn, q_nb, and_true, true_and, and_false, false_and, nI_add, pk_mul, if_true, if_false, ite_true, ite_false, Nat.add_zero, Nat.zero_add, Nat.reduceAdd, r1, fate, z]
        · simp (disch := omega) only [q_lit, q_gt, q_bd, q_bxl, q_bxr, q_vib, q_cl, q_pos, q_lt, q_le, q_eq, q_neg, q_neg1, q_negz, q_negeq0, q_neg0le, q_rem, q_div, q_sub, q_if1, q_if0, q_okB0, q_okB1, q_dz, q_dn, q_nb, and_true, true_and, and_false, false_and, nI_add, pk_mul, if_true, if_false, ite_true, ite_false, Nat.add_zero, Nat.zero_add, Nat.reduceAdd, r1, fate, z]
      · rw [show valN D Y 4 s = sumF (fun i => lp Y s i 7) (ln Y s) from rfl]
        simp (disch := omega) only [q_lit, q_gt, q_bd, q_bxl, q_bxr, q_vib, q_cl, q_pos, q_lt, q_le, q_eq, q_neg, q_neg1, q_negz, q_negeq0, q_neg0le, q_rem, q_div, q_sub, q_if1, q_if0, q_okB0, q_okB1, q_dz, q_dn, q_nb, and_true, true_and, and_false, false_and, nI_add, pk_mul, if_true, if_false, ite_true, ite_false, Nat.add_zero, Nat.zero_add, Nat.reduceAdd, r1]
      · rw [show valN D Y 5 s = ll Y s from rfl]
        simp (disch := omega) only [q_lit, q_gt, q_bd, q_bxl, q_bxr, q_vib, q_cl, q_pos, q_lt, q_le, q_eq, q_neg, q_neg1, q_negz, q_negeq0, q_neg0le, q_rem, q_div, q_sub, q_if1, q_if0, q_okB0, q_okB1, q_dz, q_dn, q_nb, and_true, true_and, and_false, false_and, nI_add, pk_mul, if_true, if_false, ite_true, ite_false, Nat.add_zero, Nat.zero_add, Nat.reduceAdd, r1, lin]
      · rw [show valN D Y 6 s = dS D s 4 - ll Y s from rfl]
        simp (disch := omega) only [q_lit, q_gt, q_bd, q_bxl, q_bxr, q_vib, q_cl, q_pos, q_lt, q_le, q_eq, q_neg, q_neg1, q_negz, q_negeq0, q_neg0le, q_rem, q_div, q_sub, q_if1, q_if0, q_okB0, q_okB1, q_dz, q_dn, q_nb, and_true, true_and, and_false, false_and, nI_add, pk_mul, if_true, if_false, ite_true, ite_false, Nat.add_zero, Nat.zero_add, Nat.reduceAdd, r1, lin, s6_of t1]
      · rw [show valN D Y 7 s = 0 from rfl]
        simp (disch := omega) only [q_lit, q_gt, q_bd, q_bxl, q_bxr, q_vib, q_cl, q_pos, q_lt, q_le, q_eq, q_neg, q_neg1, q_negz, q_negeq0, q_neg0le, q_rem, q_div, q_sub, q_if1, q_if0, q_okB0, q_okB1, q_dz, q_dn, q_nb, and_true, true_and, and_false, false_and, nI_add, pk_mul, if_true, if_false, ite_true, ite_false, Nat.add_zero, Nat.zero_add, Nat.reduceAdd, r1]
    · intro t i hi
      show f6_count_B116 _ _ _ _ _ _ _ _ _ _ _ _ = t (nI (sumF (fun i => lp Y s i 7) i + lp Y s i 7)) (nI (i + 1)) τ
      unfold f6_count_B116
      simp (disch := omega) only [q_lit, q_gt, q_bd, q_bxl, q_bxr, q_vib, q_cl, q_pos, q_lt, q_le, q_eq, q_neg, q_neg1, q_negz, q_negeq0, q_neg0le, q_rem, q_div, q_sub, q_if1, q_if0, q_okB0, q_okB1, q_dz, q_dn, q_nb, and_true, true_and, and_false, false_and, nI_add, pk_mul, if_true, if_false, ite_true, ite_false, Nat.add_zero, Nat.zero_add, Nat.reduceAdd, r1, r5 i 7 hi (by omega)]) (i := 0) (n := N) (by omega) (by omega)
  exact main
end SU
