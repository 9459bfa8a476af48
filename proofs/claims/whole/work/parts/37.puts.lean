/-! THE PURE PART. Faults and changes of one edition, on both sides. -/
def inB (x : Int32) (a b : Nat) : Bool := !(decide (x < nI a)) && !(decide (nI b < x))
theorem inB_some {x : Int32} {a b : Nat} (h : inB x a b = true) (hb : b < 2 ^ 31) (hab : a ≤ b) : ∃ n, a ≤ n ∧ n ≤ b ∧ x = nI n := by
  unfold inB at h
  simp only [Bool.and_eq_true, Bool.not_eq_true', decide_eq_false_iff_not] at h
  obtain ⟨h1, h2⟩ := h
  have h3 : ¬ x < 0 := fun q => h1 (by
    rw [Int32.lt_iff_toInt_lt] at q ⊢
    rw [nI_toInt (by omega)]
    have : (0 : Int32).toInt = 0 := by decide
    omega)
  obtain ⟨n, hn, rfl⟩ := nI_of h3
  refine ⟨n, ?_, ?_, rfl⟩
  · rw [nI_ltI hn (by omega)] at h1
    omega
  · rw [nI_ltI hb hn] at h2
    omega
theorem inB_nI {n a b : Nat} (hn : n < 2 ^ 31) (ha : a < 2 ^ 31) (hb : b < 2 ^ 31) : inB (nI n) a b = decide (a ≤ n ∧ n ≤ b) := by
  unfold inB
  apply Bool.eq_iff_iff.mpr
  simp only [Bool.and_eq_true, Bool.not_eq_true', decide_eq_false_iff_not, decide_eq_true_iff, nI_ltI hn ha, nI_ltI hb hn]
  omega
theorem ge_gt (x : Int32) {b : Nat} (hb : b + 1 < 2 ^ 31) : (nI (b + 1) ≤ x) ↔ (nI b < x) := by
  rw [Int32.le_iff_toInt_le, Int32.lt_iff_toInt_lt, nI_toInt hb, nI_toInt (by omega)]
  omega
theorem not_lt_le (x y : Int32) : (¬ x < y) ↔ y ≤ x := by
  rw [Int32.le_iff_toInt_le, Int32.lt_iff_toInt_lt]
  omega
def b2 (b : Bool) : Nat := if b then 1 else 0
theorem b2_le (b : Bool) : b2 b ≤ 1 := by cases b <;> decide
section F1
variable {σ : Hp} {D : Nat → Nat}
theorem s6_in (N : Nat) (x : Int32) (a b : Nat) : f6_in N x (nI a) (nI b) σ = some (nI (b2 (inB x a b)), σ) := by
  unfold f6_in inB b2
  by_cases h : x < nI a
  · rw [if_pos h, decide_eq_true h]
    rfl
  · by_cases h2 : nI b < x
    · rw [if_neg h, if_pos h2, decide_eq_false h, decide_eq_true h2]
      rfl
    · rw [if_neg h, if_neg h2, decide_eq_false h, decide_eq_false h2]
      rfl
/-- the class's form of the same test -/
theorem in_cls {α : Type} (x : Int32) {b : Nat} (hb : b + 1 < 2 ^ 31) (y z : α) : (if x < nI 0 then y else if nI (b + 1) ≤ x then y else z) = if inB x 0 b then z else y := by
  unfold inB
  by_cases h : x < nI 0
  · rw [if_pos h, decide_eq_true h]
    rfl
  · by_cases h2 : nI b < x
    · rw [if_neg h, if_pos ((ge_gt x hb).mpr h2), decide_eq_false h, decide_eq_true h2]
      rfl
    · rw [if_neg h, if_neg (fun q => h2 ((ge_gt x hb).mp q)), decide_eq_false h, decide_eq_false h2]
      rfl
theorem s5_isPage (N : Nat) (x : Int32) : f5_isPage N x σ = some (nI (b2 (inB x 0 3)), σ) := by
  unfold f5_isPage
  refine Eq.trans (in_cls x (b := 3) (by omega) _ _) ?_
  cases inB x 0 3
  · rfl
  · rfl
theorem s5_storyIx (N : Nat) (x : Int32) : f5_isStoryIndex N x σ = some (nI (b2 (inB x 0 11)), σ) := by
  unfold f5_isStoryIndex
  refine Eq.trans (in_cls x (b := 11) (by omega) _ _) ?_
  cases inB x 0 11
  · rfl
  · rfl
theorem s5_adIx (N : Nat) (x : Int32) : f5_isAdvertisementIndex N x σ = some (nI (b2 (inB x 0 7)), σ) := by
  unfold f5_isAdvertisementIndex
  refine Eq.trans (in_cls x (b := 7) (by omega) _ _) ?_
  cases inB x 0 7
  · rfl
  · rfl
def loN (w : Nat) : Nat := if w = 0 then 0 else if w = 4 then 0 else 1
def hiN (w : Nat) : Nat := if w = 3 then 150 else if w = 4 then 9 else 3
def numOk (w : Nat) (x : Int32) : Bool := inB x (loN w) (hiN w)
theorem five (k : Nat) (h : k < 5) : k = 0 ∨ k = 1 ∨ k = 2 ∨ k = 3 ∨ k = 4 := by omega
theorem s5_inRange (N : Nat) {w : Nat} (hw : w < 5) (x : Int32) : f5_isInRange N (nI w) x σ = some (nI (b2 (numOk w x)), σ) := by
  have key : ∀ a b : Nat, lst5 w = nI a → gst5 w = nI b → numOk w x = inB x a b → f5_isInRange N (nI w) x σ = some (nI (b2 (numOk w x)), σ) := by
    intro a b h1 h2 h3
    rw [h3]
    unfold f5_isInRange
    simp (disch := omega) only [q_lit, q_gt, q_bd, q_bxl, q_bxr, q_vib, q_cl, q_pos, q_lt, q_le, q_eq, q_neg, q_neg1, q_negz, q_negeq0, q_neg0le, q_rem, q_div, q_sub, q_if1, q_if0, q_okB0, q_okB1, q_dz, q_dn, q_nb, and_true, true_and, and_false, false_and, nI_add, pk_mul, if_true, if_false, ite_true, ite_false, Nat.add_zero, Nat.zero_add, Nat.reduceAdd, h1, h2]
    unfold inB b2
    by_cases q : x < nI a
    · rw [if_pos q, decide_eq_true q]
      rfl
    · by_cases q2 : nI b < x
      · rw [if_neg q, if_pos q2, decide_eq_false q, decide_eq_true q2]
        rfl
      · rw [if_neg q, if_neg q2, decide_eq_false q, decide_eq_false q2]
        rfl
  rcases five w hw with rfl | rfl | rfl | rfl | rfl
  · exact key 0 3 rfl rfl rfl
  · exact key 1 3 rfl rfl rfl
  · exact key 1 3 rfl rfl rfl
  · exact key 1 150 rfl rfl rfl
  · exact key 0 9 rfl rfl rfl
theorem okB_b2 (b : Bool) : okB (nI (b2 b)) = true := by cases b <;> decide
theorem s6_isNumber (N : Nat) {w : Nat} (hw : w < 5) (x : Int32) : f6_isNumber N (nI w) x σ = some (nI (b2 (numOk w x)), σ) := by
  unfold f6_isNumber numOk
  rcases five w hw with rfl | rfl | rfl | rfl | rfl
  all_goals
    simp (disch := omega) only [q_lit, q_gt, q_bd, q_bxl, q_bxr, q_vib, q_cl, q_pos, q_lt, q_le, q_eq, q_neg, q_neg1, q_negz, q_negeq0, q_neg0le, q_rem, q_div, q_sub, q_if1, q_if0, q_okB0, q_okB1, q_dz, q_dn, q_nb, and_true, true_and, and_false, false_and, nI_add, pk_mul, if_true, if_false, ite_true, ite_false, Nat.add_zero, Nat.zero_add, Nat.reduceAdd, s6_in, okB_b2]
    rfl
/-! stories -/
def fltS (D : Nat → Nat) (x1 x2 x3 x4 x5 : Int32) : Nat := if numOk 0 x1 then (if numOk 1 x2 then if numOk 2 x3 then if numOk 3 x4 then if numOk 4 x5 then (if D 0 < 12 then 0 else 3) else 2 else 2 else 2 else 2) else 1
theorem fltS_le (D : Nat → Nat) (x1 x2 x3 x4 x5 : Int32) : fltS D x1 x2 x3 x4 x5 ≤ 3 := by
  unfold fltS
  repeat' split
  all_goals omega
def stV (p w h l pr : Nat) : Nat → Nat := fun k => if k = 0 then 1 else if k = 1 then p else if k = 2 then w else if k = 3 then h else if k = 4 then l else if k = 5 then pr else 0
def storyD (D : Nat → Nat) (p w h l pr : Nat) : Nat → Nat := fun i => if i = 0 then D 0 + 1 else if 2 + 9 * D 0 ≤ i ∧ i < 11 + 9 * D 0 then stV p w h l pr (i - (2 + 9 * D 0)) else D i
theorem storyD_S {p w h l pr s k : Nat} (hk : k < 9) : dS (storyD D p w h l pr) s k = if s = D 0 then stV p w h l pr k else dS D s k := by
  unfold dS storyD
  by_cases z : s = D 0
  · rw [if_neg (by omega), if_pos (by omega), if_pos z, z, show 2 + 9 * D 0 + k - (2 + 9 * D 0) = k by omega]
  · rw [if_neg (by omega), if_neg (by omega), if_neg z]
theorem storyD_A {p w h l pr a k : Nat} (h0 : D 0 < 12) : dA (storyD D p w h l pr) a k = dA D a k := by
  unfold dA storyD
  rw [if_neg (by omega), if_neg (by omega)]
theorem storyD_ok (hD : DOk D) {p w h l pr : Nat} (h0 : D 0 < 12) (hp : p ≤ 3) (hw : 1 ≤ w ∧ w ≤ 3) (hh : 1 ≤ h ∧ h ≤ 3) (hl : 1 ≤ l ∧ l ≤ 150) (hpr : pr ≤ 9) : DOk (storyD D p w h l pr) := by
  obtain ⟨d0, d1, d2, d3⟩ := hD
  refine ⟨?_, ?_, fun s hs => ?_, fun a ha => ?_⟩
  · show D 0 + 1 ≤ 12
    omega
  · unfold storyD
    rw [if_neg (by omega), if_neg (by omega)]
    exact d1
  · unfold SOk
    rw [storyD_S (by omega), storyD_S (by omega), storyD_S (by omega), storyD_S (by omega), storyD_S (by omega), storyD_S (by omega), storyD_S (by omega), storyD_S (by omega), storyD_S (by omega)]
    by_cases z : s = D 0
    · simp only [z, if_true]
      refine ⟨Nat.le_refl 1, hp, hw.2, hh.2, hl.2, hpr, Nat.zero_le _, Nat.zero_le _, Nat.zero_le _, fun _ => ⟨hw.1, hh.1, hl.1⟩⟩
    · simp only [if_neg z]
      exact d2 s hs
  · unfold AOk
    rw [storyD_A h0, storyD_A h0, storyD_A h0, storyD_A h0, storyD_A h0, storyD_A h0, storyD_A h0]
    exact d3 a ha
theorem s1_faultOfStory (N b : Nat) (hE : EdR σ b D) (hD : DOk D) (x1 x2 x3 x4 x5 : Int32) : f1_faultOfStory N b x1 x2 x3 x4 x5 σ = some (nI (fltS D x1 x2 x3 x4 x5), σ) := by
  have h0 := hD.1
  unfold f1_faultOfStory fltS
  simp (disch := omega) only [q_lit, q_gt, q_bd, q_bxl, q_bxr, q_vib, q_cl, q_pos, q_lt, q_le, q_eq, q_neg, q_neg1, q_negz, q_negeq0, q_neg0le, q_rem, q_div, q_sub, q_if1, q_if0, q_okB0, q_okB1, q_dz, q_dn, q_nb, and_true, true_and, and_false, false_and, nI_add, pk_mul, if_true, if_false, ite_true, ite_false, Nat.add_zero, Nat.zero_add, Nat.reduceAdd, s5_isPage, s5_inRange, hE.1]
  rw [show inB x1 0 3 = numOk 0 x1 from rfl]
  cases numOk 0 x1
  · rfl
  cases numOk 1 x2
  · rfl
  cases numOk 2 x3
  · rfl
  cases numOk 3 x4
  · rfl
  cases numOk 4 x5
  · rfl
  show (if D 0 < 12 then _ else _) = some (nI (if D 0 < 12 then 0 else 3), σ)
  by_cases z : D 0 < 12
  · rw [if_pos z, if_pos z]
  · rw [if_neg z, if_neg z]
theorem fltS_ok {x1 x2 x3 x4 x5 : Int32} (h : fltS D x1 x2 x3 x4 x5 = 0) : D 0 < 12 ∧ numOk 0 x1 = true ∧ numOk 1 x2 = true ∧ numOk 2 x3 = true ∧ numOk 3 x4 = true ∧ numOk 4 x5 = true ∧ ∃ p w hh l pr : Nat, x1 = nI p ∧ x2 = nI w ∧ x3 = nI hh ∧ x4 = nI l ∧ x5 = nI pr ∧ p ≤ 3 ∧ (1 ≤ w ∧ w ≤ 3) ∧ (1 ≤ hh ∧ hh ≤ 3) ∧ (1 ≤ l ∧ l ≤ 150) ∧ pr ≤ 9 := by
  unfold fltS at h
  cases e1 : numOk 0 x1
  · rw [e1] at h
    exact absurd (show (1 : Nat) = 0 from h) (by decide)
  rw [e1, if_pos rfl] at h
  cases e2 : numOk 1 x2
  · rw [e2] at h
    exact absurd (show (2 : Nat) = 0 from h) (by decide)
  rw [e2, if_pos rfl] at h
  cases e3 : numOk 2 x3
  · rw [e3] at h
    exact absurd (show (2 : Nat) = 0 from h) (by decide)
  rw [e3, if_pos rfl] at h
  cases e4 : numOk 3 x4
  · rw [e4] at h
    exact absurd (show (2 : Nat) = 0 from h) (by decide)
  rw [e4, if_pos rfl] at h
  cases e5 : numOk 4 x5
  · rw [e5] at h
    exact absurd (show (2 : Nat) = 0 from h) (by decide)
  rw [e5, if_pos rfl] at h
  have h0 : D 0 < 12 := by
    by_cases z : D 0 < 12
    · exact z
    · rw [if_neg z] at h
      exact absurd (show (3 : Nat) = 0 from h) (by decide)
  obtain ⟨p, p1, p2, p3⟩ := inB_some e1 (by decide) (by decide)
  obtain ⟨w, w1, w2, w3⟩ := inB_some e2 (by decide) (by decide)
  obtain ⟨hh, h1, h2, h3⟩ := inB_some e3 (by decide) (by decide)
  obtain ⟨l, l1, l2, l3⟩ := inB_some e4 (by decide) (by decide)
  obtain ⟨pr, q1, q2, q3⟩ := inB_some e5 (by decide) (by decide)
  exact ⟨h0, rfl, rfl, rfl, rfl, rfl, p, w, hh, l, pr, p3, w3, h3, l3, q3, p2, ⟨w1, w2⟩, ⟨h1, h2⟩, ⟨l1, l2⟩, q2⟩
theorem s1_putNo (N b : Nat) {s k : Nat} (hs : s < 12) (hk : k < 8) (v : Int32) (σ : Hp) : f1_putStoryNumber N b (nI s) (nI k) v σ = some ((), st σ (b + 2) (s * 8 + k) v) := by
  unfold f1_putStoryNumber
  simp (disch := omega) only [q_lit, q_gt, q_bd, q_bxl, q_bxr, q_vib, q_cl, q_pos, q_lt, q_le, q_eq, q_neg, q_neg1, q_negz, q_negeq0, q_neg0le, q_rem, q_div, q_sub, q_if1, q_if0, q_okB0, q_okB1, q_dz, q_dn, q_nb, and_true, true_and, and_false, false_and, nI_add, pk_mul, if_true, if_false, ite_true, ite_false, Nat.add_zero, Nat.zero_add, Nat.reduceAdd, s5_isStoryIndex]
theorem s1_putPhoto (N b : Nat) {s : Nat} (hs : s < 12) (v w : Int32) (σ : Hp) : f1_putPhoto N b (nI s) v w σ = some ((), st (st σ (b + 2) (s * 8 + 5) v) (b + 2) (s * 8 + 6) w) := by
  unfold f1_putPhoto
  simp (disch := omega) only [q_lit, q_gt, q_bd, q_bxl, q_bxr, q_vib, q_cl, q_pos, q_lt, q_le, q_eq, q_neg, q_neg1, q_negz, q_negeq0, q_neg0le, q_rem, q_div, q_sub, q_if1, q_if0, q_okB0, q_okB1, q_dz, q_dn, q_nb, and_true, true_and, and_false, false_and, nI_add, pk_mul, if_true, if_false, ite_true, ite_false, Nat.add_zero, Nat.zero_add, Nat.reduceAdd, s1_putNo]
theorem s1_putLate (N b : Nat) {s : Nat} (hs : s < 12) (x : Int32) (σ : Hp) : f1_putLate N b (nI s) x σ = some ((), st σ (b + 2) (s * 8 + 7) (nI (if x = nI 0 then 0 else 1))) := by
  unfold f1_putLate f1_putLate_J13
  simp (disch := omega) only [q_lit, q_gt, q_bd, q_bxl, q_bxr, q_vib, q_cl, q_pos, q_lt, q_le, q_eq, q_neg, q_neg1, q_negz, q_negeq0, q_neg0le, q_rem, q_div, q_sub, q_if1, q_if0, q_okB0, q_okB1, q_dz, q_dn, q_nb, and_true, true_and, and_false, false_and, nI_add, pk_mul, if_true, if_false, ite_true, ite_false, Nat.add_zero, Nat.zero_add, Nat.reduceAdd, s1_putNo]
  by_cases z : x = nI 0
  · rw [if_pos z, if_pos z]
  · rw [if_neg z, if_neg z]
theorem s1_putStory (N b : Nat) (hE : EdR σ b D) (h0 : D 0 < 12) (p w h l pr : Nat) : ∃ σ', f1_putStory N b (nI p) (nI w) (nI h) (nI l) (nI pr) σ = some (nI (D 0), σ') ∧ EdR σ' b (storyD D p w h l pr) ∧ ∀ k, k < b ∨ b + 4 < k → σ' k = σ k := by
  obtain ⟨e1, e2, e3, e4, e5, e6⟩ := hE
  unfold f1_putStory
  simp (disch := omega) only [q_lit, q_gt, q_bd, q_bxl, q_bxr, q_vib, q_cl, q_pos, q_lt, q_le, q_eq, q_neg, q_neg1, q_negz, q_negeq0, q_neg0le, q_rem, q_div, q_sub, q_if1, q_if0, q_okB0, q_okB1, q_dz, q_dn, q_nb, and_true, true_and, and_false, false_and, nI_add, pk_mul, if_true, if_false, ite_true, ite_false, Nat.add_zero, Nat.zero_add, Nat.reduceAdd, e1, s5_isStoryIndex, s1_putNo, s1_putPhoto, s1_putLate]
  refine ⟨_, rfl, ⟨?_, ?_, ?_, ?_, ?_, ?_⟩, ?_⟩
  · simp (disch := omega) only [q_lit, q_gt, q_bd, q_bxl, q_bxr, q_vib, q_cl, q_pos, q_lt, q_le, q_eq, q_neg, q_neg1, q_negz, q_negeq0, q_neg0le, q_rem, q_div, q_sub, q_if1, q_if0, q_okB0, q_okB1, q_dz, q_dn, q_nb, and_true, true_and, and_false, false_and, nI_add, pk_mul, if_true, if_false, ite_true, ite_false, Nat.add_zero, Nat.zero_add, Nat.reduceAdd, st_row, st_get]
    rfl
  · simp (disch := omega) only [q_lit, q_gt, q_bd, q_bxl, q_bxr, q_vib, q_cl, q_pos, q_lt, q_le, q_eq, q_neg, q_neg1, q_negz, q_negeq0, q_neg0le, q_rem, q_div, q_sub, q_if1, q_if0, q_okB0, q_okB1, q_dz, q_dn, q_nb, and_true, true_and, and_false, false_and, nI_add, pk_mul, if_true, if_false, ite_true, ite_false, Nat.add_zero, Nat.zero_add, Nat.reduceAdd, st_row, st_get]
    rw [e2]
    unfold storyD
    simp (disch := omega) only [q_lit, q_gt, q_bd, q_bxl, q_bxr, q_vib, q_cl, q_pos, q_lt, q_le, q_eq, q_neg, q_neg1, q_negz, q_negeq0, q_neg0le, q_rem, q_div, q_sub, q_if1, q_if0, q_okB0, q_okB1, q_dz, q_dn, q_nb, and_true, true_and, and_false, false_and, nI_add, pk_mul, if_true, if_false, ite_true, ite_false, Nat.add_zero, Nat.zero_add, Nat.reduceAdd]
  · intro s hs
    rw [storyD_S (by omega)]
    simp (disch := omega) only [q_lit, q_gt, q_bd, q_bxl, q_bxr, q_vib, q_cl, q_pos, q_lt, q_le, q_eq, q_neg, q_neg1, q_negz, q_negeq0, q_neg0le, q_rem, q_div, q_sub, q_if1, q_if0, q_okB0, q_okB1, q_dz, q_dn, q_nb, and_true, true_and, and_false, false_and, nI_add, pk_mul, if_true, if_false, ite_true, ite_false, Nat.add_zero, Nat.zero_add, Nat.reduceAdd, st_row, st_get]
    by_cases z : s = D 0
    · rw [if_pos z, if_pos z]
      rfl
    · rw [if_neg z, if_neg z]
      exact e3 s hs
  · intro s k hs hk
    rw [storyD_S (by omega)]
    by_cases z : s = D 0
    · rw [if_pos z, z]
      rcases eight k hk with rfl | rfl | rfl | rfl | rfl | rfl | rfl | rfl
      all_goals
        simp (disch := omega) only [q_lit, q_gt, q_bd, q_bxl, q_bxr, q_vib, q_cl, q_pos, q_lt, q_le, q_eq, q_neg, q_neg1, q_negz, q_negeq0, q_neg0le, q_rem, q_div, q_sub, q_if1, q_if0, q_okB0, q_okB1, q_dz, q_dn, q_nb, and_true, true_and, and_false, false_and, nI_add, pk_mul, if_true, if_false, ite_true, ite_false, Nat.add_zero, Nat.zero_add, Nat.reduceAdd, st_get, stV]
    · rw [if_neg z]
      simp (disch := omega) only [q_lit, q_gt, q_bd, q_bxl, q_bxr, q_vib, q_cl, q_pos, q_lt, q_le, q_eq, q_neg, q_neg1, q_negz, q_negeq0, q_neg0le, q_rem, q_div, q_sub, q_if1, q_if0, q_okB0, q_okB1, q_dz, q_dn, q_nb, and_true, true_and, and_false, false_and, nI_add, pk_mul, if_true, if_false, ite_true, ite_false, Nat.add_zero, Nat.zero_add, Nat.reduceAdd, st_get]
      exact e4 s k hs hk
  · intro a ha
    rw [storyD_A h0]
    simp (disch := omega) only [q_lit, q_gt, q_bd, q_bxl, q_bxr, q_vib, q_cl, q_pos, q_lt, q_le, q_eq, q_neg, q_neg1, q_negz, q_negeq0, q_neg0le, q_rem, q_div, q_sub, q_if1, q_if0, q_okB0, q_okB1, q_dz, q_dn, q_nb, and_true, true_and, and_false, false_and, nI_add, pk_mul, if_true, if_false, ite_true, ite_false, Nat.add_zero, Nat.zero_add, Nat.reduceAdd, st_row]
    exact e5 a ha
  · intro a k ha hk
    rw [storyD_A h0]
    simp (disch := omega) only [q_lit, q_gt, q_bd, q_bxl, q_bxr, q_vib, q_cl, q_pos, q_lt, q_le, q_eq, q_neg, q_neg1, q_negz, q_negeq0, q_neg0le, q_rem, q_div, q_sub, q_if1, q_if0, q_okB0, q_okB1, q_dz, q_dn, q_nb, and_true, true_and, and_false, false_and, nI_add, pk_mul, if_true, if_false, ite_true, ite_false, Nat.add_zero, Nat.zero_add, Nat.reduceAdd, st_row]
    exact e6 a k ha hk
  · intro k hk
    simp (disch := omega) only [q_lit, q_gt, q_bd, q_bxl, q_bxr, q_vib, q_cl, q_pos, q_lt, q_le, q_eq, q_neg, q_neg1, q_negz, q_negeq0, q_neg0le, q_rem, q_div, q_sub, q_if1, q_if0, q_okB0, q_okB1, q_dz, q_dn, q_nb, and_true, true_and, and_false, false_and, nI_add, pk_mul, if_true, if_false, ite_true, ite_false, Nat.add_zero, Nat.zero_add, Nat.reduceAdd, st_row]
theorem s6_laysStory_f (N : Nat) (hNw : NwR σ 85 D) (hD : DOk D) (x1 x2 x3 x4 x5 : Int32) (f : Nat) (hf : fltS D x1 x2 x3 x4 x5 = f) (hf0 : f ≠ 0) : f6_laysStory N x1 x2 x3 x4 x5 σ = some (nI 0, st σ 84 0 (nI f)) := by
  have h0 := hD.1
  have e0 := hNw 0 (by omega)
  unfold fltS at hf
  unfold f6_laysStory f6_laysStory_J48 f6_fails
  simp (disch := omega) only [q_lit, q_gt, q_bd, q_bxl, q_bxr, q_vib, q_cl, q_pos, q_lt, q_le, q_eq, q_neg, q_neg1, q_negz, q_negeq0, q_neg0le, q_rem, q_div, q_sub, q_if1, q_if0, q_okB0, q_okB1, q_dz, q_dn, q_nb, and_true, true_and, and_false, false_and, nI_add, pk_mul, if_true, if_false, ite_true, ite_false, Nat.add_zero, Nat.zero_add, Nat.reduceAdd, s6_isNumber, e0]
  cases e1 : numOk 0 x1
  · rw [e1] at hf
    rw [← hf]
    rfl
  rw [e1, if_pos rfl] at hf
  cases e2 : numOk 1 x2
  · rw [e2] at hf
    rw [← hf]
    rfl
  rw [e2, if_pos rfl] at hf
  cases e3 : numOk 2 x3
  · rw [e3] at hf
    rw [← hf]
    rfl
  rw [e3, if_pos rfl] at hf
  cases e4 : numOk 3 x4
  · rw [e4] at hf
    rw [← hf]
    rfl
  rw [e4, if_pos rfl] at hf
  cases e5 : numOk 4 x5
  · rw [e5] at hf
    rw [← hf]
    rfl
  rw [e5, if_pos rfl] at hf
  by_cases z : D 0 < 12
  · rw [if_pos z] at hf
    omega
  · rw [if_neg z] at hf
    have z2 : D 0 = 12 := by omega
    simp (disch := omega) only [q_lit, q_gt, q_bd, q_bxl, q_bxr, q_vib, q_cl, q_pos, q_lt, q_le, q_eq, q_neg, q_neg1, q_negz, q_negeq0, q_neg0le, q_rem, q_div, q_sub, q_if1, q_if0, q_okB0, q_okB1, q_dz, q_dn, q_nb, and_true, true_and, and_false, false_and, nI_add, pk_mul, if_true, if_false, ite_true, ite_false, Nat.add_zero, Nat.zero_add, Nat.reduceAdd, b2]
    rw [← hf]
theorem s6_laysStory_ok (N : Nat) (hN : 500 ≤ N) (hNw : NwR σ 85 D) (p w h l pr : Nat) (h0 : D 0 < 12) (n1 : numOk 0 (nI p) = true) (n2 : numOk 1 (nI w) = true) (n3 : numOk 2 (nI h) = true) (n4 : numOk 3 (nI l) = true) (n5 : numOk 4 (nI pr) = true) : ∃ σ', f6_laysStory N (nI p) (nI w) (nI h) (nI l) (nI pr) σ = some (nI (D 0), σ') ∧ NwR σ' 85 (storyD D p w h l pr) ∧ ∀ k, k ≠ 85 → σ' k = σ k := by
  have e0 := hNw 0 (by omega)
  unfold f6_laysStory
  simp (disch := omega) only [q_lit, q_gt, q_bd, q_bxl, q_bxr, q_vib, q_cl, q_pos, q_lt, q_le, q_eq, q_neg, q_neg1, q_negz, q_negeq0, q_neg0le, q_rem, q_div, q_sub, q_if1, q_if0, q_okB0, q_okB1, q_dz, q_dn, q_nb, and_true, true_and, and_false, false_and, nI_add, pk_mul, if_true, if_false, ite_true, ite_false, Nat.add_zero, Nat.zero_add, Nat.reduceAdd, s6_isNumber, e0, n1, n2, n3, n4, n5, b2]
  generalize hτ : st (st (st (st (st (st σ 85 (2 + 9 * D 0) (nI 1)) 85 (2 + 9 * D 0 + 1) (nI p)) 85 (2 + 9 * D 0 + 2) (nI w)) 85 (2 + 9 * D 0 + 3) (nI h)) 85 (2 + 9 * D 0 + 4) (nI l)) 85 (2 + 9 * D 0 + 5) (nI pr) = τ
  obtain ⟨σ1, ⟨i1, i2, i3⟩, hh⟩ := lpx (fun _ _ => none) (f6_laysStory_B148 N (nI p) (nI w) (nI h) (nI l) (nI pr) (nI (D 0)) (nI (2 + 9 * D 0)) (fun σL148 => some (nI (D 0), st σL148 85 0 (σL148 85 0 + nI 1)))) (fun t j σ => t (nI j) σ) (fun σL148 => some (nI (D 0), st σL148 85 0 (σL148 85 0 + nI 1))) 9 (fun m τ' => (6 ≤ m ∧ ∀ k, k ≠ 85 → τ' k = τ k) ∧ (∀ k, 6 ≤ k → k < m → τ' 85 (2 + 9 * D 0 + k) = nI 0) ∧ (∀ t, t < 8 + 9 * D 0 ∨ 11 + 9 * D 0 ≤ t → τ' 85 t = τ 85 t)) (by
    intro r τ' hI
    show f6_laysStory_B148 _ _ _ _ _ _ _ _ _ _ _ _ = _
    unfold f6_laysStory_B148
    simp (disch := omega) only [q_lit, q_gt, q_bd, q_bxl, q_bxr, q_vib, q_cl, q_pos, q_lt, q_le, q_eq, q_neg, q_neg1, q_negz, q_negeq0, q_neg0le, q_rem, q_div, q_sub, q_if1, q_if0, q_okB0, q_okB1, q_dz, q_dn, q_nb, and_true, true_and, and_false, false_and, nI_add, pk_mul, if_true, if_false, ite_true, ite_false, Nat.add_zero, Nat.zero_add, Nat.reduceAdd]) (by
    intro r j τ' hj hI
    obtain ⟨⟨j6, i1⟩, i2, i3⟩ := hI
    refine ⟨st τ' 85 (2 + 9 * D 0 + j) (nI 0), ⟨⟨by omega, ?_⟩, ?_, ?_⟩, ?_⟩
    · intro k hk
      rw [st_row _ _ _ _ hk]
      exact i1 k hk
    · intro k k6 hk
      rw [st_get]
      by_cases z : k = j
      · rw [z, if_pos ⟨rfl, rfl⟩]
      · rw [if_neg (by omega)]
        exact i2 k k6 (by omega)
    · intro t ht
      rw [st_ne _ _ _ _ (Or.inr (by omega))]
      exact i3 t ht
    · show f6_laysStory_B148 _ _ _ _ _ _ _ _ _ _ _ _ = _
      unfold f6_laysStory_B148
      simp (disch := omega) only [q_lit, q_gt, q_bd, q_bxl, q_bxr, q_vib, q_cl, q_pos, q_lt, q_le, q_eq, q_neg, q_neg1, q_negz, q_negeq0, q_neg0le, q_rem, q_div, q_sub, q_if1, q_if0, q_okB0, q_okB1, q_dz, q_dn, q_nb, and_true, true_and, and_false, false_and, nI_add, pk_mul, if_true, if_false, ite_true, ite_false, Nat.add_zero, Nat.zero_add, Nat.reduceAdd]) 3 6 N τ (by omega) (by omega) ⟨⟨by omega, fun _ _ => rfl⟩, fun k k6 hk => by omega, fun _ _ => rfl⟩
  have t0 : τ 85 0 = nI (D 0) := by
    rw [← hτ]
    simp (disch := omega) only [q_lit, q_gt, q_bd, q_bxl, q_bxr, q_vib, q_cl, q_pos, q_lt, q_le, q_eq, q_neg, q_neg1, q_negz, q_negeq0, q_neg0le, q_rem, q_div, q_sub, q_if1, q_if0, q_okB0, q_okB1, q_dz, q_dn, q_nb, and_true, true_and, and_false, false_and, nI_add, pk_mul, if_true, if_false, ite_true, ite_false, Nat.add_zero, Nat.zero_add, Nat.reduceAdd, st_get]
    exact e0
  refine ⟨st σ1 85 0 (nI (D 0 + 1)), ?_, ?_, ?_⟩
  · refine Eq.trans (show _ = _ from hh) ?_
    simp (disch := omega) only [q_lit, q_gt, q_bd, q_bxl, q_bxr, q_vib, q_cl, q_pos, q_lt, q_le, q_eq, q_neg, q_neg1, q_negz, q_negeq0, q_neg0le, q_rem, q_div, q_sub, q_if1, q_if0, q_okB0, q_okB1, q_dz, q_dn, q_nb, and_true, true_and, and_false, false_and, nI_add, pk_mul, if_true, if_false, ite_true, ite_false, Nat.add_zero, Nat.zero_add, Nat.reduceAdd, i3 0 (by omega), t0]
  · intro i hi
    rw [st_get]
    unfold storyD
    by_cases z : i = 0
    · rw [if_pos ⟨rfl, z⟩, if_pos z]
    · rw [if_neg (by omega), if_neg z]
      by_cases z2 : 2 + 9 * D 0 ≤ i ∧ i < 11 + 9 * D 0
      · rw [if_pos z2]
        obtain ⟨k, rfl⟩ : ∃ k, i = 2 + 9 * D 0 + k := ⟨i - (2 + 9 * D 0), by omega⟩
        rw [show 2 + 9 * D 0 + k - (2 + 9 * D 0) = k by omega]
        by_cases z3 : k < 6
        · rw [i3 _ (by omega), ← hτ]
          obtain rfl | rfl | rfl | rfl | rfl | rfl : k = 0 ∨ k = 1 ∨ k = 2 ∨ k = 3 ∨ k = 4 ∨ k = 5 := by omega
          all_goals
            simp (disch := omega) only [q_lit, q_gt, q_bd, q_bxl, q_bxr, q_vib, q_cl, q_pos, q_lt, q_le, q_eq, q_neg, q_neg1, q_negz, q_negeq0, q_neg0le, q_rem, q_div, q_sub, q_if1, q_if0, q_okB0, q_okB1, q_dz, q_dn, q_nb, and_true, true_and, and_false, false_and, nI_add, pk_mul, if_true, if_false, ite_true, ite_false, Nat.add_zero, Nat.zero_add, Nat.reduceAdd, st_get, stV]
        · rw [i2 k (by omega) (by omega)]
          unfold stV
          simp (disch := omega) only [q_lit, q_gt, q_bd, q_bxl, q_bxr, q_vib, q_cl, q_pos, q_lt, q_le, q_eq, q_neg, q_neg1, q_negz, q_negeq0, q_neg0le, q_rem, q_div, q_sub, q_if1, q_if0, q_okB0, q_okB1, q_dz, q_dn, q_nb, and_true, true_and, and_false, false_and, nI_add, pk_mul, if_true, if_false, ite_true, ite_false, Nat.add_zero, Nat.zero_add, Nat.reduceAdd]
      · rw [if_neg z2, i3 i (by omega), ← hτ]
        simp (disch := omega) only [q_lit, q_gt, q_bd, q_bxl, q_bxr, q_vib, q_cl, q_pos, q_lt, q_le, q_eq, q_neg, q_neg1, q_negz, q_negeq0, q_neg0le, q_rem, q_div, q_sub, q_if1, q_if0, q_okB0, q_okB1, q_dz, q_dn, q_nb, and_true, true_and, and_false, false_and, nI_add, pk_mul, if_true, if_false, ite_true, ite_false, Nat.add_zero, Nat.zero_add, Nat.reduceAdd, st_get]
        exact hNw i hi
  · intro k hk
    rw [st_row _ _ _ _ hk, i1.2 k hk, ← hτ]
    simp (disch := omega) only [q_lit, q_gt, q_bd, q_bxl, q_bxr, q_vib, q_cl, q_pos, q_lt, q_le, q_eq, q_neg, q_neg1, q_negz, q_negeq0, q_neg0le, q_rem, q_div, q_sub, q_if1, q_if0, q_okB0, q_okB1, q_dz, q_dn, q_nb, and_true, true_and, and_false, false_and, nI_add, pk_mul, if_true, if_false, ite_true, ite_false, Nat.add_zero, Nat.zero_add, Nat.reduceAdd, st_row]
end F1
