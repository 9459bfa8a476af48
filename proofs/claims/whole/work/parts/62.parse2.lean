/-! THE PURE PART. The class reads the text of commands. -/
section PC
variable {a : Nat → Nat} {L : Nat}
/-- the class's loop over the letters -/
def kC (N L : Nat) (τ : Hp) : Option (Int32 × Hp) := bd (f0_isComplete N τ) (fun r60 σ60 => if r60 = 0 then some (nI L, σ60) else some (-nI 1, σ60))
def rnC (N L : Nat) (m j : Nat) (τ : Hp) : Option (Int32 × Hp) := it (fun _ _ => none) (f0_parseAndEmpty_B27 N (nI L) (kC N L)) m (nI j) τ
theorem rn_s (N L m j : Nat) (τ : Hp) : rnC N L (m + 1) j τ = f0_parseAndEmpty_B27 N (nI L) (kC N L) (it (fun _ _ => none) (f0_parseAndEmpty_B27 N (nI L) (kC N L)) m) (nI j) τ := by
  unfold rnC
  rw [it_s]
theorem bd_step (N : Nat) {j x : Nat} {τ τ' : Hp} (K : Hp → Option (Int32 × Hp)) (t : Int32 → Hp → Option (Int32 × Hp)) (hL : L ≤ 80) (hj : j < L) (hx : τ 80 j = nI x) (h : f0_accepts N (nI x) τ = some (nI 1, τ')) : f0_parseAndEmpty_B27 N (nI L) K t (nI j) τ = t (nI (j + 1)) τ' := by
  unfold f0_parseAndEmpty_B27
  simp (disch := omega) only [q_lit, q_gt, q_bd, q_bxl, q_bxr, q_vib, q_cl, q_pos, q_lt, q_le, q_eq, q_neg, q_neg1, q_negz, q_negeq0, q_neg0le, q_rem, q_div, q_sub, q_if1, q_if0, q_okB0, q_okB1, q_dz, q_dn, q_nb, and_true, true_and, and_false, false_and, nI_add, pk_mul, if_true, if_false, ite_true, ite_false, Nat.add_zero, Nat.zero_add, Nat.reduceAdd, hx, h]
theorem bd_rej (N : Nat) {j x : Nat} {τ τ' : Hp} (K : Hp → Option (Int32 × Hp)) (t : Int32 → Hp → Option (Int32 × Hp)) (hL : L ≤ 80) (hj : j < L) (hx : τ 80 j = nI x) (h : f0_accepts N (nI x) τ = some (nI 0, τ')) : f0_parseAndEmpty_B27 N (nI L) K t (nI j) τ = some (nI j, τ') := by
  unfold f0_parseAndEmpty_B27
  simp (disch := omega) only [q_lit, q_gt, q_bd, q_bxl, q_bxr, q_vib, q_cl, q_pos, q_lt, q_le, q_eq, q_neg, q_neg1, q_negz, q_negeq0, q_neg0le, q_rem, q_div, q_sub, q_if1, q_if0, q_okB0, q_okB1, q_dz, q_dn, q_nb, and_true, true_and, and_false, false_and, nI_add, pk_mul, if_true, if_false, ite_true, ite_false, Nat.add_zero, Nat.zero_add, Nat.reduceAdd, hx, h]
theorem bd_end (N : Nat) {τ : Hp} (K : Hp → Option (Int32 × Hp)) (t : Int32 → Hp → Option (Int32 × Hp)) : f0_parseAndEmpty_B27 N (nI L) K t (nI L) τ = K τ := by
  unfold f0_parseAndEmpty_B27
  rw [if_pos (show nI L ≤ nI L from Int32.le_refl _)]
theorem rn_step (N : Nat) {m j x : Nat} {τ τ' : Hp} (hL : L ≤ 80) (hj : j < L) (hx : τ 80 j = nI x) (h : f0_accepts N (nI x) τ = some (nI 1, τ')) : rnC N L (m + 1) j τ = rnC N L m (j + 1) τ' := (rn_s N L m j τ).trans (bd_step N _ _ hL hj hx h)
theorem rn_rej (N : Nat) {m j x : Nat} {τ : Hp} (hL : L ≤ 80) (hj : j < L) (hx : τ 80 j = nI x) (h : f0_accepts N (nI x) τ = some (nI 0, τ)) : rnC N L (m + 1) j τ = some (nI j, τ) := (rn_s N L m j τ).trans (bd_rej N _ _ hL hj hx h)
theorem rn_end (N : Nat) {m : Nat} {τ : Hp} (hL : L ≤ 80) : rnC N L (m + 1) L τ = bd (f0_isComplete N τ) (fun r60 σ60 => if r60 = 0 then some (nI L, σ60) else some (-nI 1, σ60)) := (rn_s N L m L τ).trans (bd_end N _ _)
theorem end_S0 (N : Nat) {m c : Nat} {τ : Hp} (hL : L ≤ 80) (h : S0 a L τ c) : rnC N L (m + 1) L τ = some (nI L, τ) := by
  rw [rn_end N hL]
  unfold f0_isComplete
  simp (disch := omega) only [q_lit, q_gt, q_bd, q_bxl, q_bxr, q_vib, q_cl, q_pos, q_lt, q_le, q_eq, q_neg, q_neg1, q_negz, q_negeq0, q_neg0le, q_rem, q_div, q_sub, q_if1, q_if0, q_okB0, q_okB1, q_dz, q_dn, q_nb, and_true, true_and, and_false, false_and, nI_add, pk_mul, if_true, if_false, ite_true, ite_false, Nat.add_zero, Nat.zero_add, Nat.reduceAdd, h.1]
theorem end_S2 (N : Nat) {m c k d : Nat} {τ : Hp} (hL : L ≤ 80) (hd : d ≤ 3) (h : S2 a L τ c k d) (hk : k < szN (a (cpN a L c))) (h2 : ¬ (d ≠ 0 ∧ k + 1 = szN (a (cpN a L c)))) : rnC N L (m + 1) L τ = some (nI L, τ) := by
  obtain ⟨s1, s2, s3, s4, s5, -⟩ := h
  have hs6 := szN_le (a (cpN a L c))
  rw [rn_end N hL]
  generalize szN (a (cpN a L c)) = n at *
  unfold f0_isComplete
  by_cases z : d = 0
  · simp (disch := omega) only [q_lit, q_gt, q_bd, q_bxl, q_bxr, q_vib, q_cl, q_pos, q_lt, q_le, q_eq, q_neg, q_neg1, q_negz, q_negeq0, q_neg0le, q_rem, q_div, q_sub, q_if1, q_if0, q_okB0, q_okB1, q_dz, q_dn, q_nb, and_true, true_and, and_false, false_and, nI_add, pk_mul, if_true, if_false, ite_true, ite_false, Nat.add_zero, Nat.zero_add, Nat.reduceAdd, s1, s5, s4, z]
  · simp (disch := omega) only [q_lit, q_gt, q_bd, q_bxl, q_bxr, q_vib, q_cl, q_pos, q_lt, q_le, q_eq, q_neg, q_neg1, q_negz, q_negeq0, q_neg0le, q_rem, q_div, q_sub, q_if1, q_if0, q_okB0, q_okB1, q_dz, q_dn, q_nb, and_true, true_and, and_false, false_and, nI_add, pk_mul, if_true, if_false, ite_true, ite_false, Nat.add_zero, Nat.zero_add, Nat.reduceAdd, s1, s5, s4]
theorem end_ok (N : Nat) {m c k d : Nat} {τ : Hp} (hL : L ≤ 80) (hd : d ≤ 3) (h : S2 a L τ c k d) (hd0 : d ≠ 0) (hk : k + 1 = szN (a (cpN a L c))) : rnC N L (m + 1) L τ = some (-nI 1, τ) := by
  obtain ⟨s1, s2, s3, s4, s5, -⟩ := h
  rw [show szN (a (cpN a L c)) - 1 - k = 0 by omega] at s4
  rw [rn_end N hL]
  unfold f0_isComplete
  simp (disch := omega) only [q_lit, q_gt, q_bd, q_bxl, q_bxr, q_vib, q_cl, q_pos, q_lt, q_le, q_eq, q_neg, q_neg1, q_negz, q_negeq0, q_neg0le, q_rem, q_div, q_sub, q_if1, q_if0, q_okB0, q_okB1, q_dz, q_dn, q_nb, and_true, true_and, and_false, false_and, nI_add, pk_mul, if_true, if_false, ite_true, ite_false, Nat.add_zero, Nat.zero_add, Nat.reduceAdd, s1, s5, s4]
/-- the letters of the text -/
def LtC (a : Nat → Nat) (L : Nat) (τ : Hp) : Prop := L ≤ 80 ∧ ∀ i, i < L → a i < 65536 ∧ τ 80 i = nI (a i)
theorem LtC.fr {τ τ' : Hp} (h : LtC a L τ) (f : Fr τ τ') : LtC a L τ' := ⟨h.1, fun i hi => ⟨(h.2 i hi).1, by rw [f.1 80 (by omega) (by omega) (by omega) (by omega)]; exact (h.2 i hi).2⟩⟩
/-- the class reads the digits of a number -/
theorem rdDigits (N : Nat) {c k : Nat} (hn : nbN a L c + k < 80) : ∀ d, d ≤ dgN a L (npN a L (cpN a L c) k) → ∀ (m : Nat) (τ : Hp), LtC a L τ → S2 a L τ c k 0 → ∃ τ', rnC N L (m + d) (npN a L (cpN a L c) k) τ = rnC N L m (npN a L (cpN a L c) k + d) τ' ∧ S2 a L τ' c k d ∧ Fr τ τ'
  | 0, _, m, τ, _, h => ⟨τ, rfl, h, Fr.refl τ⟩
  | d + 1, hd, m, τ, hA, h => by
    obtain ⟨τ1, r1, s1, f1⟩ := rdDigits N hn d (by omega) (m + 1) τ hA h
    have hA1 := hA.fr f1
    have g := (dgB_iff _).mp (dgN_in (a := a) (L := L) (npN a L (cpN a L c) k) d (by omega))
    have d3 := dgN_le (a := a) (L := L) (npN a L (cpN a L c) k)
    obtain ⟨τ2, t1, t2, t3⟩ := step_digit N s1 (by omega) rfl g.2.1 g.2.2 hn
    refine ⟨τ2, ?_, t2, f1.trans t3⟩
    rw [show m + (d + 1) = m + 1 + d by omega, r1, rn_step N hA.1 g.1 (hA1.2 _ g.1).2 t1]
    rfl
/-- the class reads what is left of a command -/
theorem rdComm (N : Nat) {c n : Nat} (hn : n = szN (a (cpN a L c))) (hb : nbN a L c ≤ cpN a L c) : ∀ (r k m : Nat) (τ : Hp), k + r = n → 0 < n → LtC a L τ → ((k = 0 ∧ S2 a L τ c 0 0 ∧ npN a L (cpN a L c) 0 ≤ L) ∨ (k ≠ 0 ∧ dgN a L (npN a L (cpN a L c) (k - 1)) ≠ 0 ∧ S2 a L τ c (k - 1) (dgN a L (npN a L (cpN a L c) (k - 1))))) → L < m + (if k = 0 then npN a L (cpN a L c) 0 else npN a L (cpN a L c) k - 1) → (∃ τ' m', rnC N L m (if k = 0 then npN a L (cpN a L c) 0 else npN a L (cpN a L c) k - 1) τ = rnC N L m' (npN a L (cpN a L c) n - 1) τ' ∧ (ceN a L (cpN a L c) n r).1 = true ∧ L < m' + (npN a L (cpN a L c) n - 1) ∧ dgN a L (npN a L (cpN a L c) (n - 1)) ≠ 0 ∧ S2 a L τ' c (n - 1) (dgN a L (npN a L (cpN a L c) (n - 1))) ∧ Fr τ τ') ∨ (∃ τ', rnC N L m (if k = 0 then npN a L (cpN a L c) 0 else npN a L (cpN a L c) k - 1) τ = some (nI (ceN a L (cpN a L c) n r).2, τ') ∧ (ceN a L (cpN a L c) n r).1 = false ∧ (ceN a L (cpN a L c) n r).2 ≤ L ∧ Fr τ τ')
  | 0, k, m, τ, hk, hn0, hA, hs, hm => by
    left
    rw [if_neg (show ¬ k = 0 by omega)] at hm
    rcases hs with ⟨h, -⟩ | ⟨h1, h2, h3⟩
    · omega
    · obtain rfl : k = n := by omega
      exact ⟨τ, m, by rw [if_neg h1], rfl, hm, h2, h3, Fr.refl τ⟩
  | r + 1, k, m, τ, hk, hn0, hA, hs, hm => by
    have hs6 := szN_le (a (cpN a L c))
    have hL := hA.1
    have hkr : n - (r + 1) = k := by omega
    have ge := npN_ge (a := a) (L := L) (cpN a L c) k
    -- first: to the beginning of number k
    have first : (∃ τ1 m1, rnC N L m (if k = 0 then npN a L (cpN a L c) 0 else npN a L (cpN a L c) k - 1) τ = rnC N L m1 (npN a L (cpN a L c) k) τ1 ∧ S2 a L τ1 c k 0 ∧ Fr τ τ1 ∧ L < m1 + npN a L (cpN a L c) k ∧ npN a L (cpN a L c) k ≤ L ∧ ¬ (k ≠ 0 ∧ cmB a L (npN a L (cpN a L c) k - 1) = false)) ∨ (k ≠ 0 ∧ cmB a L (npN a L (cpN a L c) k - 1) = false ∧ npN a L (cpN a L c) k - 1 ≤ L ∧ rnC N L m (if k = 0 then npN a L (cpN a L c) 0 else npN a L (cpN a L c) k - 1) τ = some (nI (npN a L (cpN a L c) k - 1), τ)) := by
      rcases hs with ⟨h, h2, h3⟩ | ⟨h1, h2, h3⟩
      · left
        subst h
        exact ⟨τ, m, rfl, h2, Fr.refl τ, hm, h3, fun q => q.1 rfl⟩
      · rw [if_neg h1] at hm
        obtain ⟨k', rfl⟩ : ∃ k', k = k' + 1 := ⟨k - 1, by omega⟩
        rw [Nat.add_sub_cancel] at h2 h3
        have epos : npN a L (cpN a L c) (k' + 1) = npN a L (cpN a L c) k' + dgN a L (npN a L (cpN a L c) k') + 1 := rfl
        have hend := dgN_end (npN a L (cpN a L c) k') h2
        have d3 := dgN_le (a := a) (L := L) (npN a L (cpN a L c) k')
        have hm2 : npN a L (cpN a L c) (k' + 1) - 1 = npN a L (cpN a L c) k' + dgN a L (npN a L (cpN a L c) k') := by omega
        rw [if_neg (show ¬ k' + 1 = 0 by omega)]
        by_cases z : cmB a L (npN a L (cpN a L c) (k' + 1) - 1) = true
        · left
          have zz := (cmB_iff _).mp z
          obtain ⟨m1, rfl⟩ : ∃ m1, m = m1 + 1 := ⟨m - 1, by omega⟩
          obtain ⟨τ1, t1, t2, t3⟩ := step_comma N h3 h2 (by omega) (by omega)
          refine ⟨τ1, m1, ?_, t2, t3, by omega, by omega, fun q => by rw [z] at q; exact absurd q.2 (by decide)⟩
          have lt := (hA.2 _ zz.1).2
          rw [zz.2] at lt
          rw [rn_step N hL zz.1 lt t1]
          congr 1
        · right
          have zf : cmB a L (npN a L (cpN a L c) (k' + 1) - 1) = false := Bool.eq_false_iff.mpr z
          refine ⟨h1, zf, by omega, ?_⟩
          obtain ⟨m1, rfl⟩ : ∃ m1, m = m1 + 1 := ⟨m - 1, by omega⟩
          by_cases e : npN a L (cpN a L c) (k' + 1) - 1 = L
          · rw [e]
            exact end_S2 N hL d3 h3 (by omega) (by omega)
          · have lt : npN a L (cpN a L c) (k' + 1) - 1 < L := by omega
            refine rn_rej N hL lt (hA.2 _ lt).2 (rej_num N h3 d3 (hA.2 _ lt).1 ?_ ?_ ?_ (by omega))
            · by_cases q : dgN a L (npN a L (cpN a L c) k') = 3
              · exact Or.inl q
              · right
                have out := dgN_out (a := a) (L := L) (npN a L (cpN a L c) k') (by omega)
                rw [← hm2] at out
                intro q2
                have := (dgB_iff (a := a) (L := L) (npN a L (cpN a L c) (k' + 1) - 1)).mpr ⟨lt, q2⟩
                rw [out] at this
                cases this
            · intro q
              have := (cmB_iff (a := a) (L := L) (npN a L (cpN a L c) (k' + 1) - 1)).mpr ⟨lt, q.1⟩
              exact z this
            · omega
    have hce : ceN a L (cpN a L c) n (r + 1) = if k ≠ 0 ∧ cmB a L (npN a L (cpN a L c) k - 1) = false then (false, npN a L (cpN a L c) k - 1) else if dgN a L (npN a L (cpN a L c) k) = 0 then (false, npN a L (cpN a L c) k) else ceN a L (cpN a L c) n r := by
      rw [← hkr]
      rfl
    rcases first with ⟨τ1, m1, r1, s1, f1, l1, l2, nc⟩ | ⟨b1, b2, b3, b4⟩
    · rw [hce, if_neg nc, r1]
      have hA1 := hA.fr f1
      by_cases z : dgN a L (npN a L (cpN a L c) k) = 0
      · right
        rw [if_pos z]
        refine ⟨τ1, ?_, rfl, l2, f1⟩
        obtain ⟨m2, rfl⟩ : ∃ m2, m1 = m2 + 1 := ⟨m1 - 1, by omega⟩
        by_cases e : npN a L (cpN a L c) k = L
        · rw [e]
          exact end_S2 N hL (by omega) s1 (by omega) (by omega)
        · have lt : npN a L (cpN a L c) k < L := by omega
          refine rn_rej N hL lt (hA1.2 _ lt).2 (rej_num N s1 (by omega) (hA1.2 _ lt).1 (Or.inr ?_) (by omega) (by omega) (by omega))
          intro q2
          have out := dgN_out (a := a) (L := L) (npN a L (cpN a L c) k) (by omega)
          rw [z, Nat.add_zero] at out
          have := (dgB_iff (a := a) (L := L) (npN a L (cpN a L c) k)).mpr ⟨lt, q2⟩
          rw [out] at this
          cases this
      · rw [if_neg z]
        have hend := dgN_end (npN a L (cpN a L c) k) z
        obtain ⟨m2, rfl⟩ : ∃ m2, m1 = m2 + dgN a L (npN a L (cpN a L c) k) := ⟨m1 - dgN a L (npN a L (cpN a L c) k), by omega⟩
        obtain ⟨τ2, r2, s2, f2⟩ := rdDigits N (a := a) (L := L) (c := c) (k := k) (by omega) _ (Nat.le_refl _) m2 τ1 hA1 s1
        rw [r2]
        have epos : npN a L (cpN a L c) (k + 1) - 1 = npN a L (cpN a L c) k + dgN a L (npN a L (cpN a L c) k) := by
          show npN a L (cpN a L c) k + dgN a L (npN a L (cpN a L c) k) + 1 - 1 = _
          omega
        have ih := rdComm N hn hb r (k + 1) m2 τ2 (by omega) hn0 (hA1.fr f2) (Or.inr ⟨by omega, by rw [Nat.add_sub_cancel]; exact z, by rw [Nat.add_sub_cancel]; exact s2⟩) (by rw [if_neg (show ¬ k + 1 = 0 by omega)]; omega)
        rw [if_neg (show ¬ k + 1 = 0 by omega), epos] at ih
        rcases ih with ⟨τ', m', q1, q2, q3, q4, q5, q6⟩ | ⟨τ', q1, q2, q3, q4⟩
        · exact Or.inl ⟨τ', m', q1, q2, q3, q4, q5, (f1.trans f2).trans q6⟩
        · exact Or.inr ⟨τ', q1, q2, q3, (f1.trans f2).trans q4⟩
    · right
      rw [hce, if_pos (show k ≠ 0 ∧ cmB a L (npN a L (cpN a L c) k - 1) = false from ⟨b1, b2⟩)]
      exact ⟨τ, b4, rfl, b3, Fr.refl τ⟩
/-- the class reads commands -/
theorem rdText (N : Nat) : ∀ (f c m : Nat) (τ : Hp), LtC a L τ → S0 a L τ c → nbN a L c ≤ cpN a L c → c ≤ cpN a L c → cpN a L c ≤ L → L < m + cpN a L c → L < f + cpN a L c → ∃ τ', Fr τ τ' ∧ ((∃ C, (teN a L f (cpN a L c)).1 = true ∧ TxtN a L c C ∧ τ' 79 4 = nI C ∧ C ≤ 80 ∧ TbC a L τ' C ∧ rnC N L m (cpN a L c) τ = some (-nI 1, τ')) ∨ ((teN a L f (cpN a L c)).1 = false ∧ (teN a L f (cpN a L c)).2 ≤ L ∧ rnC N L m (cpN a L c) τ = some (nI (teN a L f (cpN a L c)).2, τ')))
  | 0, c, m, τ, _, _, _, _, h1, _, h2 => by omega
  | f + 1, c, m, τ, hA, hs, hb, hc, hle, hm, hf => by
    have hL := hA.1
    obtain ⟨m1, rfl⟩ : ∃ m1, m = m1 + 1 := ⟨m - 1, by omega⟩
    by_cases z : cpN a L c < L ∧ szN (a (cpN a L c)) ≠ 0
    · have hte : teN a L (f + 1) (cpN a L c) = if (cmE a L (cpN a L c)).1 then (if (cmE a L (cpN a L c)).2 < L ∧ a (cmE a L (cpN a L c)).2 = 59 then teN a L f ((cmE a L (cpN a L c)).2 + 1) else (decide ((cmE a L (cpN a L c)).2 = L), (cmE a L (cpN a L c)).2)) else (false, (cmE a L (cpN a L c)).2) := by
        rw [← if_pos (t := (if (cmE a L (cpN a L c)).1 then (if (cmE a L (cpN a L c)).2 < L ∧ a (cmE a L (cpN a L c)).2 = 59 then teN a L f ((cmE a L (cpN a L c)).2 + 1) else (decide ((cmE a L (cpN a L c)).2 = L), (cmE a L (cpN a L c)).2)) else (false, (cmE a L (cpN a L c)).2))) (e := (false, cpN a L c)) z]
        rfl
      have lt := hA.2 _ z.1
      obtain ⟨τ1, t1, t2, t3⟩ := step_cmd N hs lt.1 (by omega) (by omega) z.2
      have p0 : npN a L (cpN a L c) 0 = cpN a L c + 1 := rfl
      have rn := rn_step N (m := m1) hL z.1 lt.2 t1
      have cmd := rdComm N (a := a) (L := L) (c := c) rfl hb (szN (a (cpN a L c))) 0 m1 τ1 (by omega) (by omega) (hA.fr t3) (Or.inl ⟨rfl, t2, by omega⟩) (by rw [if_pos rfl]; omega)
      rw [if_pos rfl, p0, ← rn] at cmd
      rw [hte]
      rcases cmd with ⟨τ2, m2, q1, q2, q3, q4, q5, q6⟩ | ⟨τ2, q1, q2, q3, q4⟩
      · have e1 : (cmE a L (cpN a L c)).1 = true := q2
        have e2 := ceN_true (a := a) (L := L) (cpN a L c) (szN (a (cpN a L c))) _ q2
        have e2' : (cmE a L (cpN a L c)).2 = npN a L (cpN a L c) (szN (a (cpN a L c))) - 1 := e2
        have ge := npN_ge (a := a) (L := L) (cpN a L c) (szN (a (cpN a L c)))
        rw [e1, if_pos rfl, q1, ← e2']
        have hA2 := (hA.fr t3).fr q6
        obtain ⟨k', hk'⟩ : ∃ k', szN (a (cpN a L c)) = k' + 1 := ⟨szN (a (cpN a L c)) - 1, by omega⟩
        have hk2 : szN (a (cpN a L c)) - 1 = k' := by omega
        rw [hk2] at q4 q5
        have hend := dgN_end (npN a L (cpN a L c) k') q4
        have epos : npN a L (cpN a L c) (k' + 1) - 1 = npN a L (cpN a L c) k' + dgN a L (npN a L (cpN a L c) k') := by
          show npN a L (cpN a L c) k' + dgN a L (npN a L (cpN a L c) k') + 1 - 1 = _
          omega
        have hpos : (cmE a L (cpN a L c)).2 = npN a L (cpN a L c) k' + dgN a L (npN a L (cpN a L c) k') := by rw [e2', hk', epos]
        have d3 := dgN_le (a := a) (L := L) (npN a L (cpN a L c) k')
        obtain ⟨m3, rfl⟩ : ∃ m3, m2 = m3 + 1 := ⟨m2 - 1, by omega⟩
        have cp1 : cpN a L (c + 1) = (cmE a L (cpN a L c)).2 + 1 := rfl
        by_cases y : (cmE a L (cpN a L c)).2 < L ∧ a (cmE a L (cpN a L c)).2 = 59
        · rw [if_pos y]
          obtain ⟨τ3, u1, u2, u3⟩ := step_semi N q5 q4 (by omega)
          have lt2 := (hA2.2 _ y.1).2
          rw [y.2] at lt2
          rw [rn_step N hL y.1 lt2 u1, ← cp1]
          obtain ⟨τ', g1, g2⟩ := rdText N f (c + 1) m3 τ3 (hA2.fr u3) u2 (by show nbN a L c + szN (a (cpN a L c)) ≤ _; omega) (by omega) (by omega) (by omega) (by omega)
          refine ⟨τ', ((t3.trans q6).trans u3).trans g1, ?_⟩
          rcases g2 with ⟨C, w1, ⟨w2, w3, w4, w5⟩, w6⟩ | w
          · left
            refine ⟨C, w1, ⟨by omega, fun c' c1 c2 => ?_, fun c' c1 c2 => ?_, w5⟩, w6⟩
            · by_cases e : c' = c
              · rw [e]
                exact ⟨z.1, z.2, e1⟩
              · exact w3 c' (by omega) c2
            · by_cases e : c' = c
              · rw [e]
                exact y
              · exact w4 c' (by omega) c2
          · exact Or.inr w
        · rw [if_neg y]
          refine ⟨τ2, t3.trans q6, ?_⟩
          by_cases e : (cmE a L (cpN a L c)).2 = L
          · left
            refine ⟨c + 1, decide_eq_true e, ⟨by omega, fun c' c1 c2 => ?_, fun c' c1 c2 => by omega, by rw [cp1, e]⟩, q5.2.1, by omega, ?_, ?_⟩
            · obtain rfl : c' = c := by omega
              exact ⟨z.1, z.2, e1⟩
            · obtain ⟨s1, s2, s3, s4, s5, s6, s7, s8, s9, s10⟩ := q5
              intro c' hc'
              by_cases e3 : c' = c
              · rw [e3]
                refine ⟨s7, s8, fun j hj => ?_⟩
                by_cases e4 : j = k'
                · rw [e4]
                  exact s10
                · exact s9 j (by omega)
              · exact s6 c' (by omega)
            · rw [e]
              exact end_ok N hL d3 q5 q4 (by omega)
          · right
            refine ⟨decide_eq_false e, by show (cmE a L (cpN a L c)).2 ≤ L; omega, ?_⟩
            have lt2 : (cmE a L (cpN a L c)).2 < L := by omega
            refine rn_rej N hL lt2 (hA2.2 _ lt2).2 (rej_num N q5 d3 (hA2.2 _ lt2).1 ?_ (by omega) (fun q => y ⟨lt2, q.1⟩) (by omega))
            by_cases q : dgN a L (npN a L (cpN a L c) k') = 3
            · exact Or.inl q
            · right
              have out := dgN_out (a := a) (L := L) (npN a L (cpN a L c) k') (by omega)
              rw [← hpos] at out
              intro w2
              have := (dgB_iff (a := a) (L := L) (cmE a L (cpN a L c)).2).mpr ⟨lt2, w2⟩
              rw [out] at this
              cases this
      · have e1 : (cmE a L (cpN a L c)).1 = false := q2
        rw [e1, if_neg (by decide)]
        exact ⟨τ2, t3.trans q4, Or.inr ⟨rfl, q3, q1⟩⟩
    · have hte : teN a L (f + 1) (cpN a L c) = (false, cpN a L c) := if_neg z
      rw [hte]
      refine ⟨τ, Fr.refl τ, Or.inr ⟨rfl, hle, ?_⟩⟩
      by_cases e : cpN a L c = L
      · rw [e]
        exact end_S0 N hL hs
      · have lt : cpN a L c < L := by omega
        have z2 : szN (a (cpN a L c)) = 0 := by
          by_cases q : szN (a (cpN a L c)) = 0
          · exact q
          · exact absurd ⟨lt, q⟩ z
        exact rn_rej N hL lt (hA.2 _ lt).2 (rej_cmd N hs (hA.2 _ lt).1 z2)
end PC
