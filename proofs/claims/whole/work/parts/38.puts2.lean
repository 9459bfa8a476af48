/-! THE PURE PART. Advertisements: faults and changes, on both sides. -/
theorem in_cls2 {α : Type} (x : Int32) (a b : Nat) (y z : α) : (if x < nI a then y else if nI b < x then y else z) = if inB x a b then z else y := by
  unfold inB
  by_cases h : x < nI a
  · rw [if_pos h, decide_eq_true h]
    rfl
  · by_cases h2 : nI b < x
    · rw [if_neg h, if_pos h2, decide_eq_false h, decide_eq_true h2]
      rfl
    · rw [if_neg h, if_neg h2, decide_eq_false h, decide_eq_false h2]
      rfl
theorem in_cls3 {α : Type} (x : Int32) (a b : Nat) (y z : α) : (if x < nI a then y else if x ≤ nI b then z else y) = if inB x a b then z else y := by
  rw [← in_cls2]
  by_cases h : x < nI a
  · rw [if_pos h, if_pos h]
  · rw [if_neg h, if_neg h]
    by_cases h2 : nI b < x
    · rw [if_pos h2, if_neg (fun q => (not_lt_le (nI b) x).mpr q h2)]
    · rw [if_neg h2, if_pos ((not_lt_le (nI b) x).mp h2)]
def takQ (D : Nat → Nat) (p c r w h : Nat) (a : Nat) : Option Nat := if dA D a 0 = 1 ∧ dA D a 1 = p ∧ c < dA D a 2 + dA D a 4 ∧ dA D a 2 < c + w ∧ r < dA D a 3 + dA D a 5 ∧ dA D a 3 < r + h then some a else none
def hitN (D : Nat → Nat) (p c r w h : Nat) : Nat := om (fsN (takQ D p c r w h) 8 0) 0 (fun _ => 1)
theorem hitN_le (D : Nat → Nat) (p c r w h : Nat) : hitN D p c r w h ≤ 1 := by
  unfold hitN
  cases fsN (takQ D p c r w h) 8 0
  · exact Nat.zero_le 1
  · exact Nat.le_refl 1
section F2
variable {σ : Hp} {D : Nat → Nat}
theorem s1_isTaken (N b : Nat) (hN : 500 ≤ N) (hE : EdR σ b D) (hD : DOk D) (p c r w h : Nat) (hp : p ≤ 3) (hc : c ≤ 4) (hr : r ≤ 23) (hw : w ≤ 5) (hh : h ≤ 24) : f1_isTaken N b (nI p) (nI c) (nI r) (nI w) (nI h) σ = some (nI (hitN D p c r w h), σ) := by
  have main := lps (takQ D p c r w h) (fun _ _ => none) (f1_isTaken_B3 N b (nI p) (nI c) (nI r) (nI w) (nI h) (fun σL3 => some (nI 0, σL3))) (fun t j => t (nI j) σ) 8 (fun _ => some (nI 1, σ)) (some (nI 0, σ)) (by
    intro q
    show f1_isTaken_B3 _ _ _ _ _ _ _ _ _ _ _ = _
    unfold f1_isTaken_B3
    simp (disch := omega) only [q_lit, q_gt, q_bd, q_bxl, q_bxr, q_vib, q_cl, q_pos, q_lt, q_le, q_eq, q_neg, q_neg1, q_negz, q_negeq0, q_neg0le, q_rem, q_div, q_sub, q_if1, q_if0, q_okB0, q_okB1, q_dz, q_dn, q_nb, and_true, true_and, and_false, false_and, nI_add, pk_mul, if_true, if_false, ite_true, ite_false, Nat.add_zero, Nat.zero_add, Nat.reduceAdd]) (by
    intro q j hj
    obtain ⟨a0, a1, a2, a3, a4, a5, a6⟩ := hD.2.2.2 j hj
    show f1_isTaken_B3 _ _ _ _ _ _ _ _ _ _ _ = _
    unfold f1_isTaken_B3 f1_isTaken_J79 f1_overlap
    simp (disch := omega) only [q_lit, q_gt, q_bd, q_bxl, q_bxr, q_vib, q_cl, q_pos, q_lt, q_le, q_eq, q_neg, q_neg1, q_negz, q_negeq0, q_neg0le, q_rem, q_div, q_sub, q_if1, q_if0, q_okB0, q_okB1, q_dz, q_dn, q_nb, and_true, true_and, and_false, false_and, nI_add, pk_mul, if_true, if_false, ite_true, ite_false, Nat.add_zero, Nat.zero_add, Nat.reduceAdd, hE.2.2.2.2.1 j hj, s1_an hE]
    unfold takQ
    by_cases z0 : dA D j 0 = 0
    · simp (disch := omega) only [q_lit, q_gt, q_bd, q_bxl, q_bxr, q_vib, q_cl, q_pos, q_lt, q_le, q_eq, q_neg, q_neg1, q_negz, q_negeq0, q_neg0le, q_rem, q_div, q_sub, q_if1, q_if0, q_okB0, q_okB1, q_dz, q_dn, q_nb, and_true, true_and, and_false, false_and, nI_add, pk_mul, if_true, if_false, ite_true, ite_false, Nat.add_zero, Nat.zero_add, Nat.reduceAdd]
      rfl
    · by_cases z1 : dA D j 1 = p
      · by_cases z2 : dA D j 2 + dA D j 4 ≤ c
        · simp (disch := omega) only [q_lit, q_gt, q_bd, q_bxl, q_bxr, q_vib, q_cl, q_pos, q_lt, q_le, q_eq, q_neg, q_neg1, q_negz, q_negeq0, q_neg0le, q_rem, q_div, q_sub, q_if1, q_if0, q_okB0, q_okB1, q_dz, q_dn, q_nb, and_true, true_and, and_false, false_and, nI_add, pk_mul, if_true, if_false, ite_true, ite_false, Nat.add_zero, Nat.zero_add, Nat.reduceAdd]
          rfl
        · by_cases z3 : c + w ≤ dA D j 2
          · simp (disch := omega) only [q_lit, q_gt, q_bd, q_bxl, q_bxr, q_vib, q_cl, q_pos, q_lt, q_le, q_eq, q_neg, q_neg1, q_negz, q_negeq0, q_neg0le, q_rem, q_div, q_sub, q_if1, q_if0, q_okB0, q_okB1, q_dz, q_dn, q_nb, and_true, true_and, and_false, false_and, nI_add, pk_mul, if_true, if_false, ite_true, ite_false, Nat.add_zero, Nat.zero_add, Nat.reduceAdd]
            rfl
          · by_cases z4 : dA D j 3 + dA D j 5 ≤ r
            · simp (disch := omega) only [q_lit, q_gt, q_bd, q_bxl, q_bxr, q_vib, q_cl, q_pos, q_lt, q_le, q_eq, q_neg, q_neg1, q_negz, q_negeq0, q_neg0le, q_rem, q_div, q_sub, q_if1, q_if0, q_okB0, q_okB1, q_dz, q_dn, q_nb, and_true, true_and, and_false, false_and, nI_add, pk_mul, if_true, if_false, ite_true, ite_false, Nat.add_zero, Nat.zero_add, Nat.reduceAdd, s1_an hE]
              rfl
            · by_cases z5 : r + h ≤ dA D j 3
              · simp (disch := omega) only [q_lit, q_gt, q_bd, q_bxl, q_bxr, q_vib, q_cl, q_pos, q_lt, q_le, q_eq, q_neg, q_neg1, q_negz, q_negeq0, q_neg0le, q_rem, q_div, q_sub, q_if1, q_if0, q_okB0, q_okB1, q_dz, q_dn, q_nb, and_true, true_and, and_false, false_and, nI_add, pk_mul, if_true, if_false, ite_true, ite_false, Nat.add_zero, Nat.zero_add, Nat.reduceAdd, s1_an hE]
                rfl
              · simp (disch := omega) only [q_lit, q_gt, q_bd, q_bxl, q_bxr, q_vib, q_cl, q_pos, q_lt, q_le, q_eq, q_neg, q_neg1, q_negz, q_negeq0, q_neg0le, q_rem, q_div, q_sub, q_if1, q_if0, q_okB0, q_okB1, q_dz, q_dn, q_nb, and_true, true_and, and_false, false_and, nI_add, pk_mul, if_true, if_false, ite_true, ite_false, Nat.add_zero, Nat.zero_add, Nat.reduceAdd, s1_an hE]
                rfl
      · simp (disch := omega) only [q_lit, q_gt, q_bd, q_bxl, q_bxr, q_vib, q_cl, q_pos, q_lt, q_le, q_eq, q_neg, q_neg1, q_negz, q_negeq0, q_neg0le, q_rem, q_div, q_sub, q_if1, q_if0, q_okB0, q_okB1, q_dz, q_dn, q_nb, and_true, true_and, and_false, false_and, nI_add, pk_mul, if_true, if_false, ite_true, ite_false, Nat.add_zero, Nat.zero_add, Nat.reduceAdd]
        rfl) 0 N (by omega) (by omega)
  refine Eq.trans (show f1_isTaken N b (nI p) (nI c) (nI r) (nI w) (nI h) σ = _ from main) ?_
  unfold hitN
  cases fsN (takQ D p c r w h) (8 - 0) 0
  · rfl
  · rfl
theorem s6_hits (N : Nat) (hN : 500 ≤ N) (hNw : NwR σ 85 D) (hD : DOk D) (p c r w h : Nat) (hp : p ≤ 3) (hc : c ≤ 4) (hr : r ≤ 23) (hw : w ≤ 5) (hh : h ≤ 24) : f6_hits N (nI p) (nI c) (nI r) (nI w) (nI h) σ = some (nI (hitN D p c r w h), σ) := by
  have main := lps (takQ D p c r w h) (fun _ _ => none) (f6_hits_B3 N (nI p) (nI c) (nI r) (nI w) (nI h) (fun σL3 => some (nI 0, σL3))) (fun t j => t (nI j) σ) 8 (fun _ => some (nI 1, σ)) (some (nI 0, σ)) (by
    intro q
    show f6_hits_B3 _ _ _ _ _ _ _ _ _ _ = _
    unfold f6_hits_B3
    simp (disch := omega) only [q_lit, q_gt, q_bd, q_bxl, q_bxr, q_vib, q_cl, q_pos, q_lt, q_le, q_eq, q_neg, q_neg1, q_negz, q_negeq0, q_neg0le, q_rem, q_div, q_sub, q_if1, q_if0, q_okB0, q_okB1, q_dz, q_dn, q_nb, and_true, true_and, and_false, false_and, nI_add, pk_mul, if_true, if_false, ite_true, ite_false, Nat.add_zero, Nat.zero_add, Nat.reduceAdd]) (by
    intro q j hj
    obtain ⟨a0, a1, a2, a3, a4, a5, a6⟩ := hD.2.2.2 j hj
    show f6_hits_B3 _ _ _ _ _ _ _ _ _ _ = _
    unfold f6_hits_B3 f6_hits_J67 f6_hits_J72 f6_hits_J114
    simp (disch := omega) only [q_lit, q_gt, q_bd, q_bxl, q_bxr, q_vib, q_cl, q_pos, q_lt, q_le, q_eq, q_neg, q_neg1, q_negz, q_negeq0, q_neg0le, q_rem, q_div, q_sub, q_if1, q_if0, q_okB0, q_okB1, q_dz, q_dn, q_nb, and_true, true_and, and_false, false_and, nI_add, pk_mul, if_true, if_false, ite_true, ite_false, Nat.add_zero, Nat.zero_add, Nat.reduceAdd, s6_ad hNw]
    unfold takQ
    by_cases z0 : dA D j 0 = 0
    · simp (disch := omega) only [q_lit, q_gt, q_bd, q_bxl, q_bxr, q_vib, q_cl, q_pos, q_lt, q_le, q_eq, q_neg, q_neg1, q_negz, q_negeq0, q_neg0le, q_rem, q_div, q_sub, q_if1, q_if0, q_okB0, q_okB1, q_dz, q_dn, q_nb, and_true, true_and, and_false, false_and, nI_add, pk_mul, if_true, if_false, ite_true, ite_false, Nat.add_zero, Nat.zero_add, Nat.reduceAdd]
      rfl
    · by_cases z1 : dA D j 1 = p
      · by_cases z2 : dA D j 2 + dA D j 4 ≤ c
        · by_cases z3 : c + w ≤ dA D j 2
          · exfalso
            omega
          · simp (disch := omega) only [q_lit, q_gt, q_bd, q_bxl, q_bxr, q_vib, q_cl, q_pos, q_lt, q_le, q_eq, q_neg, q_neg1, q_negz, q_negeq0, q_neg0le, q_rem, q_div, q_sub, q_if1, q_if0, q_okB0, q_okB1, q_dz, q_dn, q_nb, and_true, true_and, and_false, false_and, nI_add, pk_mul, if_true, if_false, ite_true, ite_false, Nat.add_zero, Nat.zero_add, Nat.reduceAdd]
            rfl
        · by_cases z3 : c + w ≤ dA D j 2
          · simp (disch := omega) only [q_lit, q_gt, q_bd, q_bxl, q_bxr, q_vib, q_cl, q_pos, q_lt, q_le, q_eq, q_neg, q_neg1, q_negz, q_negeq0, q_neg0le, q_rem, q_div, q_sub, q_if1, q_if0, q_okB0, q_okB1, q_dz, q_dn, q_nb, and_true, true_and, and_false, false_and, nI_add, pk_mul, if_true, if_false, ite_true, ite_false, Nat.add_zero, Nat.zero_add, Nat.reduceAdd]
            rfl
          · by_cases z4 : dA D j 3 + dA D j 5 ≤ r
            · simp (disch := omega) only [q_lit, q_gt, q_bd, q_bxl, q_bxr, q_vib, q_cl, q_pos, q_lt, q_le, q_eq, q_neg, q_neg1, q_negz, q_negeq0, q_neg0le, q_rem, q_div, q_sub, q_if1, q_if0, q_okB0, q_okB1, q_dz, q_dn, q_nb, and_true, true_and, and_false, false_and, nI_add, pk_mul, if_true, if_false, ite_true, ite_false, Nat.add_zero, Nat.zero_add, Nat.reduceAdd]
              rfl
            · by_cases z5 : r + h ≤ dA D j 3
              · simp (disch := omega) only [q_lit, q_gt, q_bd, q_bxl, q_bxr, q_vib, q_cl, q_pos, q_lt, q_le, q_eq, q_neg, q_neg1, q_negz, q_negeq0, q_neg0le, q_rem, q_div, q_sub, q_if1, q_if0, q_okB0, q_okB1, q_dz, q_dn, q_nb, and_true, true_and, and_false, false_and, nI_add, pk_mul, if_true, if_false, ite_true, ite_false, Nat.add_zero, Nat.zero_add, Nat.reduceAdd]
                rfl
              · simp (disch := omega) only [q_lit, q_gt, q_bd, q_bxl, q_bxr, q_vib, q_cl, q_pos, q_lt, q_le, q_eq, q_neg, q_neg1, q_negz, q_negeq0, q_neg0le, q_rem, q_div, q_sub, q_if1, q_if0, q_okB0, q_okB1, q_dz, q_dn, q_nb, and_true, true_and, and_false, false_and, nI_add, pk_mul, if_true, if_false, ite_true, ite_false, Nat.add_zero, Nat.zero_add, Nat.reduceAdd]
                rfl
      · simp (disch := omega) only [q_lit, q_gt, q_bd, q_bxl, q_bxr, q_vib, q_cl, q_pos, q_lt, q_le, q_eq, q_neg, q_neg1, q_negz, q_negeq0, q_neg0le, q_rem, q_div, q_sub, q_if1, q_if0, q_okB0, q_okB1, q_dz, q_dn, q_nb, and_true, true_and, and_false, false_and, nI_add, pk_mul, if_true, if_false, ite_true, ite_false, Nat.add_zero, Nat.zero_add, Nat.reduceAdd]
        rfl) 0 N (by omega) (by omega)
  refine Eq.trans (show f6_hits N (nI p) (nI c) (nI r) (nI w) (nI h) σ = _ from main) ?_
  unfold hitN
  cases fsN (takQ D p c r w h) (8 - 0) 0
  · rfl
  · rfl
def fltA (D : Nat → Nat) (x1 x2 x3 x4 x5 x6 : Int32) : Nat :=
  if inB x1 0 3 then if inB x2 0 4 then if inB x3 0 23 then if inB x4 1 (5 - x2.toNatClampNeg) then if inB x5 1 (24 - x3.toNatClampNeg) then if inB x6 1 999 then
    (if D 1 < 8 then (if hitN D x1.toNatClampNeg x2.toNatClampNeg x3.toNatClampNeg x4.toNatClampNeg x5.toNatClampNeg = 0 then 0 else 3) else 3) else 2 else 1 else 1 else 1 else 1 else 1
theorem fltA_le (D : Nat → Nat) (x1 x2 x3 x4 x5 x6 : Int32) : fltA D x1 x2 x3 x4 x5 x6 ≤ 3 := by
  unfold fltA
  repeat' split
  all_goals omega
def adV (p c r w h pr : Nat) : Nat → Nat := fun k => if k = 0 then 1 else if k = 1 then p else if k = 2 then c else if k = 3 then r else if k = 4 then w else if k = 5 then h else pr
def adD (D : Nat → Nat) (p c r w h pr : Nat) : Nat → Nat := fun i => if i = 1 then D 1 + 1 else if 110 + 7 * D 1 ≤ i ∧ i < 117 + 7 * D 1 then adV p c r w h pr (i - (110 + 7 * D 1)) else D i
theorem adD_A {p c r w h pr a k : Nat} (hk : k < 7) : dA (adD D p c r w h pr) a k = if a = D 1 then adV p c r w h pr k else dA D a k := by
  unfold dA adD
  by_cases z : a = D 1
  · rw [if_neg (by omega), if_pos (by omega), if_pos z, z, show 110 + 7 * D 1 + k - (110 + 7 * D 1) = k by omega]
  · rw [if_neg (by omega), if_neg (by omega), if_neg z]
theorem adD_S {p c r w h pr s k : Nat} (hs : s < 12) (hk : k < 9) : dS (adD D p c r w h pr) s k = dS D s k := by
  unfold dS adD
  rw [if_neg (by omega), if_neg (by omega)]
theorem adD_ok (hD : DOk D) {p c r w h pr : Nat} (h1 : D 1 < 8) (hp : p ≤ 3) (hc : c + w ≤ 5) (hw : 1 ≤ w) (hr : r + h ≤ 24) (hh : 1 ≤ h) (hpr : pr ≤ 999) (hpr1 : 1 ≤ pr) : DOk (adD D p c r w h pr) := by
  obtain ⟨d0, d1, d2, d3⟩ := hD
  refine ⟨?_, ?_, fun s hs => ?_, fun a ha => ?_⟩
  · unfold adD
    rw [if_neg (by omega), if_neg (by omega)]
    exact d0
  · show D 1 + 1 ≤ 8
    omega
  · unfold SOk
    rw [adD_S hs (by omega), adD_S hs (by omega), adD_S hs (by omega), adD_S hs (by omega), adD_S hs (by omega), adD_S hs (by omega), adD_S hs (by omega), adD_S hs (by omega), adD_S hs (by omega)]
    exact d2 s hs
  · unfold AOk
    rw [adD_A (by omega), adD_A (by omega), adD_A (by omega), adD_A (by omega), adD_A (by omega), adD_A (by omega), adD_A (by omega)]
    by_cases z : a = D 1
    · simp only [if_pos z]
      refine ⟨Nat.le_refl 1, hp, ?_, ?_, hc, hr, hpr, fun _ => ⟨hw, hh, hpr1⟩⟩
      · show c ≤ 4
        omega
      · show r ≤ 23
        omega
    · simp only [if_neg z]
      exact d3 a ha
theorem s1_faultOfAd (N b : Nat) (hN : 500 ≤ N) (hE : EdR σ b D) (hD : DOk D) (x1 x2 x3 x4 x5 x6 : Int32) : f1_faultOfAdvertisement N b x1 x2 x3 x4 x5 x6 σ = some (nI (fltA D x1 x2 x3 x4 x5 x6), σ) := by
  have d1 := hD.2.1
  unfold f1_faultOfAdvertisement
  rw [s5_isPage, q_bd, hE.2.1]
  unfold fltA
  cases e1 : inB x1 0 3
  · rfl
  rw [if_neg (show ¬ nI (b2 true) = 0 by decide)]
  refine Eq.trans (show _ = _ from in_cls x2 (b := 4) (by omega) _ _) ?_
  cases e2 : inB x2 0 4
  · rfl
  refine Eq.trans (show _ = _ from in_cls x3 (b := 23) (by omega) _ _) ?_
  cases e3 : inB x3 0 23
  · rfl
  obtain ⟨p, p1, p2, rfl⟩ := inB_some e1 (by decide) (by decide)
  obtain ⟨c, c1, c2, rfl⟩ := inB_some e2 (by decide) (by decide)
  obtain ⟨r, r1, r2, rfl⟩ := inB_some e3 (by decide) (by decide)
  rw [q_cl (show c < 2 ^ 31 by omega), q_cl (show r < 2 ^ 31 by omega), q_cl (show p < 2 ^ 31 by omega)]
  rw [if_pos rfl, if_pos rfl, show (5 : Int32) - nI c = nI (5 - c) from q_sub (a := 5) (b := c) (by omega), show (24 : Int32) - nI r = nI (24 - r) from q_sub (a := 24) (b := r) (by omega)]
  refine Eq.trans (show _ = _ from in_cls2 x4 1 (5 - c) _ _) ?_
  cases e4 : inB x4 1 (5 - c)
  · rfl
  refine Eq.trans (show _ = _ from in_cls3 x5 1 (24 - r) _ _) ?_
  cases e5 : inB x5 1 (24 - r)
  · rfl
  refine Eq.trans (show _ = _ from in_cls3 x6 1 999 _ _) ?_
  cases e6 : inB x6 1 999
  · rfl
  obtain ⟨w, w1, w2, rfl⟩ := inB_some e4 (by omega) (by omega)
  obtain ⟨h, h1, h2, rfl⟩ := inB_some e5 (by omega) (by omega)
  have hh := hitN_le D p c r w h
  rw [if_pos rfl, if_pos rfl, if_pos rfl]
  simp (disch := omega) only [q_lit, q_gt, q_bd, q_bxl, q_bxr, q_vib, q_cl, q_pos, q_lt, q_le, q_eq, q_neg, q_neg1, q_negz, q_negeq0, q_neg0le, q_rem, q_div, q_sub, q_if1, q_if0, q_okB0, q_okB1, q_dz, q_dn, q_nb, and_true, true_and, and_false, false_and, nI_add, pk_mul, if_true, if_false, ite_true, ite_false, Nat.add_zero, Nat.zero_add, Nat.reduceAdd, s1_isTaken N b hN hE hD]
  by_cases z : D 1 < 8
  · simp (disch := omega) only [q_lit, q_gt, q_bd, q_bxl, q_bxr, q_vib, q_cl, q_pos, q_lt, q_le, q_eq, q_neg, q_neg1, q_negz, q_negeq0, q_neg0le, q_rem, q_div, q_sub, q_if1, q_if0, q_okB0, q_okB1, q_dz, q_dn, q_nb, and_true, true_and, and_false, false_and, nI_add, pk_mul, if_true, if_false, ite_true, ite_false, Nat.add_zero, Nat.zero_add, Nat.reduceAdd]
    rcases bit_cases hh with e | e
    · rw [e]
      simp (disch := omega) only [q_lit, q_gt, q_bd, q_bxl, q_bxr, q_vib, q_cl, q_pos, q_lt, q_le, q_eq, q_neg, q_neg1, q_negz, q_negeq0, q_neg0le, q_rem, q_div, q_sub, q_if1, q_if0, q_okB0, q_okB1, q_dz, q_dn, q_nb, and_true, true_and, and_false, false_and, nI_add, pk_mul, if_true, if_false, ite_true, ite_false, Nat.add_zero, Nat.zero_add, Nat.reduceAdd]
    · rw [e]
      simp (disch := omega) only [q_lit, q_gt, q_bd, q_bxl, q_bxr, q_vib, q_cl, q_pos, q_lt, q_le, q_eq, q_neg, q_neg1, q_negz, q_negeq0, q_neg0le, q_rem, q_div, q_sub, q_if1, q_if0, q_okB0, q_okB1, q_dz, q_dn, q_nb, and_true, true_and, and_false, false_and, nI_add, pk_mul, if_true, if_false, ite_true, ite_false, Nat.add_zero, Nat.zero_add, Nat.reduceAdd]
  · simp (disch := omega) only [q_lit, q_gt, q_bd, q_bxl, q_bxr, q_vib, q_cl, q_pos, q_lt, q_le, q_eq, q_neg, q_neg1, q_negz, q_negeq0, q_neg0le, q_rem, q_div, q_sub, q_if1, q_if0, q_okB0, q_okB1, q_dz, q_dn, q_nb, and_true, true_and, and_false, false_and, nI_add, pk_mul, if_true, if_false, ite_true, ite_false, Nat.add_zero, Nat.zero_add, Nat.reduceAdd]
theorem fltA_ok {x1 x2 x3 x4 x5 x6 : Int32} (h : fltA D x1 x2 x3 x4 x5 x6 = 0) : D 1 < 8 ∧ ∃ p c r w hh pr : Nat, x1 = nI p ∧ x2 = nI c ∧ x3 = nI r ∧ x4 = nI w ∧ x5 = nI hh ∧ x6 = nI pr ∧ p ≤ 3 ∧ c + w ≤ 5 ∧ 1 ≤ w ∧ r + hh ≤ 24 ∧ 1 ≤ hh ∧ 1 ≤ pr ∧ pr ≤ 999 ∧ hitN D p c r w hh = 0 := by
  unfold fltA at h
  cases e1 : inB x1 0 3
  · rw [e1] at h
    exact absurd (show (1 : Nat) = 0 from h) (by decide)
  rw [e1, if_pos rfl] at h
  cases e2 : inB x2 0 4
  · rw [e2] at h
    exact absurd (show (1 : Nat) = 0 from h) (by decide)
  rw [e2, if_pos rfl] at h
  cases e3 : inB x3 0 23
  · rw [e3] at h
    exact absurd (show (1 : Nat) = 0 from h) (by decide)
  rw [e3, if_pos rfl] at h
  obtain ⟨p, p1, p2, rfl⟩ := inB_some e1 (by decide) (by decide)
  obtain ⟨c, c1, c2, rfl⟩ := inB_some e2 (by decide) (by decide)
  obtain ⟨r, r1, r2, rfl⟩ := inB_some e3 (by decide) (by decide)
  rw [q_cl (show p < 2 ^ 31 by omega), q_cl (show c < 2 ^ 31 by omega), q_cl (show r < 2 ^ 31 by omega)] at h
  cases e4 : inB x4 1 (5 - c)
  · rw [e4] at h
    exact absurd (show (1 : Nat) = 0 from h) (by decide)
  rw [e4, if_pos rfl] at h
  cases e5 : inB x5 1 (24 - r)
  · rw [e5] at h
    exact absurd (show (1 : Nat) = 0 from h) (by decide)
  rw [e5, if_pos rfl] at h
  cases e6 : inB x6 1 999
  · rw [e6] at h
    exact absurd (show (2 : Nat) = 0 from h) (by decide)
  rw [e6, if_pos rfl] at h
  obtain ⟨w, w1, w2, rfl⟩ := inB_some e4 (by omega) (by omega)
  obtain ⟨hh, h1, h2, rfl⟩ := inB_some e5 (by omega) (by omega)
  obtain ⟨pr, q1, q2, rfl⟩ := inB_some e6 (by omega) (by omega)
  rw [q_cl (show w < 2 ^ 31 by omega), q_cl (show hh < 2 ^ 31 by omega)] at h
  by_cases z : D 1 < 8
  · rw [if_pos z] at h
    by_cases z2 : hitN D p c r w hh = 0
    · exact ⟨z, p, c, r, w, hh, pr, rfl, rfl, rfl, rfl, rfl, rfl, p2, by omega, w1, by omega, h1, q1, q2, z2⟩
    · rw [if_neg z2] at h
      exact absurd (show (3 : Nat) = 0 from h) (by decide)
  · rw [if_neg z] at h
    exact absurd (show (3 : Nat) = 0 from h) (by decide)
theorem s1_putAd (N b : Nat) (hE : EdR σ b D) (h1 : D 1 < 8) (p c r w h pr : Nat) : ∃ σ', f1_putAdvertisement N b (nI p) (nI c) (nI r) (nI w) (nI h) (nI pr) σ = some (nI (D 1), σ') ∧ EdR σ' b (adD D p c r w h pr) ∧ ∀ k, k < b ∨ b + 4 < k → σ' k = σ k := by
  obtain ⟨e1, e2, e3, e4, e5, e6⟩ := hE
  unfold f1_putAdvertisement
  simp (disch := omega) only [q_lit, q_gt, q_bd, q_bxl, q_bxr, q_vib, q_cl, q_pos, q_lt, q_le, q_eq, q_neg, q_neg1, q_negz, q_negeq0, q_neg0le, q_rem, q_div, q_sub, q_if1, q_if0, q_okB0, q_okB1, q_dz, q_dn, q_nb, and_true, true_and, and_false, false_and, nI_add, pk_mul, if_true, if_false, ite_true, ite_false, Nat.add_zero, Nat.zero_add, Nat.reduceAdd, e2, s5_isAdIndex]
  refine ⟨_, rfl, ⟨?_, ?_, ?_, ?_, ?_, ?_⟩, ?_⟩
  · simp (disch := omega) only [q_lit, q_gt, q_bd, q_bxl, q_bxr, q_vib, q_cl, q_pos, q_lt, q_le, q_eq, q_neg, q_neg1, q_negz, q_negeq0, q_neg0le, q_rem, q_div, q_sub, q_if1, q_if0, q_okB0, q_okB1, q_dz, q_dn, q_nb, and_true, true_and, and_false, false_and, nI_add, pk_mul, if_true, if_false, ite_true, ite_false, Nat.add_zero, Nat.zero_add, Nat.reduceAdd, st_row, st_get]
    rw [e1]
    unfold adD
    simp (disch := omega) only [q_lit, q_gt, q_bd, q_bxl, q_bxr, q_vib, q_cl, q_pos, q_lt, q_le, q_eq, q_neg, q_neg1, q_negz, q_negeq0, q_neg0le, q_rem, q_div, q_sub, q_if1, q_if0, q_okB0, q_okB1, q_dz, q_dn, q_nb, and_true, true_and, and_false, false_and, nI_add, pk_mul, if_true, if_false, ite_true, ite_false, Nat.add_zero, Nat.zero_add, Nat.reduceAdd]
  · simp (disch := omega) only [q_lit, q_gt, q_bd, q_bxl, q_bxr, q_vib, q_cl, q_pos, q_lt, q_le, q_eq, q_neg, q_neg1, q_negz, q_negeq0, q_neg0le, q_rem, q_div, q_sub, q_if1, q_if0, q_okB0, q_okB1, q_dz, q_dn, q_nb, and_true, true_and, and_false, false_and, nI_add, pk_mul, if_true, if_false, ite_true, ite_false, Nat.add_zero, Nat.zero_add, Nat.reduceAdd, st_row, st_get]
    rfl
  · intro s hs
    rw [adD_S hs (by omega)]
    simp (disch := omega) only [q_lit, q_gt, q_bd, q_bxl, q_bxr, q_vib, q_cl, q_pos, q_lt, q_le, q_eq, q_neg, q_neg1, q_negz, q_negeq0, q_neg0le, q_rem, q_div, q_sub, q_if1, q_if0, q_okB0, q_okB1, q_dz, q_dn, q_nb, and_true, true_and, and_false, false_and, nI_add, pk_mul, if_true, if_false, ite_true, ite_false, Nat.add_zero, Nat.zero_add, Nat.reduceAdd, st_row]
    exact e3 s hs
  · intro s k hs hk
    rw [adD_S hs (by omega)]
    simp (disch := omega) only [q_lit, q_gt, q_bd, q_bxl, q_bxr, q_vib, q_cl, q_pos, q_lt, q_le, q_eq, q_neg, q_neg1, q_negz, q_negeq0, q_neg0le, q_rem, q_div, q_sub, q_if1, q_if0, q_okB0, q_okB1, q_dz, q_dn, q_nb, and_true, true_and, and_false, false_and, nI_add, pk_mul, if_true, if_false, ite_true, ite_false, Nat.add_zero, Nat.zero_add, Nat.reduceAdd, st_row]
    exact e4 s k hs hk
  · intro a ha
    rw [adD_A (by omega)]
    simp (disch := omega) only [q_lit, q_gt, q_bd, q_bxl, q_bxr, q_vib, q_cl, q_pos, q_lt, q_le, q_eq, q_neg, q_neg1, q_negz, q_negeq0, q_neg0le, q_rem, q_div, q_sub, q_if1, q_if0, q_okB0, q_okB1, q_dz, q_dn, q_nb, and_true, true_and, and_false, false_and, nI_add, pk_mul, if_true, if_false, ite_true, ite_false, Nat.add_zero, Nat.zero_add, Nat.reduceAdd, st_row, st_get]
    by_cases z : a = D 1
    · rw [if_pos z, if_pos z]
      rfl
    · rw [if_neg z, if_neg z]
      exact e5 a ha
  · intro a k ha hk
    rw [adD_A (by omega)]
    by_cases z : a = D 1
    · rw [if_pos z, z]
      obtain rfl | rfl | rfl | rfl | rfl | rfl : k = 0 ∨ k = 1 ∨ k = 2 ∨ k = 3 ∨ k = 4 ∨ k = 5 := by omega
      all_goals
        simp (disch := omega) only [q_lit, q_gt, q_bd, q_bxl, q_bxr, q_vib, q_cl, q_pos, q_lt, q_le, q_eq, q_neg, q_neg1, q_negz, q_negeq0, q_neg0le, q_rem, q_div, q_sub, q_if1, q_if0, q_okB0, q_okB1, q_dz, q_dn, q_nb, and_true, true_and, and_false, false_and, nI_add, pk_mul, if_true, if_false, ite_true, ite_false, Nat.add_zero, Nat.zero_add, Nat.reduceAdd, st_get, adV]
    · rw [if_neg z]
      simp (disch := omega) only [q_lit, q_gt, q_bd, q_bxl, q_bxr, q_vib, q_cl, q_pos, q_lt, q_le, q_eq, q_neg, q_neg1, q_negz, q_negeq0, q_neg0le, q_rem, q_div, q_sub, q_if1, q_if0, q_okB0, q_okB1, q_dz, q_dn, q_nb, and_true, true_and, and_false, false_and, nI_add, pk_mul, if_true, if_false, ite_true, ite_false, Nat.add_zero, Nat.zero_add, Nat.reduceAdd, st_get]
      exact e6 a k ha hk
  · intro k hk
    simp (disch := omega) only [q_lit, q_gt, q_bd, q_bxl, q_bxr, q_vib, q_cl, q_pos, q_lt, q_le, q_eq, q_neg, q_neg1, q_negz, q_negeq0, q_neg0le, q_rem, q_div, q_sub, q_if1, q_if0, q_okB0, q_okB1, q_dz, q_dn, q_nb, and_true, true_and, and_false, false_and, nI_add, pk_mul, if_true, if_false, ite_true, ite_false, Nat.add_zero, Nat.zero_add, Nat.reduceAdd, st_row]
theorem s6_J57 (N : Nat) (x1 x2 x3 x4 x5 x6 : Int32) (σ : Hp) : f6_laysAd_J57 N x1 x2 x3 x4 x5 x6 σ = some (nI 0, st σ 84 0 (nI 1)) := by
  unfold f6_laysAd_J57 f6_laysAd_J58 f6_fails
  rw [if_pos rfl]
  rfl
theorem s6_laysAd_f (N : Nat) (hN : 500 ≤ N) (hNw : NwR σ 85 D) (hD : DOk D) (x1 x2 x3 x4 x5 x6 : Int32) (f : Nat) (hf : fltA D x1 x2 x3 x4 x5 x6 = f) (hf0 : f ≠ 0) : f6_laysAd N x1 x2 x3 x4 x5 x6 σ = some (nI 0, st σ 84 0 (nI f)) := by
  have d1 := hD.2.1
  have e0 := hNw 1 (by omega)
  unfold fltA at hf
  have bf : ¬ ¬ nI (b2 false) = 0 := by decide
  have bt : ¬ nI (b2 true) = 0 := by decide
  unfold f6_laysAd
  rw [show f6_in N x1 0 3 σ = some (nI (b2 (inB x1 0 3)), σ) from s6_in N x1 0 3, q_bd]
  cases e1 : inB x1 0 3
  · rw [e1] at hf
    rw [← hf, if_pos (by decide), s6_J57]
    rfl
  rw [e1, if_pos rfl] at hf
  rw [if_neg bt, show f6_in N x2 0 4 σ = some (nI (b2 (inB x2 0 4)), σ) from s6_in N x2 0 4, q_bd]
  cases e2 : inB x2 0 4
  · rw [e2] at hf
    rw [← hf, if_pos (by decide), s6_J57]
    rfl
  rw [e2, if_pos rfl] at hf
  rw [if_neg bt, show f6_in N x3 0 23 σ = some (nI (b2 (inB x3 0 23)), σ) from s6_in N x3 0 23, q_bd]
  cases e3 : inB x3 0 23
  · rw [e3] at hf
    rw [← hf, if_pos (by decide), s6_J57]
    rfl
  rw [e3, if_pos rfl] at hf
  rw [if_neg bt]
  obtain ⟨p, p1, p2, rfl⟩ := inB_some e1 (by decide) (by decide)
  obtain ⟨c, c1, c2, rfl⟩ := inB_some e2 (by decide) (by decide)
  obtain ⟨r, r1, r2, rfl⟩ := inB_some e3 (by decide) (by decide)
  rw [q_cl (show p < 2 ^ 31 by omega), q_cl (show c < 2 ^ 31 by omega), q_cl (show r < 2 ^ 31 by omega)] at hf
  rw [show (5 : Int32) - nI c = nI (5 - c) from q_sub (a := 5) (b := c) (by omega), show (24 : Int32) - nI r = nI (24 - r) from q_sub (a := 24) (b := r) (by omega)]
  rw [show f6_in N x4 1 (nI (5 - c)) σ = some (nI (b2 (inB x4 1 (5 - c))), σ) from s6_in N x4 1 (5 - c), q_bd]
  cases e4 : inB x4 1 (5 - c)
  · rw [e4] at hf
    rw [← hf, if_pos (by decide), s6_J57]
    rfl
  rw [e4, if_pos rfl] at hf
  rw [if_neg bt, show f6_in N x5 1 (nI (24 - r)) σ = some (nI (b2 (inB x5 1 (24 - r))), σ) from s6_in N x5 1 (24 - r), q_bd]
  cases e5 : inB x5 1 (24 - r)
  · rw [e5] at hf
    rw [← hf, if_pos (by decide), s6_J57]
    rfl
  rw [e5, if_pos rfl] at hf
  rw [if_neg bt]
  unfold f6_laysAd_J58 f6_laysAd_J118 f6_fails
  rw [if_neg (show ¬ (1 : Int32) = 0 by decide), show f6_in N x6 1 999 σ = some (nI (b2 (inB x6 1 999)), σ) from s6_in N x6 1 999, q_bd]
  cases e6 : inB x6 1 999
  · rw [e6] at hf
    rw [← hf]
    rfl
  rw [e6, if_pos rfl] at hf
  rw [if_neg bt]
  obtain ⟨w, w1, w2, rfl⟩ := inB_some e4 (by omega) (by omega)
  obtain ⟨h, h1, h2, rfl⟩ := inB_some e5 (by omega) (by omega)
  rw [q_cl (show w < 2 ^ 31 by omega), q_cl (show h < 2 ^ 31 by omega)] at hf
  have hh := hitN_le D p c r w h
  simp (disch := omega) only [q_lit, q_gt, q_bd, q_bxl, q_bxr, q_vib, q_cl, q_pos, q_lt, q_le, q_eq, q_neg, q_neg1, q_negz, q_negeq0, q_neg0le, q_rem, q_div, q_sub, q_if1, q_if0, q_okB0, q_okB1, q_dz, q_dn, q_nb, and_true, true_and, and_false, false_and, nI_add, pk_mul, if_true, if_false, ite_true, ite_false, Nat.add_zero, Nat.zero_add, Nat.reduceAdd, e0, s6_hits N hN hNw hD]
  by_cases z : D 1 < 8
  · rw [if_pos z] at hf
    rcases bit_cases hh with e | e
    · rw [e, if_pos rfl] at hf
      omega
    · rw [e, if_neg (by omega)] at hf
      rw [e, ← hf]
      simp (disch := omega) only [q_lit, q_gt, q_bd, q_bxl, q_bxr, q_vib, q_cl, q_pos, q_lt, q_le, q_eq, q_neg, q_neg1, q_negz, q_negeq0, q_neg0le, q_rem, q_div, q_sub, q_if1, q_if0, q_okB0, q_okB1, q_dz, q_dn, q_nb, and_true, true_and, and_false, false_and, nI_add, pk_mul, if_true, if_false, ite_true, ite_false, Nat.add_zero, Nat.zero_add, Nat.reduceAdd]
  · rw [if_neg z] at hf
    rw [← hf]
    simp (disch := omega) only [q_lit, q_gt, q_bd, q_bxl, q_bxr, q_vib, q_cl, q_pos, q_lt, q_le, q_eq, q_neg, q_neg1, q_negz, q_negeq0, q_neg0le, q_rem, q_div, q_sub, q_if1, q_if0, q_okB0, q_okB1, q_dz, q_dn, q_nb, and_true, true_and, and_false, false_and, nI_add, pk_mul, if_true, if_false, ite_true, ite_false, Nat.add_zero, Nat.zero_add, Nat.reduceAdd]
theorem s6_laysAd_ok (N : Nat) (hN : 500 ≤ N) (hNw : NwR σ 85 D) (hD : DOk D) (p c r w h pr : Nat) (h1 : D 1 < 8) (hp : p ≤ 3) (hc : c + w ≤ 5) (hw : 1 ≤ w) (hr : r + h ≤ 24) (hh : 1 ≤ h) (hpr : 1 ≤ pr) (hpr2 : pr ≤ 999) (hz : hitN D p c r w h = 0) : ∃ σ', f6_laysAd N (nI p) (nI c) (nI r) (nI w) (nI h) (nI pr) σ = some (nI (D 1), σ') ∧ NwR σ' 85 (adD D p c r w h pr) ∧ ∀ k, k ≠ 85 → σ' k = σ k := by
  have e0 := hNw 1 (by omega)
  have i1 : inB (nI p) 0 3 = true := by rw [inB_nI (by omega) (by omega) (by omega)]; exact decide_eq_true (by omega)
  have i2 : inB (nI c) 0 4 = true := by rw [inB_nI (by omega) (by omega) (by omega)]; exact decide_eq_true (by omega)
  have i3 : inB (nI r) 0 23 = true := by rw [inB_nI (by omega) (by omega) (by omega)]; exact decide_eq_true (by omega)
  have i4 : inB (nI w) 1 (5 - c) = true := by rw [inB_nI (by omega) (by omega) (by omega)]; exact decide_eq_true (by omega)
  have i5 : inB (nI h) 1 (24 - r) = true := by rw [inB_nI (by omega) (by omega) (by omega)]; exact decide_eq_true (by omega)
  have i6 : inB (nI pr) 1 999 = true := by rw [inB_nI (by omega) (by omega) (by omega)]; exact decide_eq_true (by omega)
  unfold f6_laysAd f6_laysAd_J57 f6_laysAd_J58
  simp (disch := omega) only [q_lit, q_gt, q_bd, q_bxl, q_bxr, q_vib, q_cl, q_pos, q_lt, q_le, q_eq, q_neg, q_neg1, q_negz, q_negeq0, q_neg0le, q_rem, q_div, q_sub, q_if1, q_if0, q_okB0, q_okB1, q_dz, q_dn, q_nb, and_true, true_and, and_false, false_and, nI_add, pk_mul, if_true, if_false, ite_true, ite_false, Nat.add_zero, Nat.zero_add, Nat.reduceAdd, s6_in, i1, i2, i3, i4, i5, i6, b2, e0, s6_hits N hN hNw hD, hz]
  refine ⟨_, rfl, ?_, ?_⟩
  · intro i hi
    unfold adD
    by_cases z : i = 1
    · rw [if_pos z, z]
      simp (disch := omega) only [q_lit, q_gt, q_bd, q_bxl, q_bxr, q_vib, q_cl, q_pos, q_lt, q_le, q_eq, q_neg, q_neg1, q_negz, q_negeq0, q_neg0le, q_rem, q_div, q_sub, q_if1, q_if0, q_okB0, q_okB1, q_dz, q_dn, q_nb, and_true, true_and, and_false, false_and, nI_add, pk_mul, if_true, if_false, ite_true, ite_false, Nat.add_zero, Nat.zero_add, Nat.reduceAdd, st_get, e0]
    · rw [if_neg z]
      by_cases z2 : 110 + 7 * D 1 ≤ i ∧ i < 117 + 7 * D 1
      · rw [if_pos z2]
        obtain ⟨k, rfl⟩ : ∃ k, i = 110 + 7 * D 1 + k := ⟨i - (110 + 7 * D 1), by omega⟩
        rw [show 110 + 7 * D 1 + k - (110 + 7 * D 1) = k by omega]
        obtain rfl | rfl | rfl | rfl | rfl | rfl | rfl : k = 0 ∨ k = 1 ∨ k = 2 ∨ k = 3 ∨ k = 4 ∨ k = 5 ∨ k = 6 := by omega
        all_goals
          simp (disch := omega) only [q_lit, q_gt, q_bd, q_bxl, q_bxr, q_vib, q_cl, q_pos, q_lt, q_le, q_eq, q_neg, q_neg1, q_negz, q_negeq0, q_neg0le, q_rem, q_div, q_sub, q_if1, q_if0, q_okB0, q_okB1, q_dz, q_dn, q_nb, and_true, true_and, and_false, false_and, nI_add, pk_mul, if_true, if_false, ite_true, ite_false, Nat.add_zero, Nat.zero_add, Nat.reduceAdd, st_get, adV]
      · rw [if_neg z2]
        simp (disch := omega) only [q_lit, q_gt, q_bd, q_bxl, q_bxr, q_vib, q_cl, q_pos, q_lt, q_le, q_eq, q_neg, q_neg1, q_negz, q_negeq0, q_neg0le, q_rem, q_div, q_sub, q_if1, q_if0, q_okB0, q_okB1, q_dz, q_dn, q_nb, and_true, true_and, and_false, false_and, nI_add, pk_mul, if_true, if_false, ite_true, ite_false, Nat.add_zero, Nat.zero_add, Nat.reduceAdd, st_get]
        exact hNw i hi
  · intro k hk
    simp (disch := omega) only [q_lit, q_gt, q_bd, q_bxl, q_bxr, q_vib, q_cl, q_pos, q_lt, q_le, q_eq, q_neg, q_neg1, q_negz, q_negeq0, q_neg0le, q_rem, q_div, q_sub, q_if1, q_if0, q_okB0, q_okB1, q_dz, q_dn, q_nb, and_true, true_and, and_false, false_and, nI_add, pk_mul, if_true, if_false, ite_true, ite_false, Nat.add_zero, Nat.zero_add, Nat.reduceAdd, st_row]
end F2
