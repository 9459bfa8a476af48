/-! the law's loop -/
abbrev LL (E : En) (b : Nat) (x5 : Int32) : List (Nat × Value) := [(0, .ref b), (1, .ref (ea E 0)), (2, .ref (ea E 84)), (3, .ref (ea E 100)), (4, .ref (ea E 101)), (5, .int x5)]
theorem low5 (x : Int32) : ∃ v, v < 32 ∧ x &&& 31 = nI v := by
  refine ⟨x.toBitVec.toNat % 32, Nat.mod_lt _ (by decide), ?_⟩
  apply Int32.toBitVec_inj.mp
  apply BitVec.eq_of_toNat_eq
  have h1 : (x &&& 31).toBitVec.toNat = x.toBitVec.toNat &&& 31 := by
    rw [Int32.toBitVec_and, BitVec.toNat_and]
    rfl
  have h2 : (nI (x.toBitVec.toNat % 32)).toBitVec.toNat = (x.toBitVec.toNat % 32) % 2 ^ 32 := by
    show (BitVec.ofNat 32 (x.toBitVec.toNat % 32)).toNat = _
    rw [BitVec.toNat_ofNat]
  rw [h1, h2, show (31 : Nat) = 2 ^ 5 - 1 by decide, Nat.and_two_pow_sub_one_eq_mod]
  omega
noncomputable def goOn (σ : Hp) : Option Unit := @ite (Option Unit) (Inv σ) (Classical.propDecidable (Inv σ)) (some ()) none
theorem goOn_pos {σ : Hp} (h : Inv σ) : goOn σ = some () := by
  unfold goOn
  exact if_pos h
theorem goOn_neg {σ : Hp} (h : ¬ Inv σ) : goOn σ = none := by
  unfold goOn
  exact if_neg h
theorem past {Ls i : Nat} (hL : Ls < 100000) (hi : i ≤ Ls) : (Int32.ofNat Ls - 7 < nI i) = (Ls < i + 7) := by
  apply propext
  have e7 : (7 : Int32) = nI 7 := rfl
  by_cases h : 7 ≤ Ls
  · rw [show Int32.ofNat Ls = nI Ls from rfl, e7, q_sub h, nI_ltI (by omega) (by omega)]
    omega
  · have h1 : (Int32.ofNat Ls - 7).toInt = (Ls : Int) - 7 := by
      have : Ls = 0 ∨ Ls = 1 ∨ Ls = 2 ∨ Ls = 3 ∨ Ls = 4 ∨ Ls = 5 ∨ Ls = 6 := by omega
      rcases this with rfl | rfl | rfl | rfl | rfl | rfl | rfl <;> decide
    rw [Int32.lt_iff_toInt_lt, h1, nI_toInt (by omega)]
    omega
set_option maxHeartbeats 4000000 in
set_option maxRecDepth 100000 in
theorem one_case {E : En} {p : Program} {l : Launch} {e : Env} {s : State} {m : MethodId} {args : Array Value} {below : List Frame} {meth : Method} {c : Code} {Q : Unit → State → Prop} {b Ls : Nat} {xs : Nat → Int32} (C : Cx E 9 p s m args c code RL) (hT : l.stackTraces = false) (hX : Sc E s b Ls xs) (hLs : Ls < 100000) {i k n : Nat} {σ : Hp} (hi : i + 7 ≤ Ls) (hI : Inv σ) (hk : k + 3 ≤ 601024) (hn : n + 18 ≤ 7293034) (go : ∀ σ, Inv σ → J E 9 p l e room_1 s m args below meth c Q (some ()) 2228 (LL E b (nI i)) [] σ (k + 3) (n + 18)) : J E 9 p l e room_1 s m args below meth c Q (some ()) 45 (LL E b (nI i)) [.int (xs i &&& 31)] σ k n := by
  have HK : ∀ σ, J E 9 p l e room_1 s m args below meth c Q (goOn σ) 2228 (LL E b (nI i)) [] σ (k + 3) (n + 18) := by
    intro σ
    by_cases h : Inv σ
    · rw [goOn_pos h]
      exact go σ h
    · rw [goOn_neg h]
      exact j_none
  obtain ⟨v, hv, hx⟩ := low5 (xs i)
  have hc : v = 0 ∨ v = 1 ∨ v = 2 ∨ v = 3 ∨ v = 4 ∨ v = 5 ∨ v = 6 ∨ v = 7 ∨ v = 8 ∨ v = 9 ∨ v = 10 ∨ v = 11 ∨ v = 12 ∨ v = 13 ∨ v = 14 ∨ v = 15 ∨ v = 16 ∨ v = 17 ∨ v = 18 ∨ v = 19 ∨ v = 20 ∨ v = 21 ∨ v = 22 ∨ v = 23 ∨ v = 24 ∨ v = 25 ∨ v = 26 ∨ v = 27 ∨ v = 28 ∨ v = 29 ∨ v = 30 ∨ v = 31 := by omega
  rcases hc with rfl | rfl | rfl | rfl | rfl | rfl | rfl | rfl | rfl | rfl | rfl | rfl | rfl | rfl | rfl | rfl | rfl | rfl | rfl | rfl | rfl | rfl | rfl | rfl | rfl | rfl | rfl | rfl | rfl | rfl | rfl | rfl
  · obtain ⟨σ', g1, g2⟩ := ok_case0 hI 500 (Nat.le_refl _) xs Ls i hi hLs goOn
    refine j_tin (off := 135) 180 C dL_law_45 hx (by decide) (by decide) (by decide) (by decide) ?_
    rw [← goOn_pos g1, ← g2]
    exact wcase0 500 C hT hX hk hn (nI i) goOn HK σ
  · obtain ⟨σ', g1, g2⟩ := ok_case1 hI 500 (Nat.le_refl _) xs Ls i hi hLs goOn
    refine j_tin (off := 253) 298 C dL_law_45 hx (by decide) (by decide) (by decide) (by decide) ?_
    rw [← goOn_pos g1, ← g2]
    exact wcase1 500 C hT hX hk hn (nI i) goOn HK σ
  · obtain ⟨σ', g1, g2⟩ := ok_case2 hI 500 (Nat.le_refl _) xs Ls i hi hLs goOn
    refine j_tin (off := 357) 402 C dL_law_45 hx (by decide) (by decide) (by decide) (by decide) ?_
    rw [← goOn_pos g1, ← g2]
    exact wcase2 500 C hT hX hk hn (nI i) goOn HK σ
  · obtain ⟨σ', g1, g2⟩ := ok_case3 hI 500 (Nat.le_refl _) xs Ls i hi hLs goOn
    refine j_tin (off := 437) 482 C dL_law_45 hx (by decide) (by decide) (by decide) (by decide) ?_
    rw [← goOn_pos g1, ← g2]
    exact wcase3 500 C hT hX hk hn (nI i) goOn HK σ
  · obtain ⟨σ', g1, g2⟩ := ok_case4 hI 500 (Nat.le_refl _) xs Ls i hi hLs goOn
    refine j_tin (off := 528) 573 C dL_law_45 hx (by decide) (by decide) (by decide) (by decide) ?_
    rw [← goOn_pos g1, ← g2]
    exact wcase4 500 C hT hX hk hn (nI i) goOn HK σ
  · obtain ⟨σ', g1, g2⟩ := ok_case5 hI 500 (Nat.le_refl _) xs Ls i hi hLs goOn
    refine j_tin (off := 608) 653 C dL_law_45 hx (by decide) (by decide) (by decide) (by decide) ?_
    rw [← goOn_pos g1, ← g2]
    exact wcase5 500 C hT hX hk hn (nI i) goOn HK σ
  · obtain ⟨σ', g1, g2⟩ := ok_case6 hI 500 (Nat.le_refl _) xs Ls i hi hLs goOn
    refine j_tin (off := 692) 737 C dL_law_45 hx (by decide) (by decide) (by decide) (by decide) ?_
    rw [← goOn_pos g1, ← g2]
    exact wcase6 500 C hT hX hk hn (nI i) goOn HK σ
  · obtain ⟨σ', g1, g2⟩ := ok_case7 hI 500 (Nat.le_refl _) xs Ls i hi hLs goOn
    refine j_tin (off := 760) 805 C dL_law_45 hx (by decide) (by decide) (by decide) (by decide) ?_
    rw [← goOn_pos g1, ← g2]
    exact wcase7 500 C hT hX hk hn (nI i) goOn HK σ
  · obtain ⟨σ', g1, g2⟩ := ok_case8 hI 500 (Nat.le_refl _) xs Ls i hi hLs goOn
    refine j_tin (off := 828) 873 C dL_law_45 hx (by decide) (by decide) (by decide) (by decide) ?_
    rw [← goOn_pos g1, ← g2]
    exact wcase8 500 C hT hX hk hn (nI i) goOn HK σ
  · obtain ⟨σ', g1, g2⟩ := ok_case9 hI 500 (Nat.le_refl _) xs Ls i hi hLs goOn
    refine j_tin (off := 908) 953 C dL_law_45 hx (by decide) (by decide) (by decide) (by decide) ?_
    rw [← goOn_pos g1, ← g2]
    exact wcase9 500 C hT hX hk hn (nI i) goOn HK σ
  · obtain ⟨σ', g1, g2⟩ := ok_case10 hI 500 (Nat.le_refl _) xs Ls i hi hLs goOn
    refine j_tin (off := 988) 1033 C dL_law_45 hx (by decide) (by decide) (by decide) (by decide) ?_
    rw [← goOn_pos g1, ← g2]
    exact wcase10 500 C hT hX hk hn (nI i) goOn HK σ
  · obtain ⟨σ', g1, g2⟩ := ok_case11 hI 500 (Nat.le_refl _) xs Ls i hi hLs goOn
    refine j_tin (off := 1068) 1113 C dL_law_45 hx (by decide) (by decide) (by decide) (by decide) ?_
    rw [← goOn_pos g1, ← g2]
    exact wcase11 500 C hT hX hk hn (nI i) goOn HK σ
  · obtain ⟨σ', g1, g2⟩ := ok_case12 hI 500 (Nat.le_refl _) xs Ls i hi hLs goOn
    refine j_tin (off := 1136) 1181 C dL_law_45 hx (by decide) (by decide) (by decide) (by decide) ?_
    rw [← goOn_pos g1, ← g2]
    exact wcase12 500 C hT hX hk hn (nI i) goOn HK σ
  · obtain ⟨σ', g1, g2⟩ := ok_case13 hI 500 (Nat.le_refl _) xs Ls i hi hLs goOn
    refine j_tin (off := 1192) 1237 C dL_law_45 hx (by decide) (by decide) (by decide) (by decide) ?_
    rw [← goOn_pos g1, ← g2]
    exact wcase13 500 C hT hX hk hn (nI i) goOn HK σ
  · obtain ⟨σ', g1, g2⟩ := ok_case14 hI 500 (Nat.le_refl _) xs Ls i hi hLs goOn
    refine j_tin (off := 1248) 1293 C dL_law_45 hx (by decide) (by decide) (by decide) (by decide) ?_
    rw [← goOn_pos g1, ← g2]
    exact wcase14 500 C hT hX hk hn (nI i) goOn HK σ
  · obtain ⟨σ', g1, g2⟩ := ok_case15 hI 500 (Nat.le_refl _) xs Ls i hi hLs goOn
    refine j_tin (off := 1304) 1349 C dL_law_45 hx (by decide) (by decide) (by decide) (by decide) ?_
    rw [← goOn_pos g1, ← g2]
    exact wcase15 500 C hT hX hk hn (nI i) goOn HK σ
  · obtain ⟨σ', g1, g2⟩ := ok_case16 hI 500 (Nat.le_refl _) xs Ls i hi hLs goOn
    refine j_tin (off := 1388) 1433 C dL_law_45 hx (by decide) (by decide) (by decide) (by decide) ?_
    rw [← goOn_pos g1, ← g2]
    exact wcase16 500 C hT hX hk hn (nI i) goOn HK σ
  · obtain ⟨σ', g1, g2⟩ := ok_case17 hI 500 (Nat.le_refl _) xs Ls i hi hLs goOn
    refine j_tin (off := 1444) 1489 C dL_law_45 hx (by decide) (by decide) (by decide) (by decide) ?_
    rw [← goOn_pos g1, ← g2]
    exact wcase17 500 C hT hX hk hn (nI i) goOn HK σ
  · obtain ⟨σ', g1, g2⟩ := ok_case18 hI 500 (Nat.le_refl _) xs Ls i hi hLs goOn
    refine j_tin (off := 1500) 1545 C dL_law_45 hx (by decide) (by decide) (by decide) (by decide) ?_
    rw [← goOn_pos g1, ← g2]
    exact wcase18 500 C hT hX hk hn (nI i) goOn HK σ
  · obtain ⟨σ', g1, g2⟩ := ok_case19 hI 500 (Nat.le_refl _) xs Ls i hi hLs goOn
    refine j_tin (off := 1568) 1613 C dL_law_45 hx (by decide) (by decide) (by decide) (by decide) ?_
    rw [← goOn_pos g1, ← g2]
    exact wcase19 500 C hT hX hk hn (nI i) goOn HK σ
  · obtain ⟨σ', g1, g2⟩ := ok_case20 hI 500 (Nat.le_refl _) xs Ls i hi hLs goOn
    refine j_tin (off := 1646) 1691 C dL_law_45 hx (by decide) (by decide) (by decide) (by decide) ?_
    rw [← goOn_pos g1, ← g2]
    exact wcase20 500 C hT hX hk hn (nI i) goOn HK σ
  · obtain ⟨σ', g1, g2⟩ := ok_case21 hI 500 (Nat.le_refl _) xs Ls i goOn
    refine j_tin (off := 1723) 1768 C dL_law_45 hx (by decide) (by decide) (by decide) (by decide) ?_
    rw [← goOn_pos g1, ← g2]
    exact wcase21 500 C hT hX hk hn (nI i) goOn HK σ
  · obtain ⟨σ', g1, g2⟩ := ok_case22 hI 500 (Nat.le_refl _) xs Ls i hi hLs goOn
    refine j_tin (off := 1736) 1781 C dL_law_45 hx (by decide) (by decide) (by decide) (by decide) ?_
    rw [← goOn_pos g1, ← g2]
    exact wcase22 500 C hT hX hk hn (nI i) goOn HK σ
  · obtain ⟨σ', g1, g2⟩ := ok_case23 hI 500 (Nat.le_refl _) xs Ls i hi hLs goOn
    refine j_tin (off := 1844) 1889 C dL_law_45 hx (by decide) (by decide) (by decide) (by decide) ?_
    rw [← goOn_pos g1, ← g2]
    exact wcase23 500 C hT hX hk hn (nI i) goOn HK σ
  · obtain ⟨σ', g1, g2⟩ := ok_case24 hI 500 xs Ls i hi hLs goOn
    refine j_tin (off := 1912) 1957 C dL_law_45 hx (by decide) (by decide) (by decide) (by decide) ?_
    rw [← goOn_pos g1, ← g2]
    exact wcase24 500 C hT hX hk hn (nI i) goOn HK σ
  · obtain ⟨σ', g1, g2⟩ := ok_case25 hI 500 (Nat.le_refl _) xs Ls i goOn
    refine j_tin (off := 1970) 2015 C dL_law_45 hx (by decide) (by decide) (by decide) (by decide) ?_
    rw [← goOn_pos g1, ← g2]
    exact wcase25 500 C hT hX hk hn (nI i) goOn HK σ
  · obtain ⟨σ', g1, g2⟩ := ok_case26 hI 500 (Nat.le_refl _) xs Ls i hi hLs goOn
    refine j_tin (off := 2014) 2059 C dL_law_45 hx (by decide) (by decide) (by decide) (by decide) ?_
    rw [← goOn_pos g1, ← g2]
    exact wcase26 500 C hT hX hk hn (nI i) goOn HK σ
  · obtain ⟨σ', g1, g2⟩ := ok_case27 hI 500 (Nat.le_refl _) xs Ls i hi hLs goOn
    refine j_tin (off := 2082) 2127 C dL_law_45 hx (by decide) (by decide) (by decide) (by decide) ?_
    rw [← goOn_pos g1, ← g2]
    exact wcase27 500 C hT hX hk hn (nI i) goOn HK σ
  · obtain ⟨σ', g1, g2⟩ := ok_case28 hI 500 (Nat.le_refl _) xs Ls i goOn
    refine j_tin (off := 2126) 2171 C dL_law_45 hx (by decide) (by decide) (by decide) (by decide) ?_
    rw [← goOn_pos g1, ← g2]
    exact wcase28 500 C hT hX hk hn (nI i) goOn HK σ
  · obtain ⟨σ', g1, g2⟩ := ok_case29 hI 500 (Nat.le_refl _) xs Ls i hi hLs goOn
    refine j_tin (off := 2139) 2184 C dL_law_45 hx (by decide) (by decide) (by decide) (by decide) ?_
    rw [← goOn_pos g1, ← g2]
    exact wcase29 500 C hT hX hk hn (nI i) goOn HK σ
  · rw [hx]
    exact j_tout 2228 C dL_law_45 (by decide) (by decide) (j_widen (Nat.le_add_right _ _) (Nat.le_add_right _ _) (go σ hI))
  · rw [hx]
    exact j_tout 2228 C dL_law_45 (by decide) (by decide) (j_widen (Nat.le_add_right _ _) (Nat.le_add_right _ _) (go σ hI))
theorem law_loop {E : En} {p : Program} {l : Launch} {e : Env} {s : State} {m : MethodId} {args : Array Value} {below : List Frame} {meth : Method} {c : Code} {Q : Unit → State → Prop} {b Ls : Nat} {xs : Nat → Int32} (C : Cx E 9 p s m args c code RL) (hT : l.stackTraces = false) (hX : Sc E s b Ls xs) (hLs : Ls < 100000) (fin : ∀ x5 σ k n, k ≤ 601024 → n ≤ 7293034 → J E 9 p l e room_1 s m args below meth c Q (some ()) 2234 (LL E b x5) [] σ k n) : ∀ (d i k n : Nat) (σ : Hp), Inv σ → i ≤ Ls → Ls - i ≤ d → k + 3 * d ≤ 601024 → n + 18 * d ≤ 7293034 → J E 9 p l e room_1 s m args below meth c Q (some ()) 28 (LL E b (nI i)) [] σ k n := by
  intro d
  induction d with
  | zero =>
    intro i k n σ hI hi hd hk hn
    refine j_iload 5 C dL_law_28 rfl ?_
    refine j_aload_n 0 C dL_law_30 rfl rfl ?_
    refine j_slen C hX dL_law_31 ?_
    refine j_bipush (v := 7) 7 C dL_law_32 (by decide) ?_
    refine j_isub C dL_law_34 ?_
    have hc : Int32.ofNat Ls - 7 < nI i := by
      rw [past hLs hi]
      omega
    have h := j_igt (x := nI i) (y := Int32.ofNat Ls - 7) (Y := some ()) (Z := none) 2234 C dL_law_35 (by decide) (fin (nI i) σ k n (by omega) (by omega)) j_none
    rw [if_pos hc] at h
    exact h
  | succ d ih =>
    intro i k n σ hI hi hd hk hn
    refine j_iload 5 C dL_law_28 rfl ?_
    refine j_aload_n 0 C dL_law_30 rfl rfl ?_
    refine j_slen C hX dL_law_31 ?_
    refine j_bipush (v := 7) 7 C dL_law_32 (by decide) ?_
    refine j_isub C dL_law_34 ?_
    by_cases hz : Ls < i + 7
    · have hc : Int32.ofNat Ls - 7 < nI i := by
        rw [past hLs hi]
        exact hz
      have h := j_igt (x := nI i) (y := Int32.ofNat Ls - 7) (Y := some ()) (Z := none) 2234 C dL_law_35 (by decide) (fin (nI i) σ k n (by omega) (by omega)) j_none
      rw [if_pos hc] at h
      exact h
    · have hc : ¬ Int32.ofNat Ls - 7 < nI i := by
        rw [past hLs hi]
        exact hz
      have hv : vib (nI i) Ls = true := q_vib (by omega) (by omega)
      have hcl : (nI i).toNatClampNeg = i := q_cl (by omega)
      have go : ∀ σ, Inv σ → J E 9 p l e room_1 s m args below meth c Q (some ()) 2228 (LL E b (nI i)) [] σ (k + 3) (n + 18) := by
        intro σ hI
        refine j_iinc (v := nI (i + 7)) 5 7 [(5, .int (nI (i + 7))), (0, .ref b), (1, .ref (ea E 0)), (2, .ref (ea E 84)), (3, .ref (ea E 100)), (4, .ref (ea E 101))] C dL_law_2228 rfl (nI_add i 7) (by decide) rfl ?_
        refine j_goto 28 C dL_law_2231 (by decide) ?_
        exact j_sub [1, 2, 3, 4, 5, 0] rfl (ih (i + 7) (k + 3) (n + 18) σ hI (by omega) (by omega) (by omega) (by omega))
      have body : J E 9 p l e room_1 s m args below meth c Q (gd (vib (nI i) Ls) (some ())) 38 (LL E b (nI i)) [] σ k n := by
        refine j_aload_n 0 C dL_law_38 rfl rfl ?_
        refine j_iload 5 C dL_law_39 rfl ?_
        refine j_sld C hX dL_law_41 ?_
        rw [hcl]
        refine j_bipush (v := 31) 31 C dL_law_42 (by decide) ?_
        refine j_iand C dL_law_44 ?_
        exact one_case C hT hX hLs (by omega) hI (by omega) (by omega) go
      rw [hv] at body
      have h := j_igt (x := nI i) (y := Int32.ofNat Ls - 7) (Y := none) (Z := some ()) 2234 C dL_law_35 (by decide) j_none body
      rw [if_neg hc] at h
      exact h
