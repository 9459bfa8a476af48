/-! THE PURE PART. The reference reads the text of commands. -/
section PD
variable {a : Nat → Nat} {L : Nat}
def FrR (τ τ' : Hp) : Prop := (∀ k, k ≠ 84 → k ≠ 99 → τ' k = τ k) ∧ ∀ i, i ≠ 20 → i ≠ 23 → τ' 84 i = τ 84 i
theorem FrR.refl (τ : Hp) : FrR τ τ := ⟨fun _ _ _ => rfl, fun _ _ _ => rfl⟩
theorem FrR.trans {τ τ' τ'' : Hp} (h : FrR τ τ') (h2 : FrR τ' τ'') : FrR τ τ'' := ⟨fun k k1 k2 => (h2.1 k k1 k2).trans (h.1 k k1 k2), fun i i1 i2 => (h2.2 i i1 i2).trans (h.2 i i1 i2)⟩
theorem FrR.st84 (τ : Hp) {i : Nat} (v : Int32) (h : i = 20 ∨ i = 23) : FrR τ (st τ 84 i v) := ⟨fun k k1 k2 => st_row _ _ _ _ k1, fun j j1 j2 => st_ne _ _ _ _ (Or.inr (by omega))⟩
theorem FrR.st99 (τ : Hp) (i : Nat) (v : Int32) : FrR τ (st τ 99 i v) := ⟨fun k k1 k2 => st_row _ _ _ _ k2, fun j j1 j2 => by rw [st_row _ _ _ _ (by omega)]⟩
/-- the reference reads at p; w: something is wrong -/
def RS (a : Nat → Nat) (L : Nat) (τ : Hp) (p w : Nat) : Prop := τ 84 23 = nI w ∧ τ 84 20 = nI p ∧ τ 84 19 = nI L ∧ L ≤ 80 ∧ p ≤ L ∧ ∀ i, i < L → a i < 65536 ∧ τ 98 i = nI (a i)
theorem RS.p {τ : Hp} {p w q : Nat} (h : RS a L τ p w) (hq : q ≤ L) : RS a L (st τ 84 20 (nI q)) q w := by
  obtain ⟨r1, r2, r3, r4, r5, r6⟩ := h
  exact ⟨by rw [st_ne _ _ _ _ (Or.inr (by omega))]; exact r1, st_same _ _ _ _, by rw [st_ne _ _ _ _ (Or.inr (by omega))]; exact r3, r4, hq, fun i hi => ⟨(r6 i hi).1, by rw [st_row _ _ _ _ (by omega)]; exact (r6 i hi).2⟩⟩
theorem RS.w {τ : Hp} {p w : Nat} (h : RS a L τ p w) (v : Nat) : RS a L (st τ 84 23 (nI v)) p v := by
  obtain ⟨r1, r2, r3, r4, r5, r6⟩ := h
  exact ⟨st_same _ _ _ _, by rw [st_ne _ _ _ _ (Or.inr (by omega))]; exact r2, by rw [st_ne _ _ _ _ (Or.inr (by omega))]; exact r3, r4, r5, fun i hi => ⟨(r6 i hi).1, by rw [st_row _ _ _ _ (by omega)]; exact (r6 i hi).2⟩⟩
theorem RS.n {τ : Hp} {p w : Nat} (h : RS a L τ p w) (i : Nat) (v : Int32) : RS a L (st τ 99 i v) p w := by
  obtain ⟨r1, r2, r3, r4, r5, r6⟩ := h
  exact ⟨by rw [st_row _ _ _ _ (by omega)]; exact r1, by rw [st_row _ _ _ _ (by omega)]; exact r2, by rw [st_row _ _ _ _ (by omega)]; exact r3, r4, r5, fun i hi => ⟨(r6 i hi).1, by rw [st_row _ _ _ _ (by omega)]; exact (r6 i hi).2⟩⟩
theorem s6_sign (N : Nat) {τ : Hp} {p : Nat} (h : RS a L τ p 0) : f6_sign N τ = some (if p < L then nI (a p) else -nI 1, τ) := by
  obtain ⟨r1, r2, r3, r4, r5, r6⟩ := h
  unfold f6_sign
  by_cases z : p < L
  · rw [if_pos z]
    simp (disch := omega) only [q_lit, q_gt, q_bd, q_bxl, q_bxr, q_vib, q_cl, q_pos, q_lt, q_le, q_eq, q_neg, q_neg1, q_negz, q_negeq0, q_neg0le, q_rem, q_div, q_sub, q_if1, q_if0, q_okB0, q_okB1, q_dz, q_dn, q_nb, and_true, true_and, and_false, false_and, nI_add, pk_mul, if_true, if_false, ite_true, ite_false, Nat.add_zero, Nat.zero_add, Nat.reduceAdd, r1, r2, r3, (r6 p z).2]
  · rw [if_neg z]
    simp (disch := omega) only [q_lit, q_gt, q_bd, q_bxl, q_bxr, q_vib, q_cl, q_pos, q_lt, q_le, q_eq, q_neg, q_neg1, q_negz, q_negeq0, q_neg0le, q_rem, q_div, q_sub, q_if1, q_if0, q_okB0, q_okB1, q_dz, q_dn, q_nb, and_true, true_and, and_false, false_and, nI_add, pk_mul, if_true, if_false, ite_true, ite_false, Nat.add_zero, Nat.zero_add, Nat.reduceAdd, r1, r2, r3]
theorem s6_sign1 (N : Nat) {τ : Hp} {p : Nat} (h : RS a L τ p 1) : f6_sign N τ = some (-nI 1, τ) := by
  obtain ⟨r1, r2, r3, r4, r5, r6⟩ := h
  unfold f6_sign
  simp (disch := omega) only [q_lit, q_gt, q_bd, q_bxl, q_bxr, q_vib, q_cl, q_pos, q_lt, q_le, q_eq, q_neg, q_neg1, q_negz, q_negeq0, q_neg0le, q_rem, q_div, q_sub, q_if1, q_if0, q_okB0, q_okB1, q_dz, q_dn, q_nb, and_true, true_and, and_false, false_and, nI_add, pk_mul, if_true, if_false, ite_true, ite_false, Nat.add_zero, Nat.zero_add, Nat.reduceAdd, r1]
theorem s6_dig (N : Nat) {τ : Hp} {p : Nat} (h : RS a L τ p 0) {β : Type} (f : Int32 → Hp → Option (β × Hp)) : bd (f6_sign N τ) (fun r10 σ10 => bd (f6_in N r10 48 57 σ10) f) = f (nI (b2 (dgB a L p))) τ := by
  rw [s6_sign N h, q_bd]
  by_cases z : p < L
  · rw [if_pos z, show f6_in N (nI (a p)) 48 57 τ = some (nI (b2 (inB (nI (a p)) 48 57)), τ) from s6_in N _ 48 57, q_bd, inB_nI (by have := (h.2.2.2.2.2 p z).1; omega) (by omega) (by omega)]
    unfold dgB
    rw [show decide (48 ≤ a p ∧ a p ≤ 57) = decide (p < L ∧ 48 ≤ a p ∧ a p ≤ 57) from by
      apply Bool.eq_iff_iff.mpr
      rw [decide_eq_true_iff, decide_eq_true_iff]
      exact ⟨fun q => ⟨z, q⟩, fun q => q.2⟩]
  · rw [if_neg z, show dgB a L p = false from decide_eq_false (fun q => z q.1)]
    rfl
theorem num_step (N : Nat) {τ : Hp} {p v d : Nat} (h : RS a L τ p 0) (hd : d < 3) (hg : dgB a L p = true) (K : Int32 → Int32 → Hp → Option (Int32 × Hp)) (t : Int32 → Int32 → Hp → Option (Int32 × Hp)) : f6_number_B4 N K t (nI v) (nI d) τ = t (nI (10 * v + (a p - 48))) (nI (d + 1)) (st τ 84 20 (nI (p + 1))) := by
  obtain ⟨g1, g2, g3⟩ := (dgB_iff _).mp hg
  have dd := s6_dig N h (f := fun r17 σ17 => if r17 = 0 then K (nI v) (nI d) σ17 else bd (f6_sign N σ17) (fun r28 σ28 => t (((10 * nI v) + r28) - 48) (nI d + 1) (st σ28 84 20 ((σ28 84 20) + 1))))
  unfold f6_number_B4
  rw [if_neg (show ¬ (3 : Int32) ≤ nI d from nI_ge (a := d) (b := 3) hd (by omega)), dd, hg, if_neg (show ¬ nI (b2 true) = 0 by decide), s6_sign N h, q_bd, if_pos g1, h.2.1]
  rw [show ((10 * nI v + nI (a p)) - 48 : Int32) = nI (10 * v + (a p - 48)) by
    rw [show (10 : Int32) = nI 10 from rfl, show (48 : Int32) = nI 48 from rfl, pk_mul, nI_add, q_sub (a := 10 * v + a p) (b := 48) (by omega)]
    congr 1
    omega, show (nI d + 1 : Int32) = nI (d + 1) from nI_1 d, show (nI p + 1 : Int32) = nI (p + 1) from nI_1 p]
theorem num_stop (N : Nat) {τ : Hp} {p v d : Nat} (h : RS a L τ p 0) (hd : d ≤ 3) (hg : d = 3 ∨ dgB a L p = false) (K : Int32 → Int32 → Hp → Option (Int32 × Hp)) (t : Int32 → Int32 → Hp → Option (Int32 × Hp)) : f6_number_B4 N K t (nI v) (nI d) τ = K (nI v) (nI d) τ := by
  have dd := s6_dig N h (f := fun r17 σ17 => if r17 = 0 then K (nI v) (nI d) σ17 else bd (f6_sign N σ17) (fun r28 σ28 => t (((10 * nI v) + r28) - 48) (nI d + 1) (st σ28 84 20 ((σ28 84 20) + 1))))
  unfold f6_number_B4
  by_cases z : d = 3
  · rw [z, if_pos (show (3 : Int32) ≤ nI 3 by decide)]
  · rw [if_neg (show ¬ (3 : Int32) ≤ nI d from nI_ge (a := d) (b := 3) (by omega) (by omega)), dd]
    rcases hg with e | e
    · exact absurd e z
    · rw [e]
      rfl
theorem num_loop (N : Nat) {p : Nat} (K : Int32 → Int32 → Hp → Option (Int32 × Hp)) : ∀ d, d ≤ dgN a L p → ∀ (m : Nat) (τ : Hp), RS a L τ p 0 → ∃ τ', it (fun _ _ _ => none) (f6_number_B4 N K) (m + d) (nI 0) (nI 0) τ = it (fun _ _ _ => none) (f6_number_B4 N K) m (nI (vdN a p d)) (nI d) τ' ∧ RS a L τ' (p + d) 0 ∧ FrR τ τ' ∧ τ' 99 = τ 99
  | 0, _, m, τ, h => ⟨τ, rfl, h, FrR.refl τ, rfl⟩
  | d + 1, hd, m, τ, h => by
    obtain ⟨τ1, r1, s1, f1, e1⟩ := num_loop N K d (by omega) (m + 1) τ h
    have hg := dgN_in (a := a) (L := L) p d (by omega)
    have g := (dgB_iff _).mp hg
    have d3 := dgN_le (a := a) (L := L) p
    refine ⟨st τ1 84 20 (nI (p + (d + 1))), ?_, s1.p (by omega), f1.trans (FrR.st84 _ _ (Or.inl rfl)), by rw [st_row _ _ _ _ (by omega)]; exact e1⟩
    rw [show m + (d + 1) = m + 1 + d by omega, r1, it_s, num_step N s1 (by omega) hg]
    rfl
theorem s6_num (N : Nat) (hN : 500 ≤ N) {τ : Hp} {p : Nat} (h : RS a L τ p 0) : ∃ τ', f6_number N τ = some (nI (vlN a L p), τ') ∧ RS a L τ' (p + dgN a L p) (if dgN a L p = 0 then 1 else 0) ∧ FrR τ τ' ∧ τ' 99 = τ 99 := by
  have d3 := dgN_le (a := a) (L := L) p
  obtain ⟨m, hm⟩ : ∃ m, N = m + 1 + dgN a L p := ⟨N - 1 - dgN a L p, by omega⟩
  obtain ⟨τ1, r1, s1, f1, e1⟩ := num_loop N (fun x1_4 x2_4 σL4 => if x2_4 = 0 then f6_number_J66 N x1_4 1 (σL4 84 23) σL4 else f6_number_J66 N x1_4 0 (σL4 84 23) σL4) (dgN a L p) (Nat.le_refl _) (m + 1) τ h
  rw [← hm, it_s, num_stop N s1 d3 (by
    by_cases q : dgN a L p = 3
    · exact Or.inl q
    · exact Or.inr (dgN_out p (by omega)))] at r1
  by_cases z : dgN a L p = 0
  · refine ⟨st τ1 84 23 (nI 1), ?_, by rw [if_pos z]; exact s1.w 1, f1.trans (FrR.st84 _ _ (Or.inr rfl)), by rw [st_row _ _ _ _ (by omega)]; exact e1⟩
    refine Eq.trans r1 ?_
    unfold f6_number_J66
    rw [z, if_pos (show nI 0 = 0 from rfl), s1.1]
    have : vdN a p 0 = vlN a L p := by
      unfold vlN
      rw [z]
    rw [this]
    rfl
  · refine ⟨st τ1 84 23 (nI 0), ?_, by rw [if_neg z]; exact s1.w 0, f1.trans (FrR.st84 _ _ (Or.inr rfl)), by rw [st_row _ _ _ _ (by omega)]; exact e1⟩
    refine Eq.trans r1 ?_
    unfold f6_number_J66
    rw [if_neg (show ¬ nI (dgN a L p) = 0 from fun q => z (by rw [show (0 : Int32) = nI 0 from rfl, nI_eq (by omega) (by omega)] at q; exact q)), s1.1]
    rfl
/-- number k of a command, once it may begin -/
theorem cmd_num (N : Nat) (hN : 500 ≤ N) {τ : Hp} {i k n : Nat} (h : RS a L τ (npN a L i k) 0) (hk : k < 6) (x1 : Int32) (K : Hp → Option (Int32 × Hp)) (t : Int32 → Hp → Option (Int32 × Hp)) : ∃ τ', f6_command_J150 N x1 (nI n) K t (nI k) τ = t (nI (k + 1)) τ' ∧ RS a L τ' (npN a L i k + dgN a L (npN a L i k)) (if dgN a L (npN a L i k) = 0 then 1 else 0) ∧ FrR τ τ' ∧ τ' 99 k = nI (vlN a L (npN a L i k)) ∧ ∀ j, j ≠ k → τ' 99 j = τ 99 j := by
  obtain ⟨τ1, r1, s1, f1, e1⟩ := s6_num N hN h
  refine ⟨st τ1 99 k (nI (vlN a L (npN a L i k))), ?_, s1.n k _, f1.trans (FrR.st99 _ _ _), st_same _ _ _ _, fun j hj => by rw [st_ne _ _ _ _ (Or.inr hj), e1]⟩
  unfold f6_command_J150 f6_command_J160
  simp (disch := omega) only [q_lit, q_gt, q_bd, q_bxl, q_bxr, q_vib, q_cl, q_pos, q_lt, q_le, q_eq, q_neg, q_neg1, q_negz, q_negeq0, q_neg0le, q_rem, q_div, q_sub, q_if1, q_if0, q_okB0, q_okB1, q_dz, q_dn, q_nb, and_true, true_and, and_false, false_and, nI_add, pk_mul, if_true, if_false, ite_true, ite_false, Nat.add_zero, Nat.zero_add, Nat.reduceAdd, r1]
theorem cmd_stop (N : Nat) {τ : Hp} {p n k : Nat} (h : RS a L τ p 1) (x1 : Int32) (K : Hp → Option (Int32 × Hp)) (t : Int32 → Hp → Option (Int32 × Hp)) : f6_command_B87 N x1 (nI n) K t (nI k) τ = K τ := by
  unfold f6_command_B87
  rw [h.1]
  split
  · rfl
  · rfl
theorem cmd_loop (N : Nat) (hN : 500 ≤ N) {i n : Nat} (hn : n ≤ 6) (x1 : Int32) (K : Hp → Option (Int32 × Hp)) : ∀ (r k m : Nat) (τ : Hp), k + r = n → 0 < n → r < m → RS a L τ (if k = 0 then npN a L i 0 else npN a L i k - 1) 0 → (∀ j, j < k → τ 99 j = nI (vlN a L (npN a L i j))) → ∃ τ', it (fun _ _ => none) (f6_command_B87 N x1 (nI n) K) m (nI k) τ = K τ' ∧ FrR τ τ' ∧ RS a L τ' (ceN a L i n r).2 (if (ceN a L i n r).1 then 0 else 1) ∧ ((ceN a L i n r).1 = true → ∀ j, j < n → τ' 99 j = nI (vlN a L (npN a L i j)))
  | 0, k, m, τ, hk, hn0, hm, hs, hv => by
    obtain ⟨m1, rfl⟩ : ∃ m1, m = m1 + 1 := ⟨m - 1, by omega⟩
    obtain rfl : k = n := by omega
    rw [if_neg (by omega)] at hs
    refine ⟨τ, ?_, FrR.refl τ, hs, fun _ => hv⟩
    rw [it_s]
    unfold f6_command_B87
    rw [if_pos (Int32.le_refl _)]
  | r + 1, k, m, τ, hk, hn0, hm, hs, hv => by
    have hkr : n - (r + 1) = k := by omega
    have hce : ceN a L i n (r + 1) = if k ≠ 0 ∧ cmB a L (npN a L i k - 1) = false then (false, npN a L i k - 1) else if dgN a L (npN a L i k) = 0 then (false, npN a L i k) else ceN a L i n r := by
      rw [← hkr]
      rfl
    obtain ⟨m1, rfl⟩ : ∃ m1, m = m1 + 1 := ⟨m - 1, by omega⟩
    obtain ⟨m2, rfl⟩ : ∃ m2, m1 = m2 + 1 := ⟨m1 - 1, by omega⟩
    have ge := npN_ge (a := a) (L := L) i k
    rw [hce, it_s]
    -- to the beginning of number k
    have first : (∃ τ1, f6_command_B87 N x1 (nI n) K (it (fun _ _ => none) (f6_command_B87 N x1 (nI n) K) (m2 + 1)) (nI k) τ = f6_command_J150 N x1 (nI n) K (it (fun _ _ => none) (f6_command_B87 N x1 (nI n) K) (m2 + 1)) (nI k) τ1 ∧ RS a L τ1 (npN a L i k) 0 ∧ FrR τ τ1 ∧ τ1 99 = τ 99 ∧ ¬ (k ≠ 0 ∧ cmB a L (npN a L i k - 1) = false)) ∨ (k ≠ 0 ∧ cmB a L (npN a L i k - 1) = false ∧ ∃ τ1, f6_command_B87 N x1 (nI n) K (it (fun _ _ => none) (f6_command_B87 N x1 (nI n) K) (m2 + 1)) (nI k) τ = K τ1 ∧ RS a L τ1 (npN a L i k - 1) 1 ∧ FrR τ τ1) := by
      have top : ¬ nI n ≤ nI k := nI_ge (a := k) (b := n) (by omega) (by omega)
      by_cases z : k = 0
      · left
        subst z
        rw [if_pos rfl] at hs
        refine ⟨st τ 84 23 (nI 0), ?_, hs.w 0, FrR.st84 _ _ (Or.inr rfl), by rw [st_row _ _ _ _ (by omega)], fun q => q.1 rfl⟩
        unfold f6_command_B87 f6_command_J121 f6_command_J122
        rw [if_neg top, hs.1]
        rfl
      · rw [if_neg z] at hs
        have sg := s6_sign N hs
        have k0 : ¬ nI k ≤ 0 := nI_ge (a := 0) (b := k) (by omega) (by omega)
        by_cases y : cmB a L (npN a L i k - 1) = true
        · left
          have yy := (cmB_iff _).mp y
          rw [if_pos yy.1, yy.2] at sg
          refine ⟨st (st τ 84 23 (nI 0)) 84 20 (nI (npN a L i k)), ?_, (hs.w 0).p (by omega), (FrR.st84 _ _ (Or.inr rfl)).trans (FrR.st84 _ _ (Or.inl rfl)), by rw [st_row _ _ _ _ (by omega), st_row _ _ _ _ (by omega)], fun q => by rw [y] at q; exact absurd q.2 (by decide)⟩
          unfold f6_command_B87 f6_command_J121 f6_command_J122
          rw [if_neg top, hs.1, if_pos (show nI 0 = 0 from rfl), if_neg k0, sg, q_bd, if_pos (show nI 44 = 44 from rfl)]
          rw [show (nI 0 ||| 0 : Int32) = nI 0 by decide, q_okB0, q_gt, st_same, if_pos (show nI 0 = 0 from rfl), if_neg k0, (hs.w 0).2.1]
          rw [show nI (npN a L i k - 1) + 1 = nI (npN a L i k) by rw [show (1 : Int32) = nI 1 from rfl, nI_add]; congr 1; omega]
        · right
          have yf : cmB a L (npN a L i k - 1) = false := Bool.eq_false_iff.mpr y
          refine ⟨z, yf, st τ 84 23 (nI 1), ?_, hs.w 1, FrR.st84 _ _ (Or.inr rfl)⟩
          have ne : ¬ (if npN a L i k - 1 < L then nI (a (npN a L i k - 1)) else -nI 1) = (44 : Int32) := by
            by_cases q : npN a L i k - 1 < L
            · rw [if_pos q]
              intro q2
              rw [show (44 : Int32) = nI 44 from rfl, nI_eq (by have := (hs.2.2.2.2.2 _ q).1; omega) (by omega)] at q2
              exact y ((cmB_iff _).mpr ⟨q, q2⟩)
            · rw [if_neg q]
              decide
          have stop : it (fun _ _ => none) (f6_command_B87 N x1 (nI n) K) (m2 + 1) (nI k + 1) (st τ 84 23 (nI 1)) = K (st τ 84 23 (nI 1)) := by
            rw [it_s, show (nI k + 1 : Int32) = nI (k + 1) from nI_1 k]
            exact cmd_stop N (hs.w 1) x1 K _
          rw [← stop]
          generalize it (fun _ _ => none) (f6_command_B87 N x1 (nI n) K) (m2 + 1) = t
          unfold f6_command_B87 f6_command_J122 f6_command_J160
          rw [if_neg top, hs.1, if_pos (show nI 0 = 0 from rfl), if_neg k0, sg, q_bd, if_neg ne]
          rw [show (nI 0 ||| 1 : Int32) = nI 1 by decide, q_okB1, q_gt, st_same, if_neg (show ¬ nI 1 = 0 by decide)]
    rcases first with ⟨τ1, r1, s1, f1, e1, nc⟩ | ⟨b1, b2, τ1, r1, s1, f1⟩
    · rw [if_neg nc, r1]
      obtain ⟨τ2, r2, s2, f2, e2, e3⟩ := cmd_num N hN (n := n) s1 (by omega) x1 K (it (fun _ _ => none) (f6_command_B87 N x1 (nI n) K) (m2 + 1))
      rw [r2]
      by_cases z : dgN a L (npN a L i k) = 0
      · rw [if_pos z] at s2 ⊢
        rw [z, Nat.add_zero] at s2
        refine ⟨τ2, ?_, f1.trans f2, s2, fun q => by cases q⟩
        rw [it_s]
        exact cmd_stop N s2 x1 K _
      · rw [if_neg z] at s2 ⊢
        have epos : npN a L i (k + 1) - 1 = npN a L i k + dgN a L (npN a L i k) := by
          show npN a L i k + dgN a L (npN a L i k) + 1 - 1 = _
          omega
        obtain ⟨τ', g1, g2, g3, g4⟩ := cmd_loop N hN hn x1 K r (k + 1) (m2 + 1) τ2 (by omega) hn0 (by omega) (by rw [if_neg (show ¬ k + 1 = 0 by omega), epos]; exact s2) (fun j hj => by
          by_cases q : j = k
          · rw [q]
            exact e2
          · rw [e3 j q, e1]
            exact hv j (by omega))
        exact ⟨τ', g1, (f1.trans f2).trans g2, g3, g4⟩
    · rw [if_pos (show k ≠ 0 ∧ cmB a L (npN a L i k - 1) = false from ⟨b1, b2⟩)]
      exact ⟨τ1, r1, f1, s1, fun q => by cases q⟩
/-- one command -/
def ocN (a : Nat → Nat) (L i : Nat) : Bool × Nat := if i < L ∧ szN (a i) ≠ 0 then cmE a L i else (false, i)
theorem s6_command (N : Nat) (hN : 500 ≤ N) {τ : Hp} {i : Nat} (h : RS a L τ i 0) : ∃ x τ', f6_command N τ = some (x, τ') ∧ FrR τ τ' ∧ RS a L τ' (ocN a L i).2 (if (ocN a L i).1 then 0 else 1) ∧ ((ocN a L i).1 = true → x = nI (a i) ∧ ∀ j, j < szN (a i) → τ' 99 j = nI (vlN a L (npN a L i j))) := by
  have sg := s6_sign N h
  by_cases z : i < L ∧ szN (a i) ≠ 0
  · have oc : ocN a L i = cmE a L i := if_pos z
    rw [if_pos z.1] at sg
    have hs6 := szN_le (a i)
    have go : ∀ n, n = szN (a i) → f6_command_J47 N (nI (a i)) (nI n) τ = f6_command_L87 N (nI (a i)) (nI n) (fun σL87 => some (nI (a i), σL87)) N 0 (st (st τ 84 23 (nI 0)) 84 20 (nI (i + 1))) := fun n hn => by
      unfold f6_command_J47 f6_command_J62
      rw [if_neg (show ¬ nI n = 0 from fun q => by rw [show (0 : Int32) = nI 0 from rfl, nI_eq (by omega) (by omega)] at q; omega), h.1, show (nI 0 ||| 0 : Int32) = nI 0 by decide, q_okB0, q_gt, st_same, if_pos (show nI 0 = 0 from rfl), (h.w 0).2.1, show (nI i + 1 : Int32) = nI (i + 1) from nI_1 i]
    obtain ⟨τ', g1, g2, g3, g4⟩ := cmd_loop N hN (i := i) hs6 (nI (a i)) (fun σL87 => some (nI (a i), σL87)) (szN (a i)) 0 N (st (st τ 84 23 (nI 0)) 84 20 (nI (i + 1))) (by omega) (by omega) (by omega) ((h.w 0).p (by omega)) (fun j hj => absurd hj (Nat.not_lt_zero j))
    rw [oc]
    refine ⟨nI (a i), τ', ?_, ((FrR.st84 _ _ (Or.inr rfl)).trans (FrR.st84 _ _ (Or.inl rfl))).trans g2, g3, fun q => ⟨rfl, g4 q⟩⟩
    rw [← g1]
    have g := go (szN (a i)) rfl
    refine Eq.trans ?_ g
    unfold f6_command
    rw [sg, q_bd]
    rcases szN_cases (a i) with q | ⟨q, e⟩ | ⟨q, e⟩ | ⟨q, e⟩ | ⟨q, e⟩
    · exact absurd q.1 z.2
    · rw [e, q]
      rfl
    · rw [e, q]
      rfl
    · rw [e, q]
      rfl
    · rw [e, q]
      rfl
  · have oc : ocN a L i = (false, i) := if_neg z
    rw [oc]
    refine ⟨-1, st τ 84 23 (nI 1), ?_, FrR.st84 _ _ (Or.inr rfl), h.w 1, fun q => by cases q⟩
    have ne : ∀ c : Nat, (c = 115 ∨ c = 97 ∨ c = 112 ∨ c = 108) → ¬ (if i < L then nI (a i) else -nI 1) = nI c := by
      intro c hc
      by_cases q : i < L
      · rw [if_pos q]
        intro q2
        rw [nI_eq (by have := (h.2.2.2.2.2 _ q).1; omega) (by omega)] at q2
        have : szN (a i) = 0 := by
          by_cases q3 : szN (a i) = 0
          · exact q3
          · exact absurd ⟨q, q3⟩ z
        rcases szN_cases (a i) with w | ⟨w, e⟩ | ⟨w, e⟩ | ⟨w, e⟩ | ⟨w, e⟩
        all_goals omega
      · rw [if_neg q]
        rcases hc with rfl | rfl | rfl | rfl
        all_goals decide
    unfold f6_command f6_command_J47 f6_command_J62
    rw [sg, q_bd, if_neg (show ¬ _ = (115 : Int32) from ne 115 (by omega)), if_neg (show ¬ _ = (97 : Int32) from ne 97 (by omega)), if_neg (show ¬ _ = (112 : Int32) from ne 112 (by omega)), if_neg (show ¬ _ = (108 : Int32) from ne 108 (by omega)), if_pos (show (0 : Int32) = 0 from rfl), h.1]
    rw [show (nI 0 ||| 1 : Int32) = nI 1 by decide, q_okB1, q_gt, st_same, if_neg (show ¬ nI 1 = 0 by decide)]
theorem ocN_ge (i : Nat) (h : (ocN a L i).1 = true) : i < (ocN a L i).2 ∧ i < L ∧ szN (a i) ≠ 0 := by
  unfold ocN at h ⊢
  by_cases z : i < L ∧ szN (a i) ≠ 0
  · rw [if_pos z] at h ⊢
    have h2 := ceN_true (a := a) (L := L) i (szN (a i)) (szN (a i)) h
    have h3 := npN_ge (a := a) (L := L) i (szN (a i))
    refine ⟨?_, z⟩
    show i < (ceN a L i (szN (a i)) (szN (a i))).2
    omega
  · rw [if_neg z] at h
    cases h
theorem teN_s (f i : Nat) : teN a L (f + 1) i = if (ocN a L i).1 then (if (ocN a L i).2 < L ∧ a (ocN a L i).2 = 59 then teN a L f ((ocN a L i).2 + 1) else (decide ((ocN a L i).2 = L), (ocN a L i).2)) else (false, (ocN a L i).2) := by
  unfold ocN
  by_cases z : i < L ∧ szN (a i) ≠ 0
  · rw [if_pos z]
    exact if_pos z
  · rw [if_neg z]
    exact if_neg z
/-- the first reading of the whole text, from behind a command -/
theorem s6_text (N : Nat) (hN : 500 ≤ N) (K : Hp → Option (Int32 × Hp)) : ∀ (f i m : Nat) (τ : Hp), RS a L τ (ocN a L i).2 (if (ocN a L i).1 then 0 else 1) → L < f + 1 + i → f < m → ∃ τ', it (fun _ => none) (f6_perform_B19 N K) m τ = K τ' ∧ FrR τ τ' ∧ ∃ w, RS a L τ' (teN a L (f + 1) i).2 w ∧ (((teN a L (f + 1) i).1 = true ∧ w = 0 ∧ (teN a L (f + 1) i).2 = L) ∨ ((teN a L (f + 1) i).1 = false ∧ (w = 1 ∨ (w = 0 ∧ (teN a L (f + 1) i).2 < L)))) := by
  intro f
  induction f with
  | zero =>
    intro i m τ h hL hm
    obtain ⟨m1, rfl⟩ : ∃ m1, m = m1 + 1 := ⟨m - 1, by omega⟩
    have z : (ocN a L i).1 = false := by
      apply Bool.eq_false_iff.mpr
      intro q
      have := ocN_ge i q
      omega
    rw [z] at h
    rw [teN_s, z]
    refine ⟨τ, ?_, FrR.refl τ, 1, h, Or.inr ⟨rfl, Or.inl rfl⟩⟩
    rw [it_s]
    unfold f6_perform_B19
    rw [s6_sign1 N h, q_bd]
    rfl
  | succ f ih =>
    intro i m τ h hL hm
    obtain ⟨m1, rfl⟩ : ∃ m1, m = m1 + 1 := ⟨m - 1, by omega⟩
    rw [teN_s]
    cases z : (ocN a L i).1
    · rw [z] at h
      refine ⟨τ, ?_, FrR.refl τ, 1, h, Or.inr ⟨rfl, Or.inl rfl⟩⟩
      rw [it_s]
      unfold f6_perform_B19
      rw [s6_sign1 N h, q_bd]
      rfl
    · rw [z, if_pos rfl] at h
      rw [if_pos rfl]
      have ge := ocN_ge i z
      have sg := s6_sign N h
      by_cases y : (ocN a L i).2 < L ∧ a (ocN a L i).2 = 59
      · rw [if_pos y]
        rw [if_pos y.1, y.2] at sg
        obtain ⟨x, τ1, c1, c2, c3, -⟩ := s6_command N hN (h.p (q := (ocN a L i).2 + 1) (by omega))
        obtain ⟨τ', g1, g2, g3⟩ := ih ((ocN a L i).2 + 1) m1 τ1 c3 (by omega) (by omega)
        refine ⟨τ', ?_, ((FrR.st84 _ _ (Or.inl rfl)).trans c2).trans g2, g3⟩
        rw [← g1, it_s]
        generalize it (fun _ => none) (f6_perform_B19 N K) m1 = t
        unfold f6_perform_B19
        rw [sg, q_bd, if_pos (show nI 59 = 59 from rfl), h.2.1, show (nI (ocN a L i).2 + 1 : Int32) = nI ((ocN a L i).2 + 1) from nI_1 _, c1, q_bd]
      · rw [if_neg y]
        have ple := h.2.2.2.2.1
        refine ⟨τ, ?_, FrR.refl τ, 0, h, ?_⟩
        · rw [it_s]
          unfold f6_perform_B19
          rw [sg, q_bd, if_neg]
          by_cases q : (ocN a L i).2 < L
          · rw [if_pos q]
            intro q2
            rw [show (59 : Int32) = nI 59 from rfl, nI_eq (by have := (h.2.2.2.2.2 _ q).1; omega) (by omega)] at q2
            exact y ⟨q, q2⟩
          · rw [if_neg q]
            decide
        · by_cases q : (ocN a L i).2 = L
          · exact Or.inl ⟨decide_eq_true q, rfl, q⟩
          · exact Or.inr ⟨decide_eq_false q, Or.inr ⟨rfl, by show (ocN a L i).2 < L; omega⟩⟩
end PD
