/-! THE PURE PART. blamed: both sides agree. -/
def Yz : Ly := (fun _ => nI 0, fun _ => -nI 1, fun _ => 0, fun _ => 0, fun _ => 0, fun _ _ _ => 0)
theorem Yz0 : Ly0 Yz := ⟨fun _ _ => rfl, fun _ _ => rfl, fun _ => rfl, fun _ => rfl, fun _ => rfl⟩
/-- without story w, story s starts on its own page -/
def ownB (D : Nat → Nat) (w s : Nat) : Bool := decide (stP (layN D w Yz (nS D)) s = nI (dS D s 1))
/-- the nearest story in the order, from place j downwards, that is to blame -/
def blF (D : Nat → Nat) (s : Nat) : Nat → Option Nat
  | 0 => none
  | j + 1 => if ownB D (ordN D j) s then some (ordN D j) else blF D s j
theorem sub1 (x : Int32) : x + (-1) = x - 1 := (Int32.sub_eq_add_neg x 1).symm
section B3
variable {D : Nat → Nat}
theorem cls_blamed (hD : DOk D) (N s : Nat) (hN : 500 ≤ N) (hs : s < 12) (h0 : dS D s 0 = 1) (K : Hp → Option ((Int32 ⊕ Nat) × Hp)) (z : Int32 → Hp → Option ((Int32 ⊕ Nat) × Hp)) : ∀ (j M : Nat) (σ : Hp), j ≤ cnt D s → j < M → EdR σ 1 D → (∀ k, k < nS D → σ 59 k = nI (ordN D k)) → ∃ σ', it z (f5_blamed_B35 N (nI s) K) M (nI j - 1) σ = om (blF D s j) (K σ') (fun w => some (.inl (nI w), σ')) ∧ ∀ k, k < 6 ∨ (10 < k ∧ k ≤ 65) ∨ 73 < k → σ' k = σ k := by
  intro j
  induction j with
  | zero =>
    intro M σ hj hM hE h59
    obtain ⟨m, rfl⟩ : ∃ m, M = m + 1 := ⟨M - 1, by omega⟩
    refine ⟨σ, ?_, fun _ _ => rfl⟩
    rw [it_s]
    unfold f5_blamed_B35
    rw [if_pos (show nI 0 - 1 < 0 by decide)]
    rfl
  | succ j ih =>
    intro M σ hj hM hE h59
    obtain ⟨m, rfl⟩ : ∃ m, M = m + 1 := ⟨M - 1, by omega⟩
    have hle := nS_le D
    have hr := cnt_n hs h0
    have ho := (ordN_I D).1 j (by omega)
    have hne : s ≠ ordN D j := fun e => by
      have := ord_cnt (ordN_I D) j (by omega)
      rw [← e] at this
      omega
    have hD' := drop_ok hD ho.1
    obtain ⟨σ1, a1, a2, a3⟩ := s1_copyFrom N 6 1 hN hE hD (by omega)
    have hE2 := EdR_drop a2 ho.1
    obtain ⟨σ3, Y0, b1, b2', b3, b4, b5, b6⟩ := s3_layOut (σ := st σ1 (6 + 1) (ordN D j) (nI 0)) (g := 65) (Or.inr rfl) hE2 hD' N hN
    have fr : ∀ k, k < 6 ∨ (10 < k ∧ k ≤ 65) ∨ 73 < k → σ3 k = σ k := fun k hk => by
      rw [b2' k (by omega), st_row _ _ _ _ (by omega), a3 k (by omega)]
    rw [lay_drop ho.1 ho.2] at b4
    have hE3 : EdR σ3 (edOf 65) (setD D (ordN D j) 0 0) := hE2.congr (fun k k1 k2 => b2' k (by omega))
    have own := s3_ownPage b4.w hE3 N hs
    rw [stP_indep hD b3 Yz0 hs hne h0 ho.1, show dS (setD D (ordN D j) 0 0) s 1 = dS D s 1 by rw [drop_S (by omega), if_neg (by omega)]] at own
    have step : ∀ r : Int32 → Hp → Option ((Int32 ⊕ Nat) × Hp), f5_blamed_B35 N (nI s) K r (nI j) σ = if ownB D (ordN D j) s then some (.inl (nI (ordN D j)), σ3) else r (nI j - 1) σ3 := by
      intro r
      have dr : f1_dropStory N 6 (nI (ordN D j)) σ1 = some ((), st σ1 (6 + 1) (ordN D j) (nI 0)) := by
        unfold f1_dropStory
        simp (disch := omega) only [q_lit, q_gt, q_bd, q_bxl, q_bxr, q_vib, q_cl, q_pos, q_lt, q_le, q_eq, q_neg, q_neg1, q_negz, q_negeq0, q_neg0le, q_rem, q_div, q_sub, q_if1, q_if0, q_okB0, q_okB1, q_dz, q_dn, q_nb, and_true, true_and, and_false, false_and, nI_add, pk_mul, if_true, if_false, ite_true, ite_false, Nat.add_zero, Nat.zero_add, Nat.reduceAdd, s5_isStoryIndex]
      unfold f5_blamed_B35 f3_storyOfRank
      rw [if_neg (show ¬ nI j < 0 from nI_pos (by omega)), s5_isStoryIndex (show j < 12 by omega), q_bd, if_neg (show ¬ nI 1 = 0 by decide), q_vib (show j < 12 by omega) (by omega), q_gt, q_cl (by omega), h59 j (by omega), q_bd, a1, q_bd, dr, q_bd, b1, q_bd, own, q_bd, sub1]
      unfold ownB
      by_cases w : stP (layN D (ordN D j) Yz (nS D)) s = nI (dS D s 1)
      · rw [if_pos w, decide_eq_true w]
        rfl
      · rw [if_neg w, decide_eq_false w]
        rfl
    rw [it_s, show nI (j + 1) - 1 = nI j from nI_pred j, step]
    show ∃ σ', _ = om (if ownB D (ordN D j) s then some (ordN D j) else blF D s j) _ _ ∧ _
    cases w : ownB D (ordN D j) s
    · obtain ⟨σ', c1, c2⟩ := ih m σ3 (by omega) (by omega) (hE.congr (fun k k1 k2 => fr k (by omega))) (fun k hk => by rw [fr 59 (by omega)]; exact h59 k hk)
      exact ⟨σ', c1, fun k hk => (c2 k hk).trans (fr k hk)⟩
    · exact ⟨σ3, rfl, fr⟩
theorem ref_blamed (hD : DOk D) (N s : Nat) (hN : 500 ≤ N) (hs : s < 12) (h0 : dS D s 0 = 1) (K : Hp → Option (Int32 × Hp)) (z : Int32 → Hp → Option (Int32 × Hp)) : ∀ (j M : Nat) (σ : Hp), j ≤ cnt D s → j < M → NwR σ 85 D → (∀ k, k < nS D → σ 91 k = nI (ordN D k)) → ∃ σ', it z (f6_blamed_B47 N (nI s) K) M (nI j - 1) σ = om (blF D s j) (K σ') (fun w => some (nI w, σ')) ∧ (∀ k, k < 84 ∨ (84 < k ∧ k < 89) ∨ 95 < k → σ' k = σ k) ∧ ∀ i, i ≠ 14 → σ' 84 i = σ 84 i := by
  intro j
  induction j with
  | zero =>
    intro M σ hj hM hE h59
    obtain ⟨m, rfl⟩ : ∃ m, M = m + 1 := ⟨M - 1, by omega⟩
    refine ⟨σ, ?_, fun _ _ => rfl, fun _ _ => rfl⟩
    rw [it_s]
    unfold f6_blamed_B47
    rw [if_pos (show nI 0 - 1 < 0 by decide)]
    rfl
  | succ j ih =>
    intro M σ hj hM hNw h91
    obtain ⟨m, rfl⟩ : ∃ m, M = m + 1 := ⟨M - 1, by omega⟩
    have hle := nS_le D
    have hr := cnt_n hs h0
    have ho := (ordN_I D).1 j (by omega)
    have hne : s ≠ ordN D j := fun e => by
      have := ord_cnt (ordN_I D) j (by omega)
      rw [← e] at this
      omega
    obtain ⟨σ1, a1, a2, a3, a4, a5, a6⟩ := s6_lays hNw hD N (ordN D j) (nI (ordN D j)) (fun t ht => by rw [nI_eq (by omega) (by omega)]) hN Yz Yz0
    have hN1 := hNw.congr (a2 85 (by omega))
    have p := (a6.2.2 s hs ⟨hne, h0⟩).2.2.1
    have p' : σ1 92 s = stP (layN D (ordN D j) Yz (nS D)) s := p
    have step : ∀ r : Int32 → Hp → Option (Int32 × Hp), f6_blamed_B47 N (nI s) K r (nI j) σ = if ownB D (ordN D j) s then some (nI (ordN D j), σ1) else r (nI j - 1) σ1 := by
      intro r
      unfold f6_blamed_B47
      rw [if_neg (show ¬ nI j < 0 from nI_pos (by omega)), q_vib (show j < 12 by omega) (by omega), q_gt, q_cl (show j < 2 ^ 31 by omega), h91 j (by omega), a1, q_bd, q_vib hs (by omega), q_gt, q_cl (show s < 2 ^ 31 by omega), show f6_of N (nI s) 1 σ1 = some (nI (dS D s 1), σ1) from s6_of hN1 hs (k := 1) (by omega) N, q_bd, p', sub1]
      unfold ownB
      by_cases w : stP (layN D (ordN D j) Yz (nS D)) s = nI (dS D s 1)
      · rw [if_pos w, decide_eq_true w]
        rfl
      · rw [if_neg w, decide_eq_false w]
        rfl
    rw [it_s, show nI (j + 1) - 1 = nI j from nI_pred j, step]
    show ∃ σ', _ = om (if ownB D (ordN D j) s then some (ordN D j) else blF D s j) _ _ ∧ _
    cases w : ownB D (ordN D j) s
    · obtain ⟨σ', c1, c2, c3⟩ := ih m σ1 (by omega) (by omega) hN1 a5
      exact ⟨σ', c1, fun k hk => (c2 k hk).trans (a2 k hk), fun i hi => (c3 i hi).trans (a3 i hi)⟩
    · exact ⟨σ1, rfl, a2, a3⟩
end B3
