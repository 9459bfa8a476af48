/-! THE PURE PART. What holds between two calls. -/
def Core (σ : Hp) (D : Nat → Nat) : Prop := DOk D ∧ EdR σ 1 D ∧ NwR σ 85 D
/-- a layout, as a query needs it: the owners of free cells are not asked for (a new makeup's are 0) -/
def PgW (g : Nat) (σ : Hp) (Y : Ly) : Prop :=
  σ (g + 1) = lc Y ∧ (∀ i, lc Y i ≠ nI 0 → σ (g + 2) i = lo Y i) ∧ (∀ s, s < 12 → σ (g + 5) s = nI (ln Y s) ∧ σ (g + 7) s = nI (ll Y s) ∧ σ (g + 8) s = nI (ld Y s) ∧ ln Y s ≤ 4) ∧ (∀ s q k, s < 12 → q < ln Y s → k < 9 → σ (g + 6) ((s * 4 + q) * 9 + k) = nI (lp Y s q k))
theorem PgR.w {g : Nat} {σ : Hp} {Y : Ly} (h : PgR g σ Y) : PgW g σ Y := ⟨h.1, fun i _ => by rw [h.2.1], h.2.2⟩
def LayI (σ : Hp) (D : Nat → Nat) : Prop := ∃ Y0, Ly0 Y0 ∧ PgW 56 σ (layN D 99 Y0 (nS D)) ∧ (∀ s, s < 12 → dS D s 0 = 1 → σ 60 s = nI (cnt D s)) ∧ (∀ k, k < nS D → σ 59 k = nI (ordN D k))
def Hist (σ : Hp) : Prop := ∃ c n Es, HiC σ c n Es ∧ HiM σ c Es
def Sav (σ : Hp) : Prop := (σ 0 8 = nI 0 ∧ σ 84 6 = nI 0) ∨ (σ 0 8 = nI 1 ∧ σ 84 6 = nI 1 ∧ ∃ E, DOk E ∧ EdR σ 11 E ∧ NwR σ 87 E)
def ShS (v : Nat → Nat) : Prop := v 0 ≤ 3 ∧ 1 ≤ v 1 ∧ v 1 ≤ 3 ∧ 1 ≤ v 2 ∧ v 2 ≤ 3 ∧ 1 ≤ v 3 ∧ v 3 ≤ 150 ∧ v 4 ≤ 9 ∧ v 5 ≤ 8 ∧ v 6 ≤ 2 ∧ v 7 ≤ 1
def ShA (v : Nat → Nat) : Prop := v 0 ≤ 3 ∧ v 1 ≤ 4 ∧ v 2 ≤ 23 ∧ 1 ≤ v 3 ∧ v 1 + v 3 ≤ 5 ∧ 1 ≤ v 4 ∧ v 2 + v 4 ≤ 24 ∧ 1 ≤ v 5 ∧ v 5 ≤ 999
def Shf (σ : Hp) : Prop := ∀ p, p < 12 → (σ 77 p = nI 0 ∧ σ 96 p = nI 0) ∨ (σ 77 p = nI 1 ∧ σ 96 p = nI 1 ∧ ∃ v, ShS v ∧ ∀ k, k < 8 → σ 78 (p * 8 + k) = nI (v k) ∧ σ 97 (9 * p + 1 + k) = nI (v k)) ∨ (σ 77 p = nI 2 ∧ σ 96 p = nI 2 ∧ ∃ v, ShA v ∧ ∀ k, k < 6 → σ 78 (p * 8 + k) = nI (v k) ∧ σ 97 (9 * p + 1 + k) = nI (v k))
def Inp (σ : Hp) : Prop := ∃ L, L ≤ 80 ∧ σ 79 1 = nI L ∧ σ 84 19 = nI L ∧ ∀ i, i < L → ∃ a, a < 65536 ∧ σ 80 i = nI a ∧ σ 98 i = nI a
def Rep (σ : Hp) : Prop := (σ 0 9 = nI 0 ∧ σ 84 21 = -nI 1) ∨ (σ 0 9 = nI 1 ∧ ∃ a b, a < 1000 ∧ σ 0 10 = nI a ∧ σ 84 21 = nI a ∧ σ 0 11 = nI b ∧ σ 84 22 = nI b)
def OT (σ : Hp) : Prop := Sav σ ∧ Shf σ ∧ Inp σ ∧ Rep σ
def Inv (σ : Hp) : Prop := ∃ D, Core σ D ∧ LayI σ D ∧ Hist σ ∧ OT σ
/-- rows that a call of most kinds leaves alone -/
def Rest (σ σ' : Hp) : Prop := (∀ k, k = 0 ∨ (11 ≤ k ∧ k ≤ 15) ∨ k = 77 ∨ k = 78 ∨ k = 80 ∨ k = 87 ∨ (96 ≤ k ∧ k ≤ 98) → σ' k = σ k) ∧ σ' 79 1 = σ 79 1 ∧ σ' 84 6 = σ 84 6 ∧ σ' 84 19 = σ 84 19 ∧ σ' 84 21 = σ 84 21 ∧ σ' 84 22 = σ 84 22
theorem Rest.refl (σ : Hp) : Rest σ σ := ⟨fun _ _ => rfl, rfl, rfl, rfl, rfl, rfl⟩
theorem Rest.trans {σ σ' σ'' : Hp} (h : Rest σ σ') (h2 : Rest σ' σ'') : Rest σ σ'' :=
  ⟨fun k hk => (h2.1 k hk).trans (h.1 k hk), h2.2.1.trans h.2.1, h2.2.2.1.trans h.2.2.1, h2.2.2.2.1.trans h.2.2.2.1, h2.2.2.2.2.1.trans h.2.2.2.2.1, h2.2.2.2.2.2.trans h.2.2.2.2.2⟩
theorem Rest.of {σ σ' : Hp} (h : ∀ k, k = 0 ∨ (11 ≤ k ∧ k ≤ 15) ∨ (77 ≤ k ∧ k ≤ 80) ∨ k = 87 ∨ (96 ≤ k ∧ k ≤ 98) → σ' k = σ k) (h84 : ∀ i, i ≠ 0 → i ≠ 5 → i ≠ 14 → σ' 84 i = σ 84 i) : Rest σ σ' :=
  ⟨fun k hk => h k (by omega), by rw [h 79 (by omega)], h84 6 (by omega) (by omega) (by omega), h84 19 (by omega) (by omega) (by omega), h84 21 (by omega) (by omega) (by omega), h84 22 (by omega) (by omega) (by omega)⟩
theorem OT.congr {σ σ' : Hp} (h : OT σ) (r : Rest σ σ') : OT σ' := by
  obtain ⟨h1, h2, h3, h4⟩ := h
  obtain ⟨r1, r2, r3, r4, r5, r6⟩ := r
  refine ⟨?_, ?_, ?_, ?_⟩
  · unfold Sav at h1 ⊢
    rw [r1 0 (by omega), r3]
    rcases h1 with h1 | ⟨a, b, E, e1, e2, e3⟩
    · exact Or.inl h1
    · exact Or.inr ⟨a, b, E, e1, e2.congr (fun k k1 k2 => r1 k (by omega)), e3.congr (r1 87 (by omega))⟩
  · unfold Shf at h2 ⊢
    rw [r1 77 (by omega), r1 78 (by omega), r1 96 (by omega), r1 97 (by omega)]
    exact h2
  · unfold Inp at h3 ⊢
    rw [r2, r4, r1 80 (by omega), r1 98 (by omega)]
    exact h3
  · unfold Rep at h4 ⊢
    rw [r1 0 (by omega), r5, r6]
    exact h4
theorem LayI.congr {σ σ' : Hp} {D : Nat → Nat} (h : LayI σ D) (e : ∀ k, 56 ≤ k → k ≤ 64 → σ' k = σ k) : LayI σ' D := by
  obtain ⟨Y0, h1, h2, h3, h4⟩ := h
  refine ⟨Y0, h1, ?_, ?_, ?_⟩
  · unfold PgW at h2 ⊢
    rw [e 57 (by omega) (by omega), e 58 (by omega) (by omega), e 61 (by omega) (by omega), e 62 (by omega) (by omega), e 63 (by omega) (by omega), e 64 (by omega) (by omega)]
    exact h2
  · rw [e 60 (by omega) (by omega)]
    exact h3
  · rw [e 59 (by omega) (by omega)]
    exact h4
theorem HiC.congr {σ σ' : Hp} {c n : Nat} {Es : Nat → Nat → Nat} (h : HiC σ c n Es) (e : ∀ k, (16 ≤ k ∧ k ≤ 55) ∨ k = 74 → σ' k = σ k) : HiC σ' c n Es := by
  obtain ⟨h1, h2, h3, h4, h5⟩ := h
  refine ⟨?_, ?_, h3, h4, fun k hk => ⟨(h5 k hk).1, (h5 k hk).2.congr (fun q q1 q2 => e q (by omega))⟩⟩
  · rw [e 74 (by omega)]
    exact h1
  · rw [e 74 (by omega)]
    exact h2
theorem HiM.congr {σ σ' : Hp} {c : Nat} {Es : Nat → Nat → Nat} (h : HiM σ c Es) (e : σ' 88 = σ 88) (e2 : σ' 84 5 = σ 84 5) : HiM σ' c Es := by
  unfold HiM at h ⊢
  rw [e, e2]
  exact h
theorem s3_layI {σ : Hp} {D : Nat → Nat} (hE : EdR σ 1 D) (hD : DOk D) (N : Nat) (hN : 500 ≤ N) : ∃ σ', f3_layOut N 56 σ = some ((), σ') ∧ LayI σ' D ∧ ∀ k, k ≤ 56 ∨ 64 < k → σ' k = σ k := by
  obtain ⟨σ', Y0, h1, h2, h3, h4, h5, h6⟩ := s3_layOut (σ := σ) (g := 56) (Or.inl rfl) hE hD N hN
  exact ⟨σ', h1, ⟨Y0, h3, h4.w, h5, h6⟩, fun k hk => h2 k (by omega)⟩
section M1
variable {σ : Hp} {D D' : Nat → Nat} {c n : Nat} {Es : Nat → Nat → Nat}
/-- behind the class's part of a change -/
def Mid (σ σ' : Hp) (D' : Nat → Nat) (c n : Nat) (Es : Nat → Nat → Nat) (D : Nat → Nat) : Prop := EdR σ' 1 D' ∧ LayI σ' D' ∧ HiC σ' (pushC c) ((n + 1) % 8) (pushE c Es D) ∧ ∀ k, k = 0 ∨ (5 < k ∧ k < 16) ∨ (64 < k ∧ k ≠ 74) → σ' k = σ k
theorem mut_class {α β : Type} (N : Nat) (hN : 500 ≤ N) (hE : EdR σ 1 D) (hD : DOk D) (hD' : DOk D') (hH : HiC σ c n Es) (put : Hp → Option (α × Hp)) (r : α) (hput : ∀ τ, EdR τ 1 D → ∃ τ', put τ = some (r, τ') ∧ EdR τ' 1 D' ∧ ∀ k, k = 0 ∨ 5 < k → τ' k = τ k) : ∃ σ', (∀ K : α → Hp → Option β, bd (f2_remember N 1 σ) (fun _ σ1 => bd (put σ1) (fun a σ2 => bd (f3_layOut N 56 σ2) (fun _ σ3 => K a σ3))) = K r σ') ∧ Mid σ σ' D' c n Es D := by
  obtain ⟨σ1, a1, a2, a3⟩ := s2_remember N c n hN Es hE hD hH
  have hE1 : EdR σ1 1 D := hE.congr (fun k k1 k2 => a3 k (by omega))
  obtain ⟨σ2, b1, b2, b3⟩ := hput σ1 hE1
  obtain ⟨σ3, c1, c2, c3⟩ := s3_layI b2 hD' N hN
  refine ⟨σ3, fun K => ?_, b2.congr (fun k k1 k2 => c3 k (by omega)), c2, a2.congr (fun k hk => ?_), fun k hk => ?_⟩
  · rw [a1, q_bd, b1, q_bd, c1, q_bd]
  · rw [c3 k (by omega), b3 k (by omega)]
  · rw [c3 k (by omega), b3 k (by omega), a3 k (by omega)]
/-- the reference's part of a change -/
theorem mut_ref {σm : Hp} (N : Nat) (hN : 500 ≤ N) (hD' : DOk D') (hM : Mid σ σm D' c n Es D) (hNw : NwR σ 85 D) (hc : c ≤ 8) (hH : HiM σ c Es) (hO : OT σ) (x : Int32) (put : Hp → Option (Int32 × Hp)) (r : Int32) (hput : ∀ τ, NwR τ 85 D → τ 84 0 = nI 0 → ∃ τ', put τ = some (r, τ') ∧ NwR τ' 85 D' ∧ ∀ k, k ≠ 85 → τ' k = τ k) : ∃ σ', bd (f6_begins N (st σm 100 0 x)) (fun _ σ1 => bd (put σ1) (fun a σ2 => bd (f6_ends N a σ2) (fun b σ3 => some (b, σ3)))) = some (r, σ') ∧ σ' 84 0 = nI 0 ∧ σ' 100 0 = x ∧ Inv σ' := by
  obtain ⟨m1, m2, m3, m4⟩ := hM
  have hNm : NwR (st σm 100 0 x) 85 D := hNw.congr (by rw [st_row _ _ _ _ (by omega)]; exact m4 85 (by omega))
  obtain ⟨σ1, a1, a2, a3, a4, a5⟩ := s6_begins N hN hNm
  have hN1 : NwR σ1 85 D := hNm.congr (a5 85 (by omega) (by omega))
  obtain ⟨σ2, b1, b2, b3⟩ := hput σ1 hN1 a3
  have h84 : ∀ i, i ≠ 0 → σ2 84 i = σ 84 i := fun i hi => by rw [b3 84 (by omega), a4 i hi, st_row _ _ _ _ (by omega), m4 84 (by omega)]
  have hH2 : HiM σ2 c Es := hH.congr (by rw [b3 88 (by omega), a5 88 (by omega) (by omega), st_row _ _ _ _ (by omega), m4 88 (by omega)]) (h84 5 (by omega))
  obtain ⟨σ3, c1, c2, c3, c4⟩ := s6_ends N c hN r Es (a2.congr (b3 86 (by omega))) hc hH2 (by rw [b3 84 (by omega)]; exact a3)
  have fr : ∀ k, k ≠ 84 → k ≠ 85 → k ≠ 86 → k ≠ 88 → k ≠ 100 → σ3 k = σm k := fun k k1 k2 k3 k4 k5 => by
    rw [c4 k k1 k4, b3 k k2, a5 k k1 k3, st_row _ _ _ _ k5]
  refine ⟨σ3, ?_, ?_, ?_, D', ⟨hD', m1.congr (fun k k1 k2 => fr k (by omega) (by omega) (by omega) (by omega) (by omega)), b2.congr (c4 85 (by omega) (by omega))⟩, m2.congr (fun k k1 k2 => fr k (by omega) (by omega) (by omega) (by omega) (by omega)), ⟨_, _, _, m3.congr (fun k hk => fr k (by omega) (by omega) (by omega) (by omega) (by omega)), c2⟩, hO.congr (Rest.of (fun k hk => ?_) (fun i i1 i2 i3 => ?_))⟩
  · rw [a1, q_bd, b1, q_bd, c1, q_bd]
  · rw [c3 0 (by omega), b3 84 (by omega)]
    exact a3
  · rw [c4 100 (by omega) (by omega), b3 100 (by omega), a5 100 (by omega) (by omega), st_same]
  · rw [fr k (by omega) (by omega) (by omega) (by omega) (by omega)]
    exact m4 k (by omega)
  · rw [c3 i i2, h84 i i1]
/-- a call that the reference refuses: nothing that counts is changed -/
theorem inv_keep {σ' : Hp} (h : Inv σ) (e : ∀ k, k ≤ 64 ∨ (74 ≤ k ∧ k ≤ 83) ∨ k = 85 ∨ k = 87 ∨ k = 88 ∨ (96 ≤ k ∧ k ≤ 98) → σ' k = σ k) (e84 : ∀ i, i ≠ 0 → i ≠ 14 → σ' 84 i = σ 84 i) : Inv σ' := by
  obtain ⟨D, ⟨h1, h2, h3⟩, h4, ⟨c, n, Es, h5, h6⟩, h7⟩ := h
  exact ⟨D, ⟨h1, h2.congr (fun k k1 k2 => e k (by omega)), h3.congr (e 85 (by omega))⟩, h4.congr (fun k k1 k2 => e k (by omega)), ⟨c, n, Es, h5.congr (fun k hk => e k (by omega)), h6.congr (e 88 (by omega)) (e84 5 (by omega) (by omega))⟩, h7.congr (Rest.of (fun k hk => e k (by omega)) (fun i i1 i2 i3 => e84 i i1 i3))⟩
theorem ref_refuse (N : Nat) (hN : 500 ≤ N) (hI : Inv σ) (hNw : NwR σ 85 D) (f : Nat) (hf : 0 < f) (hf2 : f < 10) (put : Hp → Option (Int32 × Hp)) (hput : ∀ τ, NwR τ 85 D → put τ = some (nI 0, st τ 84 0 (nI f))) : ∃ σ' r, bd (f6_begins N σ) (fun _ σ1 => bd (put σ1) (fun a σ2 => bd (f6_ends N a σ2) (fun b σ3 => some (b, σ3)))) = some (r, σ') ∧ σ' 84 0 = nI f ∧ Inv σ' := by
  obtain ⟨σ1, a1, a2, a3, a4, a5⟩ := s6_begins N hN hNw
  refine ⟨st σ1 84 0 (nI f), nI 0, ?_, st_same _ _ _ _, inv_keep hI (fun k hk => ?_) (fun i i1 i2 => ?_)⟩
  · rw [a1, q_bd, hput σ1 (hNw.congr (a5 85 (by omega) (by omega))), q_bd, s6_ends1 N f _ (st_same _ _ _ _) hf hf2, q_bd]
  · rw [st_row _ _ _ _ (by omega)]
    exact a5 k (by omega) (by omega)
  · rw [st_ne _ _ _ _ (Or.inr i1)]
    exact a4 i i1
end M1
