/-! THE PURE PART. The order of the stories, on both sides. -/
/-- a loop whose states are told by an invariant -/
theorem lpx {T α : Type} (z : T) (B : T → T) (ap : T → Nat → Hp → Option α) (K : Hp → Option α) (m : Nat) (Inv : Nat → Hp → Prop) (he : ∀ r σ, Inv m σ → ap (B r) m σ = K σ) (hb : ∀ r i σ, i < m → Inv i σ → ∃ σ', Inv (i + 1) σ' ∧ ap (B r) i σ = ap r (i + 1) σ') : ∀ d i n σ, i + d = m → d < n → Inv i σ → ∃ σ', Inv m σ' ∧ ap (it z B n) i σ = K σ' := by
  intro d
  induction d with
  | zero =>
    intro i n σ h1 h2 hI
    obtain ⟨k, rfl⟩ : ∃ k, n = k + 1 := ⟨n - 1, by omega⟩
    obtain rfl : i = m := by omega
    rw [it_s]
    exact ⟨σ, hI, he _ σ hI⟩
  | succ d ih =>
    intro i n σ h1 h2 hI
    obtain ⟨k, rfl⟩ : ∃ k, n = k + 1 := ⟨n - 1, by omega⟩
    rw [it_s]
    obtain ⟨σ1, h3, h4⟩ := hb (it z B k) i σ (by omega) hI
    obtain ⟨σ', h5, h6⟩ := ih (i + 1) k σ1 (by omega) (by omega) h3
    exact ⟨σ', h5, h4.trans h6⟩
/-- a story's place in the order: the less, the earlier -/
def kR (D : Nat → Nat) (s : Nat) : Nat := ((1 - dS D s 8) * 10 + (9 - dS D s 5)) * 12 + s
def cntB (p : Nat → Bool) : Nat → Nat
  | 0 => 0
  | n + 1 => cntB p n + if p n then 1 else 0
theorem cntB_le (p : Nat → Bool) : ∀ n, cntB p n ≤ n
  | 0 => Nat.le_refl 0
  | n + 1 => by
    have := cntB_le p n
    unfold cntB
    split
    · omega
    · omega
theorem cntB_mono {p q : Nat → Bool} : ∀ {n : Nat}, (∀ a, a < n → p a = true → q a = true) → cntB p n ≤ cntB q n
  | 0, _ => Nat.le_refl 0
  | n + 1, h => by
    have ih := cntB_mono (p := p) (q := q) (n := n) (fun a ha => h a (by omega))
    have hn := h n (by omega)
    unfold cntB
    by_cases z : p n = true
    · rw [if_pos z, if_pos (hn z)]
      omega
    · rw [if_neg z]
      omega
theorem cntB_lt {p q : Nat → Bool} : ∀ {n : Nat}, (∀ a, a < n → p a = true → q a = true) → ∀ a, a < n → p a = false → q a = true → cntB p n < cntB q n
  | 0, _, a, ha, _, _ => absurd ha (Nat.not_lt_zero a)
  | n + 1, h, a, ha, h1, h2 => by
    have hm := cntB_mono (p := p) (q := q) (n := n) (fun a ha => h a (by omega))
    unfold cntB
    by_cases z : a = n
    · subst z
      rw [if_neg (by rw [h1]; decide), if_pos h2]
      omega
    · have ih := cntB_lt (n := n) (fun a ha => h a (by omega)) a (by omega) h1 h2
      have hn := h n (by omega)
      by_cases z : p n = true
      · rw [if_pos z, if_pos (hn z)]
        omega
      · rw [if_neg z]
        omega
theorem cntB_congr {p q : Nat → Bool} : ∀ {n : Nat}, (∀ a, a < n → p a = q a) → cntB p n = cntB q n
  | 0, _ => rfl
  | n + 1, h => by
    unfold cntB
    rw [cntB_congr (n := n) (fun a ha => h a (by omega)), h n (by omega)]
theorem cntB_add {p : Nat → Bool} {b : Nat} (hb : p b = false) : ∀ {n : Nat}, b < n → cntB (fun a => p a || decide (a = b)) n = cntB p n + 1
  | 0, h => absurd h (Nat.not_lt_zero b)
  | n + 1, h => by
    unfold cntB
    by_cases z : b = n
    · subst z
      rw [cntB_congr (q := p) (fun a ha => by simp; omega)]
      simp [hb]
    · rw [cntB_add hb (n := n) (by omega)]
      have : (p n || decide (n = b)) = p n := by
        have : decide (n = b) = false := decide_eq_false (by omega)
        rw [this, Bool.or_false]
      rw [this]
      omega
def befB (D : Nat → Nat) (s o : Nat) : Bool := decide (dS D o 0 = 1 ∧ kR D o < kR D s)
/-- how many stories come before this one -/
def cnt (D : Nat → Nat) (s : Nat) : Nat := cntB (befB D s) 12
def nS (D : Nat → Nat) : Nat := cntB (fun o => decide (dS D o 0 = 1)) 12
theorem cnt_lt {D : Nat → Nat} {s t : Nat} (hs : s < 12) (h0 : dS D s 0 = 1) (h : kR D s < kR D t) : cnt D s < cnt D t := by
  refine cntB_lt (fun a ha h1 => ?_) s hs ?_ ?_
  · have := of_decide_eq_true h1
    exact decide_eq_true ⟨this.1, by omega⟩
  · exact decide_eq_false (fun h => by omega)
  · exact decide_eq_true ⟨h0, h⟩
theorem cnt_n {D : Nat → Nat} {s : Nat} (hs : s < 12) (h0 : dS D s 0 = 1) : cnt D s < nS D := by
  refine cntB_lt (fun a ha h1 => ?_) s hs ?_ ?_
  · exact decide_eq_true (of_decide_eq_true h1).1
  · exact decide_eq_false (fun h => by omega)
  · exact decide_eq_true h0
theorem nS_le (D : Nat → Nat) : nS D ≤ 12 := cntB_le _ _
theorem kR_inj {D : Nat → Nat} {s t : Nat} (hs : s < 12) (ht : t < 12) (h : kR D s = kR D t) : s = t := by
  unfold kR at h
  omega
theorem cnt_inj {D : Nat → Nat} {s t : Nat} (hs : s < 12) (ht : t < 12) (h0 : dS D s 0 = 1) (h1 : dS D t 0 = 1) (h : cnt D s = cnt D t) : s = t := by
  rcases Nat.lt_trichotomy (kR D s) (kR D t) with q | q | q
  · have := cnt_lt hs h0 q
    omega
  · exact kR_inj hs ht q
  · have := cnt_lt ht h1 q
    omega
/-! the order by insertion, as the reference goes -/
def posA (p : Nat → Bool) : Nat → Nat
  | 0 => 0
  | n + 1 => if p n then posA p n else n + 1
theorem posA_le (p : Nat → Bool) : ∀ n, posA p n ≤ n
  | 0 => Nat.le_refl 0
  | n + 1 => by
    have := posA_le p n
    unfold posA
    split
    · omega
    · omega
theorem posA_yes (p : Nat → Bool) : ∀ n k, posA p n ≤ k → k < n → p k = true
  | 0, k, _, h => absurd h (Nat.not_lt_zero k)
  | n + 1, k, h1, h2 => by
    unfold posA at h1
    by_cases z : p n = true
    · rw [if_pos z] at h1
      by_cases z2 : k = n
      · rw [z2]
        exact z
      · exact posA_yes p n k h1 (by omega)
    · rw [if_neg z] at h1
      omega
theorem posA_no (p : Nat → Bool) : ∀ n, 0 < posA p n → p (posA p n - 1) = false
  | 0, h => absurd h (Nat.not_lt_zero 0)
  | n + 1, h => by
    unfold posA at h ⊢
    by_cases z : p n = true
    · rw [if_pos z] at h ⊢
      exact posA_no p n h
    · rw [if_neg z] at h ⊢
      exact Bool.eq_false_iff.mpr z
def insA (o : Nat → Nat) (t s : Nat) : Nat → Nat := fun k => if k < t then o k else if k = t then s else o (k - 1)
def ahB (D : Nat → Nat) (o : Nat → Nat) (s : Nat) : Nat → Bool := fun k => decide (kR D s < kR D (o k))
def ordF (D : Nat → Nat) : Nat → (Nat → Nat) × Nat
  | 0 => (fun _ => 0, 0)
  | m + 1 => if dS D m 0 = 1 then (insA (ordF D m).1 (posA (ahB D (ordF D m).1 m) (ordF D m).2) m, (ordF D m).2 + 1) else ordF D m
def ordN (D : Nat → Nat) : Nat → Nat := (ordF D 12).1
def OrdI (D : Nat → Nat) (m : Nat) (o : Nat → Nat) (n : Nat) : Prop :=
  (∀ k, k < n → o k < m ∧ dS D (o k) 0 = 1) ∧ (∀ i j, i < j → j < n → kR D (o i) < kR D (o j)) ∧ (∀ s, s < m → dS D s 0 = 1 → ∃ k, k < n ∧ o k = s)
theorem ordF_I (D : Nat → Nat) : ∀ m, m ≤ 12 → OrdI D m (ordF D m).1 (ordF D m).2
  | 0, _ => ⟨fun k h => absurd h (Nat.not_lt_zero k), fun i j _ h => absurd h (Nat.not_lt_zero j), fun s h => absurd h (Nat.not_lt_zero s)⟩
  | m + 1, hm => by
    obtain ⟨h1, h2, h3⟩ := ordF_I D m (by omega)
    unfold ordF
    by_cases z : dS D m 0 = 1
    · rw [if_pos z]
      have hp := posA_le (ahB D (ordF D m).1 m) (ordF D m).2
      have hy := posA_yes (ahB D (ordF D m).1 m) (ordF D m).2
      have hn := posA_no (ahB D (ordF D m).1 m) (ordF D m).2
      revert hp hy hn
      generalize posA (ahB D (ordF D m).1 m) (ordF D m).2 = t
      generalize ordF D m = q at h1 h2 h3 ⊢
      intro hp hy hn
      have hlow : ∀ k, k < t → kR D (q.1 k) < kR D m := by
        intro k hk
        have h4 := of_decide_eq_false (hn (by omega))
        have h5 : kR D (q.1 (t - 1)) ≠ kR D m := fun e => by
          have := kR_inj (D := D) (by have := (h1 (t - 1) (by omega)).1; omega) (by omega) e
          have := (h1 (t - 1) (by omega)).1
          omega
        by_cases e : k = t - 1
        · rw [e]
          omega
        · have := h2 k (t - 1) (by omega) (by omega)
          omega
      have hhigh : ∀ k, t ≤ k → k < q.2 → kR D m < kR D (q.1 k) := fun k a b => of_decide_eq_true (hy k a b)
      refine ⟨?_, ?_, ?_⟩
      · intro k hk
        show insA q.1 t m k < m + 1 ∧ dS D (insA q.1 t m k) 0 = 1
        unfold insA
        by_cases c1 : k < t
        · rw [if_pos c1]
          have := h1 k (by omega)
          exact ⟨by omega, this.2⟩
        · rw [if_neg c1]
          by_cases c2 : k = t
          · rw [if_pos c2]
            exact ⟨by omega, z⟩
          · rw [if_neg c2]
            have := h1 (k - 1) (by have : k < q.2 + 1 := hk; omega)
            exact ⟨by omega, this.2⟩
      · intro i j hij hj
        replace hj : j < q.2 + 1 := hj
        show kR D (insA q.1 t m i) < kR D (insA q.1 t m j)
        unfold insA
        by_cases c1 : i < t
        · rw [if_pos c1]
          by_cases c2 : j < t
          · rw [if_pos c2]
            exact h2 i j hij (by omega)
          · rw [if_neg c2]
            by_cases c3 : j = t
            · rw [if_pos c3]
              exact hlow i c1
            · rw [if_neg c3]
              have := hlow i c1
              have := hhigh (j - 1) (by omega) (by omega)
              omega
        · rw [if_neg c1, if_neg (show ¬ j < t by omega), if_neg (show ¬ j = t by omega)]
          by_cases c3 : i = t
          · rw [if_pos c3]
            exact hhigh (j - 1) (by omega) (by omega)
          · rw [if_neg c3]
            exact h2 (i - 1) (j - 1) (by omega) (by omega)
      · intro s hs h0
        show ∃ k, k < q.2 + 1 ∧ insA q.1 t m k = s
        by_cases c : s = m
        · refine ⟨t, by omega, ?_⟩
          unfold insA
          rw [if_neg (by omega), if_pos rfl, c]
        · obtain ⟨k, k1, k2⟩ := h3 s (by omega) h0
          by_cases c1 : k < t
          · refine ⟨k, by omega, ?_⟩
            unfold insA
            rw [if_pos c1, k2]
          · refine ⟨k + 1, by omega, ?_⟩
            unfold insA
            rw [if_neg (by omega), if_neg (by omega), Nat.add_sub_cancel, k2]
    · rw [if_neg z]
      refine ⟨fun k hk => ⟨by have := (h1 k hk).1; omega, (h1 k hk).2⟩, h2, fun s hs h0 => ?_⟩
      have : s ≠ m := fun e => z (by rw [← e]; exact h0)
      exact h3 s (by omega) h0
def memB (o : Nat → Nat) : Nat → Nat → Bool
  | 0, _ => false
  | k + 1, a => memB o k a || decide (a = o k)
theorem memB_iff (o : Nat → Nat) : ∀ k a, memB o k a = true ↔ ∃ j, j < k ∧ o j = a
  | 0, a => ⟨fun h => (Bool.false_ne_true h).elim, fun ⟨j, h, _⟩ => absurd h (Nat.not_lt_zero j)⟩
  | k + 1, a => by
    unfold memB
    rw [Bool.or_eq_true, memB_iff o k a, decide_eq_true_iff]
    constructor
    · rintro (⟨j, j1, j2⟩ | e)
      · exact ⟨j, by omega, j2⟩
      · exact ⟨k, by omega, e.symm⟩
    · rintro ⟨j, j1, j2⟩
      by_cases e : j = k
      · exact Or.inr (by rw [← j2, e])
      · exact Or.inl ⟨j, by omega, j2⟩
theorem memB_cnt {D : Nat → Nat} {o : Nat → Nat} {n : Nat} (h : OrdI D 12 o n) : ∀ k, k ≤ n → cntB (memB o k) 12 = k
  | 0, _ => by
    have : ∀ m, cntB (memB o 0) m = 0 := by
      intro m
      induction m with
      | zero => rfl
      | succ m ih =>
        unfold cntB
        rw [ih]
        rfl
    exact this 12
  | k + 1, hk => by
    have h1 : memB o k (o k) = false := by
      apply Bool.eq_false_iff.mpr
      intro q
      obtain ⟨j, j1, j2⟩ := (memB_iff o k (o k)).mp q
      have := h.2.1 j k j1 (by omega)
      rw [j2] at this
      omega
    have h2 := cntB_add (p := memB o k) (b := o k) h1 (n := 12) (h.1 k (by omega)).1
    rw [memB_cnt h k (by omega)] at h2
    exact h2
theorem ord_cnt {D : Nat → Nat} {o : Nat → Nat} {n : Nat} (h : OrdI D 12 o n) (k : Nat) (hk : k < n) : cnt D (o k) = k := by
  refine Eq.trans (cntB_congr (fun a ha => ?_)) (memB_cnt h k (by omega))
  apply Bool.eq_iff_iff.mpr
  rw [memB_iff]
  unfold befB
  rw [decide_eq_true_iff]
  constructor
  · rintro ⟨a1, a2⟩
    obtain ⟨j, j1, j2⟩ := h.2.2 a ha a1
    refine ⟨j, ?_, j2⟩
    rcases Nat.lt_or_ge j k with q | q
    · exact q
    · rcases Nat.eq_or_lt_of_le q with e | e
      · rw [← j2, ← e] at a2
        omega
      · have := h.2.1 k j e j1
        rw [j2] at this
        omega
  · rintro ⟨j, j1, j2⟩
    rw [← j2]
    exact ⟨(h.1 j (by omega)).2, h.2.1 j k j1 hk⟩
theorem ord_n {D : Nat → Nat} {o : Nat → Nat} {n : Nat} (h : OrdI D 12 o n) : n = nS D := by
  refine Eq.trans (memB_cnt h n (Nat.le_refl _)).symm (cntB_congr (fun a ha => ?_))
  apply Bool.eq_iff_iff.mpr
  rw [memB_iff, decide_eq_true_iff]
  constructor
  · rintro ⟨j, j1, j2⟩
    rw [← j2]
    exact (h.1 j j1).2
  · intro h0
    exact h.2.2 a ha h0
theorem ordN_I (D : Nat → Nat) : OrdI D 12 (ordN D) (nS D) := by
  have h := ordF_I D 12 (Nat.le_refl _)
  rw [← ord_n h]
  exact h
theorem ordF_n (D : Nat → Nat) : (ordF D 12).2 = nS D := ord_n (ordF_I D 12 (Nat.le_refl _))
