/-! THE PURE PART. The layout, told once for both sides. -/
abbrev Ly : Type := (Nat → Int32) × (Nat → Int32) × (Nat → Nat) × (Nat → Nat) × (Nat → Nat) × (Nat → Nat → Nat → Nat)
def lc (Y : Ly) : Nat → Int32 := Y.1
def lo (Y : Ly) : Nat → Int32 := Y.2.1
/-- how many parts; how many lines; how deep at the start; the numbers of the parts -/
def ln (Y : Ly) : Nat → Nat := Y.2.2.1
def ll (Y : Ly) : Nat → Nat := Y.2.2.2.1
def ld (Y : Ly) : Nat → Nat := Y.2.2.2.2.1
def lp (Y : Ly) : Nat → Nat → Nat → Nat := Y.2.2.2.2.2
def upN (f : Nat → Nat) (i v : Nat) : Nat → Nat := fun k => if k = i then v else f k
theorem upN_s (f : Nat → Nat) (i v : Nat) : upN f i v i = v := if_pos rfl
theorem upN_n (f : Nat → Nat) (i v : Nat) {k : Nat} (h : k ≠ i) : upN f i v k = f k := if_neg h
def locN (lines w c : Nat) : Nat := (lines + w - 1 - c) / w
def lnR (v : Int32) (i w lines : Nat) : Nat → (Nat → Int32) → (Nat → Int32)
  | 0, f => f
  | c + 1, f => fl v (i + c) 1 (locN lines w c) (lnR v i w lines c f)
def abv (D : Nat → Nat) (s q : Nat) : Nat := if q = 0 then hd D s else 1
def hdR (v : Nat → Int32) (D : Nat → Nat) (s q i w : Nat) (f : Nat → Int32) : Nat → Int32 :=
  if q = 0 then fl (v 4) (i + (dS D s 3 + dS D s 6) * 5) w (dS D s 7) (fl (v 3) (i + dS D s 3 * 5) w (dS D s 6) (fl (v 2) i w (dS D s 3) f)) else fl (v 7) i w 1 f
/-- a row of the pages, behind the painting of a part -/
def pR (v : Nat → Int32) (D : Nat → Nat) (s q i w lr lines j : Nat) (f : Nat → Int32) : Nat → Int32 :=
  fl (v 6) (i + abv D s q * 5 + lr * 5) w j (lnR (v 5) (i + abv D s q * 5) w lines w (fl (v 8) (i + abv D s q * 5) w lr (hdR v D s q i w f)))
def tw (g : Nat) (f f' : Nat → Int32) (σ : Hp) : Hp := sr (sr σ (g + 1) f) (g + 2) f'
theorem tw_self (g : Nat) (σ : Hp) : tw g (σ (g + 1)) (σ (g + 2)) σ = σ := two_row (tr1 ..) (tr2 ..) (fun _ h1 h2 => tr3 _ _ _ _ h1 h2)
theorem tw_1 (g : Nat) (f f' : Nat → Int32) (σ : Hp) : tw g f f' σ (g + 1) = f := tr1 ..
theorem tw_2 (g : Nat) (f f' : Nat → Int32) (σ : Hp) : tw g f f' σ (g + 2) = f' := tr2 ..
theorem tw_n (g : Nat) (f f' : Nat → Int32) (σ : Hp) {k : Nat} (h1 : k ≠ g + 1) (h2 : k ≠ g + 2) : tw g f f' σ k = σ k := tr3 _ _ _ _ h1 h2
theorem pnt_tw (g : Nat) (k o : Int32) (i w h : Nat) (f f' : Nat → Int32) (σ : Hp) : pnt g k o i w h (tw g f f' σ) = tw g (fl k i w h f) (fl o i w h f') σ := by
  unfold pnt
  rw [tw_1, tw_2]
  unfold tw
  apply two_row (g := g)
  · rw [tr1, tr1]
  · rw [tr2, tr2]
  · intro q h1 h2
    rw [tr3 _ _ _ _ h1 h2, tr3 _ _ _ _ h1 h2, tr3 _ _ _ _ h1 h2]
theorem pnt_self (g : Nat) (k o : Int32) (i w h : Nat) (σ : Hp) : pnt g k o i w h σ = tw g (fl k i w h (σ (g + 1))) (fl o i w h (σ (g + 2))) σ := rfl
/-! where things go -/
def goF (c : Nat → Int32) (w h : Nat) (p : Nat) : Option Nat := om (bk c p w h) none (fun a => some (120 * p + a))
def goA (c : Nat → Int32) (p : Nat) : Option Nat := fsN (goF c 1 3) (4 - p) p
def findSt (c : Nat → Int32) (D : Nat → Nat) (s : Nat) : Option Nat := fsN (goF c (dS D s 2) (hd D s + 2)) ((if dS D s 8 = 0 then 3 else dS D s 1) + 1 - dS D s 1) (dS D s 1)
def pW (D : Nat → Nat) (s q : Nat) : Nat := if q = 0 then dS D s 2 else 1
/-- a part's depth below what stands above its lines -/
def pD (D : Nat → Nat) (s q i : Nat) (Y : Ly) : Nat := frn (lc Y) (pW D s q) (24 - i % 120 / 5) i - abv D s q
def pWant (D : Nat → Nat) (s : Nat) (Y : Ly) : Nat := dS D s 4 - ll Y s
def pNx (D : Nat → Nat) (s q i : Nat) (Y : Ly) : Option Nat := if pWant D s Y ≤ pW D s q * pD D s q i Y then none else goA (lc Y) (i / 120 + 1)
def pJ (D : Nat → Nat) (s q i : Nat) (Y : Ly) : Nat := om (pNx D s q i Y) 0 (fun _ => 1)
def pNl (D : Nat → Nat) (s q i : Nat) (Y : Ly) : Nat := if pWant D s Y ≤ pW D s q * pD D s q i Y then pWant D s Y else om (pNx D s q i Y) (pW D s q * pD D s q i Y) (fun _ => pW D s q * (pD D s q i Y - 1))
def pLr (D : Nat → Nat) (s q i : Nat) (Y : Ly) : Nat := (pNl D s q i Y + pW D s q - 1) / pW D s q
def pVal (i w rows lines l j a : Nat) : Nat → Nat := fun k => if k = 0 then i / 120 else if k = 1 then i % 5 else if k = 2 then i % 120 / 5 else if k = 3 then w else if k = 4 then rows else if k = 5 then lines else if k = 6 then l else if k = 7 then j else a
def partY (D : Nat → Nat) (s q i : Nat) (Y : Ly) : Ly :=
  (pR nI D s q i (pW D s q) (pLr D s q i Y) (pNl D s q i Y) (pJ D s q i Y) (lc Y),
   pR (fun _ => nI s) D s q i (pW D s q) (pLr D s q i Y) (pNl D s q i Y) (pJ D s q i Y) (lo Y),
   upN (ln Y) s (q + 1), upN (ll Y) s (ll Y s + pNl D s q i Y), (if q = 0 then upN (ld Y) s (pD D s q i Y) else ld Y),
   fun s' q' k => if s' = s ∧ q' = q then pVal i (pW D s q) (abv D s q + pLr D s q i Y + pJ D s q i Y) (pNl D s q i Y) (ll Y s) (pJ D s q i Y) (abv D s q) k else lp Y s' q' k)
def goY (D : Nat → Nat) (s : Nat) : Nat → Nat → Nat → Ly → Ly
  | 0, _, _, Y => Y
  | n + 1, q, i, Y => om (pNx D s q i Y) (partY D s q i Y) (fun i' => goY D s n (q + 1) i' (partY D s q i Y))
def placeY (D : Nat → Nat) (s : Nat) (Y : Ly) : Ly := om (findSt (lc Y) D s) Y (fun i => goY D s 4 0 i Y)
/-! facts on searches -/
theorem fsN_some {q : Nat → Option Nat} : ∀ {n i a : Nat}, fsN q n i = some a → ∃ j, i ≤ j ∧ j < i + n ∧ q j = some a
  | 0, i, a, h => by simp [fsN] at h
  | n + 1, i, a, h => by
    rw [fsN_s] at h
    cases e : q i with
    | none =>
      rw [e] at h
      obtain ⟨j, h1, h2, h3⟩ := fsN_some (n := n) (i := i + 1) h
      exact ⟨j, by omega, by omega, h3⟩
    | some b =>
      rw [e] at h
      exact ⟨i, by omega, by omega, e.trans h⟩
theorem bk_some {c : Nat → Int32} {p w h a : Nat} (e : bk c p w h = some a) (hw : 1 ≤ w) (hw5 : w ≤ 5) (hh : 1 ≤ h) (hh2 : h ≤ 24) : a / 5 + h ≤ 24 ∧ a % 5 + w ≤ 5 ∧ h ≤ frn c w (24 - a / 5) (120 * p + a) := by
  obtain ⟨r, h1, h2, h3⟩ := fsN_some e
  obtain ⟨k, h4, h5, h6⟩ := fsN_some h3
  unfold bkC at h6
  by_cases z : h ≤ frn c w (24 - r) (120 * p + 5 * r + k)
  · rw [if_pos z] at h6
    have h7 : 5 * r + k = a := Option.some.inj h6
    have e1 : a / 5 = r := by omega
    have e2 : a % 5 = k := by omega
    rw [e1, e2, show 120 * p + a = 120 * p + 5 * r + k by omega]
    exact ⟨by omega, by omega, z⟩
  · rw [if_neg z] at h6
    cases h6
theorem goF_some {c : Nat → Int32} {p w h i : Nat} (e : goF c w h p = some i) (hw : 1 ≤ w) (hw5 : w ≤ 5) (hh : 1 ≤ h) (hh2 : h ≤ 24) : i / 120 = p ∧ i % 120 / 5 + h ≤ 24 ∧ i % 5 + w ≤ 5 ∧ h ≤ frn c w (24 - i % 120 / 5) i := by
  unfold goF at e
  cases z : bk c p w h with
  | none =>
    rw [z] at e
    cases e
  | some a =>
    rw [z] at e
    have e2 : 120 * p + a = i := Option.some.inj e
    have q := bk_some z hw hw5 hh hh2
    have e3 : a / 5 < 24 := by omega
    have e4 : i / 120 = p := by omega
    have e5 : i % 120 / 5 = a / 5 := by omega
    have e6 : i % 5 = a % 5 := by omega
    rw [e4, e5, e6]
    refine ⟨rfl, q.1, q.2.1, ?_⟩
    rw [← e2]
    exact q.2.2
/-- a cell at which a block begins -/
def Ib (c : Nat → Int32) (w h i : Nat) : Prop := i < 480 ∧ i % 120 / 5 + h ≤ 24 ∧ i % 5 + w ≤ 5 ∧ h ≤ frn c w (24 - i % 120 / 5) i
theorem goA_some {c : Nat → Int32} {p i : Nat} (e : goA c p = some i) : p ≤ i / 120 ∧ Ib c 1 3 i := by
  obtain ⟨j, h1, h2, h3⟩ := fsN_some e
  have q := goF_some h3 (by omega) (by omega) (by omega) (by omega)
  refine ⟨by omega, by omega, q.2.1, q.2.2.1, q.2.2.2⟩
theorem findSt_some {c : Nat → Int32} {D : Nat → Nat} {s i : Nat} (hD : SOk D s) (h0 : dS D s 0 = 1) (e : findSt c D s = some i) : Ib c (dS D s 2) (hd D s + 2) i := by
  obtain ⟨j, h1, h2, h3⟩ := fsN_some e
  obtain ⟨a0, a1, a2, a3, a4, a5, a6, a7, a8, a9⟩ := hD
  have a10 := a9 h0
  have q := goF_some h3 (by omega) (by omega) (by omega) (by unfold hd; omega)
  refine ⟨?_, q.2.1, q.2.2.1, q.2.2.2⟩
  have : (if dS D s 8 = 0 then 3 else dS D s 1) ≤ 3 := by
    split
    · omega
    · omega
  omega
