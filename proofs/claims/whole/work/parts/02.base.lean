/-! The uniform world: every cell of the class, of the reference and of the law's two out rows, at addresses ea E k; the ints in them are one function Hp. -/
def lw_all : List Cond := lw_tbl.filter goodWord
theorem mem_all {w : Cond} (i : Nat) (h : lw_tbl[i]? = some w) (g : goodWord w = true) : w ∈ lw_all := List.mem_filter.mpr ⟨List.mem_of_getElem? h, g⟩
theorem all_good : ∀ w ∈ lw_all, goodWord w = true := fun w h => (List.mem_filter.mp h).2
theorem good_all : GoodIn lw_all lw_all := fun w h => ⟨h, good_of_word (all_good w h)⟩
abbrev Hp : Type := Nat → Nat → Int32
abbrev En : Type := va_G × (Nat → Nat) × (Nat → ClassId) × UInt64
def eD (E : En) : va_G := E.1
def ea (E : En) (k : Nat) : Nat := E.2.1 k
def eC (E : En) (k : Nat) : ClassId := E.2.2.1 k
def eV (E : En) : UInt64 := E.2.2.2
/-- a double as two ints -/
def mk64 (a b : Int32) : UInt64 := UInt64.ofNat (a.toBitVec.toNat + 4294967296 * b.toBitVec.toNat)
def lo64 (x : UInt64) : Int32 := Int32.ofBitVec (BitVec.ofNat 32 x.toNat)
def hi64 (x : UInt64) : Int32 := Int32.ofBitVec (BitVec.ofNat 32 (x.toNat / 4294967296))
theorem mk_lohi (x : UInt64) : mk64 (lo64 x) (hi64 x) = x := by
  have h : x.toNat < 18446744073709551616 := UInt64.toNat_lt x
  unfold mk64 lo64 hi64
  rw [Int32.toBitVec_ofBitVec, Int32.toBitVec_ofBitVec, BitVec.toNat_ofNat, BitVec.toNat_ofNat]
  have e : x.toNat % 2 ^ 32 + 4294967296 * (x.toNat / 4294967296 % 2 ^ 32) = x.toNat := by omega
  rw [e, UInt64.ofNat_toNat]
abbrev classes : List vw_C := [(RX0, TX0, 10), (RX1, TX1, 6), (RX2, TX2, 3), (RX3, TX3, 9), (RX4, TX4, 2), (RX5, TX5, 12), (RX6, TX6, 24)]
def tys (E : En) : List (ClassId × FieldType) := [(eC E 0, .int), (eC E 1, .boolean), (eC E 2, .char), (eC E 3, .object "NewspaperMakeup$Edition"), (eC E 4, .long), (eC E 5, .double)]
/-- an edition's first cell; a makeup's pages' first cell, and the edition that they lay out -/
def isE (b : Nat) : Prop := b < 56 ∧ b % 5 = 1
def isEb (b : Nat) : Bool := decide (b < 56) && decide (b % 5 = 1)
def isP (p : Nat) : Prop := p = 56 ∨ p = 65
def edOf (p : Nat) : Nat := if p = 56 then 1 else 6
def rI (E : En) (n : Nat) (f : Nat → Int32) : va_E := .inl (eC E 0, n, .inl f)
def rZ (E : En) (n : Nat) (f : Nat → Int32) : va_E := .inl (eC E 1, n, .inl f)
def rC (E : En) (n : Nat) (f : Nat → Int32) : va_E := .inl (eC E 2, n, .inl f)
/-- the content of cell k, of the ints f in it -/
def ct (E : En) (k : Nat) (f : Nat → Int32) : va_E :=
  if k = 0 then .inr (5, [.ref (ea E 1), .ref (ea E 56), .ref (ea E 6), .ref (ea E 65), .ref (ea E 74), .ref (ea E 11), .ref (ea E 76), .ref (ea E 79), .int (f 8), .int (f 9), .int (f 10), .int (f 11)])
  else if k < 56 then
    (if k % 5 = 1 then .inr (1, [.ref (ea E (k + 1)), .ref (ea E (k + 2)), .ref (ea E (k + 3)), .ref (ea E (k + 4)), .int (f 4), .int (f 5)])
     else if k % 5 = 2 then rZ E 12 f else if k % 5 = 3 then rI E 96 f else if k % 5 = 4 then rZ E 8 f else rI E 48 f)
  else if k = 56 then .inr (3, [.ref (ea E 1), .ref (ea E 57), .ref (ea E 58), .ref (ea E 59), .ref (ea E 60), .ref (ea E 61), .ref (ea E 62), .ref (ea E 63), .ref (ea E 64)])
  else if k = 57 then rI E 480 f else if k = 58 then rI E 480 f else if k = 59 then rI E 12 f else if k = 60 then rI E 12 f else if k = 61 then rI E 12 f
  else if k = 62 then rI E 432 f else if k = 63 then rI E 12 f else if k = 64 then rI E 12 f
  else if k = 65 then .inr (3, [.ref (ea E 6), .ref (ea E 66), .ref (ea E 67), .ref (ea E 68), .ref (ea E 69), .ref (ea E 70), .ref (ea E 71), .ref (ea E 72), .ref (ea E 73)])
  else if k = 66 then rI E 480 f else if k = 67 then rI E 480 f else if k = 68 then rI E 12 f else if k = 69 then rI E 12 f else if k = 70 then rI E 12 f
  else if k = 71 then rI E 432 f else if k = 72 then rI E 12 f else if k = 73 then rI E 12 f
  else if k = 74 then .inr (2, [.ref (ea E 75), .int (f 1), .int (f 2)])
  else if k = 75 then .inl (eC E 3, 8, .inr (.inr (.inr (.inr (fun i => some (ea E (16 + 5 * i)))))))
  else if k = 76 then .inr (4, [.ref (ea E 77), .ref (ea E 78)])
  else if k = 77 then rI E 12 f else if k = 78 then rI E 96 f
  else if k = 79 then .inr (0, [.ref (ea E 80), .int (f 1), .ref (ea E 81), .ref (ea E 82), .int (f 4), .ref (ea E 83), .int (f 6), .int (f 7), .int (f 8), .int (f 9)])
  else if k = 80 then rC E 80 f else if k = 81 then rC E 80 f else if k = 82 then rI E 80 f else if k = 83 then rI E 80 f
  else if k = 84 then .inr (6, [.int (f 0), .ref (ea E 85), .ref (ea E 86), .ref (ea E 87), .ref (ea E 88), .int (f 5), .int (f 6), .ref (ea E 89), .ref (ea E 90), .ref (ea E 91), .ref (ea E 92), .ref (ea E 93), .ref (ea E 94), .ref (ea E 95), .int (f 14), .ref (ea E 96), .ref (ea E 97), .ref (ea E 98), .ref (ea E 99), .int (f 19), .int (f 20), .int (f 21), .int (f 22), .int (f 23)])
  else if k = 85 then rI E 166 f else if k = 86 then rI E 166 f else if k = 87 then rI E 166 f else if k = 88 then rI E 1328 f
  else if k = 89 then rI E 480 f else if k = 90 then rI E 480 f else if k = 91 then rI E 12 f else if k = 92 then rI E 12 f else if k = 93 then rI E 12 f
  else if k = 94 then rI E 384 f else if k = 95 then rI E 12 f else if k = 96 then rI E 12 f else if k = 97 then rI E 108 f
  else if k = 98 then rI E 80 f else if k = 99 then rI E 6 f
  else if k = 100 then .inl (eC E 4, 1, .inr (.inl (fun i => (f i).toInt64)))
  else .inl (eC E 5, 1, .inr (.inr (.inr (.inl (fun i => mk64 (f (2 * i)) (f (2 * i + 1)))))))
def NC : Nat := 102
def wd (E : En) (σ : Hp) : va_W := (List.range NC).map fun k => (ea E k, ct E k (σ k))
def sr (σ : Hp) (k : Nat) (f : Nat → Int32) : Hp := fun k' => if k' = k then f else σ k'
def st (σ : Hp) (k i : Nat) (v : Int32) : Hp := sr σ k (upd (σ k) i v)
theorem wd_get (E : En) (σ : Hp) {k : Nat} (h : k < NC) : (wd E σ)[k]? = some (ea E k, ct E k (σ k)) := by
  simp [wd, List.getElem?_map, List.getElem?_range h]
theorem wd_out {E : En} {σ : Hp} {k : Nat} {q : Nat × va_E} (h : (wd E σ)[k]? = some q) : k < NC ∧ q = (ea E k, ct E k (σ k)) := by
  have hk : k < NC := by
    have := (List.getElem?_eq_some_iff.mp h).1
    simpa [wd] using this
  refine ⟨hk, ?_⟩
  rw [wd_get E σ hk] at h
  exact (Option.some.inj h).symm
theorem wd_set (E : En) (σ : Hp) (k : Nat) (f : Nat → Int32) : (wd E σ).set k (ea E k, ct E k f) = wd E (sr σ k f) := by
  apply List.ext_getElem?
  intro j
  by_cases hj : j < NC
  · rw [wd_get E (sr σ k f) hj]
    by_cases hjk : k = j
    · subst hjk
      rw [List.getElem?_set_self (by simpa [wd] using hj)]
      simp [sr]
    · rw [List.getElem?_set_ne hjk, wd_get E σ hj]
      simp [sr, Ne.symm hjk]
  · rw [List.getElem?_eq_none (by simp [wd]; omega), List.getElem?_eq_none (by simp [wd]; omega)]
def injE (E : En) : Prop := ∀ i j : Nat, i < NC → j < NC → ea E i = ea E j → i = j
def A0 (E : En) : Nat → Prop := fun q => ∃ k, k < NC ∧ q = ea E k
def AA (E : En) (sz : Nat) : Nat → Prop := fun q => A0 E q ∨ sz ≤ q
theorem wd_D (E : En) (hE : injE E) (σ : Hp) (sz : Nat) : va_D (AA E sz) (wd E σ) := by
  refine ⟨fun i j p q hi hj hpq => ?_, fun k q hk => ?_⟩
  · obtain ⟨h1, rfl⟩ := wd_out hi
    obtain ⟨h2, rfl⟩ := wd_out hj
    exact hE i j h1 h2 hpq
  · obtain ⟨h1, rfl⟩ := wd_out hk
    exact Or.inl ⟨k, h1, rfl⟩
/-- the nest mates' links -/
def nestL : List (String × Nat × MethodName × String) := [(RX5, 11, yX3_init, "NewspaperMakeup"), (RX3, 11, yX1_init, "NewspaperMakeup"), (RX2, 17, yX1_init, "NewspaperMakeup"), (RX5, 36, yX1_init, "NewspaperMakeup"), (RX5, 42, yX4_init, "NewspaperMakeup"), (RX5, 49, yX0_init, "NewspaperMakeup"), (RX3, 86, yX5_isStoryIndex, "NewspaperMakeup"), (RX1, 36, yX5_isAdvertisementIndex, "NewspaperMakeup"), (RX3, 131, yX5_isCellIndex, "NewspaperMakeup"), (RX1, 32, yX5_isStoryIndex, "NewspaperMakeup"), (RX1, 53, yX5_isPage, "NewspaperMakeup"), (RX3, 72, yX5_cellIndex, "NewspaperMakeup"), (RX3, 128, yX5_rowOf, "NewspaperMakeup"), (RX3, 122, yX5_pageOf, "NewspaperMakeup"), (RX3, 150, yX5_columnOf, "NewspaperMakeup"), (RX1, 56, yX5_isInRange, "NewspaperMakeup")]
def nestF : List (String × Nat × String × String × String × String) := [("NewspaperMakeup", 16, "NewspaperMakeup$Pages", "edition", "LNewspaperMakeup$Edition;", "NewspaperMakeup")]
def NW (U : State) : Prop := (∀ q ∈ nestL, va_Nw (.methodLinkNest q.1 q.2.1 q.2.2.1 q.2.2.2) U) ∧ ∀ q ∈ nestF, va_Nw (.fieldLinkNest q.1 q.2.1 q.2.2.1 q.2.2.2.1 q.2.2.2.2.1 q.2.2.2.2.2) U
theorem NW.warm {s U : State} (hW : s.WarmedH U.vm) (h : NW s) : NW U := ⟨fun q hq => va_Nw.warmM hW (h.1 q hq), fun q hq => va_Nw.warmF hW (h.2 q hq)⟩
theorem NW.same {u U : State} (e : u.vm = U.vm) (h : NW u) : NW U := ⟨fun q hq => va_Nw.same rfl e (h.1 q hq), fun q hq => va_Nw.same rfl e (h.2 q hq)⟩
/-- words that no method keeps by itself: of the exceptions' constructors, of what can be cast to what -/
def faceL : List Cond := [.declares (Bundle.init0 "java/lang/RuntimeException"), .declares (Bundle.init0 "java/lang/Exception"), .declares (Bundle.init0 Bundle.tN), .castable "java/lang/IndexOutOfBoundsException" "java/lang/IndexOutOfBoundsException", .castable "java/lang/IllegalArgumentException" "java/lang/IllegalArgumentException", .castable "java/lang/IllegalStateException" "java/lang/IllegalStateException", .castable "java/util/NoSuchElementException" "java/util/NoSuchElementException", .castable "java/lang/UnsupportedOperationException" "java/lang/UnsupportedOperationException"]
theorem faceL_on : ∀ w ∈ faceL, w.onTables = true := by decide +kernel
theorem faceL_face : ∀ w ∈ faceL, w.faceAtom = true := by decide +kernel
def excs : List String := ["java/lang/IndexOutOfBoundsException", "java/lang/IllegalArgumentException", "java/lang/IllegalStateException", "java/util/NoSuchElementException", "java/lang/UnsupportedOperationException"]
def FW (U : State) : Prop := (∀ w ∈ faceL, va_Nw w U) ∧ ∀ a ∈ excs, ∀ b ∈ excs, a ≠ b → va_Nc a b U
theorem FW.moved {u U : State} (hvm : u.vm.Alike U.vm) (h : FW u) : FW U :=
  ⟨fun w hw => va_Nw.same (faceL_on w hw) (rfl : (u.setVm U.vm).vm = U.vm) (Cond.faceAtom_setVm hvm w (faceL_face w hw) (h.1 w hw)), fun a ha b hb hn => va_Nc.moved hvm (h.2 a ha b hb hn)⟩
def lst5 : Nat → Int32 := fun j => if j = 0 then 0 else if j = 4 then 0 else 1
def gst5 : Nat → Int32 := fun j => if j = 3 then 150 else if j = 4 then 9 else 3
/-- the statics that are read: two rows of the class, two of Throwable's -/
def SF (A : Nat → Prop) (U : State) (H : Heap) : Prop :=
  (∃ t, va_Z "NewspaperMakeup" "LEAST" "[I" (.ref t) A U H ∧ va_T .int t 5 (fun j => .int (lst5 j)) A U H) ∧
  (∃ t, va_Z "NewspaperMakeup" "GREATEST" "[I" (.ref t) A U H ∧ va_T .int t 5 (fun j => .int (gst5 j)) A U H) ∧
  vx_Zq Bundle.tN "UNASSIGNED_STACK" Bundle.steD A U H ∧ vx_Zq Bundle.tN "SUPPRESSED_SENTINEL" Bundle.listD A U H
theorem SF.moved {A : Nat → Prop} {u U : State} {H : Heap} (hvm : u.vm.Alike U.vm) (h : SF A u H) : SF A U H := by
  obtain ⟨⟨t1, a1, a2⟩, ⟨t2, b1, b2⟩, c1, c2⟩ := h
  exact ⟨⟨t1, a1.moved hvm, a2.moved hvm⟩, ⟨t2, b1.moved hvm, b2.moved hvm⟩, c1.moved hvm, c2.moved hvm⟩
theorem SF.kept {A : Nat → Prop} {U : State} {H H1 : Heap} (h : SF A U H) (hq : ∀ a : Nat, a < H.size → ¬ A a → H1[a]? = H[a]?) : SF A U H1 := by
  obtain ⟨⟨t1, a1, a2⟩, ⟨t2, b1, b2⟩, c1, c2⟩ := h
  exact ⟨⟨t1, a1.kept hq, a2.kept hq⟩, ⟨t2, b1.kept hq, b2.kept hq⟩, c1.kept hq, c2.kept hq⟩
theorem zUp {C n d : String} {v : Value} {E : En} {U : State} {H : Heap} (h : va_Z C n d v (A0 E) U H) : va_Z C n d v (AA E H.size) U H := by
  obtain ⟨cf, kf, fi, f, a, cell, h1, h2, h3, h4, h5, h6, h7, h8⟩ := h
  exact ⟨cf, kf, fi, f, a, cell, h1, h2, h3, h4, h5, h6, h7, fun q => q.elim h8 (fun q => absurd (Array.getElem?_eq_some_iff.mp h5).1 (Nat.not_lt.mpr q))⟩
theorem tUp {ty : FieldType} {t N : Nat} {f : Nat → Value} {E : En} {U : State} {H : Heap} (h : va_T ty t N f (A0 E) U H) : va_T ty t N f (AA E H.size) U H := by
  obtain ⟨cell, h1, h2, h3, h4, h5, h6, h7⟩ := h
  exact ⟨cell, h1, h2, h3, h4, h5, h6, fun q => q.elim h7 (fun q => absurd (Array.getElem?_eq_some_iff.mp h1).1 (Nat.not_lt.mpr q))⟩
theorem lUp {C n d : String} {E : En} {U : State} {H : Heap} (h : vx_L C n d (A0 E) U H) : vx_L C n d (AA E H.size) U H := by
  obtain ⟨c, k, i, f, a, cell, h1, h2, h3, h4, h5, h6, h7, h8, h9, h10⟩ := h
  exact ⟨c, k, i, f, a, cell, h1, h2, h3, h4, h5, h6, h7, h8, h9, fun q => q.elim h10 (fun q => absurd (Array.getElem?_eq_some_iff.mp h5).1 (Nat.not_lt.mpr q))⟩
theorem qUp {C n d : String} {E : En} {U : State} {H : Heap} (h : vx_Zq C n d (A0 E) U H) : vx_Zq C n d (AA E H.size) U H := by
  refine ⟨?_, lUp h.2⟩
  rcases h.1 with h | ⟨t, h⟩
  · exact Or.inl (zUp h)
  · exact Or.inr ⟨t, zUp h⟩
theorem SF.up {E : En} {U : State} {H : Heap} (h : SF (A0 E) U H) : SF (AA E H.size) U H := by
  obtain ⟨⟨t1, a1, a2⟩, ⟨t2, b1, b2⟩, c1, c2⟩ := h
  exact ⟨⟨t1, zUp a1, tUp a2⟩, ⟨t2, zUp b1, tUp b2⟩, qUp c1, qUp c2⟩
/-- what a method's start holds beside the world's cells -/
def WX (E : En) (U : State) (H : Heap) : Prop := va_K (eD E) classes (tys E) U ∧ injE E ∧ NW U ∧ FW U ∧ SF (A0 E) U H
def PreW (E : En) (σ : Hp) (sz : Nat) (U : State) : Prop := U.heap.size = sz ∧ va_P (eD E) classes (wd E σ) U.heap ∧ WX E U U.heap
def PostW (E : En) (σ : Hp) (t : State) : Prop := va_P (eD E) classes (wd E σ) t.heap
theorem preW_calling {E : En} {σ : Hp} {sz : Nat} {U : State} {g : JFrame} {mk : MethodId} {a : Array Value} (h : PreW E σ sz U) : PreW E σ sz (U.calling g mk a) := by
  obtain ⟨h1, h2, h3, h4, h5, hF, h6⟩ := h
  exact ⟨h1, h2, va_K.moved (u := U) (U := U.calling g mk a) (Vm.Alike.refl U.vm) h3, h4, NW.same (u := U) (U := U.calling g mk a) rfl h5, FW.moved (u := U) (U := U.calling g mk a) (Vm.Alike.refl U.vm) hF, SF.moved (u := U) (U := U.calling g mk a) (Vm.Alike.refl U.vm) h6⟩
theorem preW_blind {E : En} {σ : Hp} {sz : Nat} {vs : List Value} : FrameBlind (va_Pc vs (PreW E σ sz)) := fun a U g mk q => ⟨q.1, preW_calling q.2⟩
theorem aUp {E : En} {sz sz' : Nat} (h : sz ≤ sz') : ∀ q, AA E sz' q → AA E sz q := fun q x => x.elim Or.inl (fun y => Or.inr (Nat.le_trans h y))
theorem a0Up {E : En} {s H : Heap} {locs : List Loc} (hS : va_S (AA E s.size) s H locs) : ∀ a : Nat, a < s.size → ¬ A0 E a → H[a]? = s[a]? := fun a h1 h2 => hS.2.1 a h1 (fun q => q.elim h2 (fun q => absurd h1 (Nat.not_lt.mpr q)))
/-- the start of a call -/
theorem preW_call {E : En} {σ : Hp} {s U : State} {H : Heap} {locs : List Loc} (hX : WX E s s.heap) (hP : va_P (eD E) classes (wd E σ) H) (hS : va_S (AA E s.heap.size) s.heap H locs) (hU : U.heap = H) (hW : s.WarmedH U.vm) : PreW E σ H.size U := by
  obtain ⟨h3, h4, h5, hF, h6⟩ := hX
  refine ⟨by rw [hU], by rw [hU]; exact hP, va_K.moved hW.alike h3, h4, NW.warm hW h5, FW.moved hW.alike hF, ?_⟩
  rw [hU]
  exact SF.moved hW.alike (h6.kept (a0Up hS))
