/-! the law's entry: the first world -/
def hp0 : Hp := fun k i => if k = 84 then (if i = 21 then -1 else 0) else 0
theorem adR_0 (v : Nat → Int32) (D : Nat → Nat) (h : ∀ a, dA D a 0 = 0) (f : Nat → Int32) : ∀ n, adR v D n f = f
  | 0 => rfl
  | n + 1 => by rw [adR_s, h, if_neg (by decide), adR_0 v D h f n]
theorem nS_0 : nS (fun _ => 0) = 0 := by decide +kernel
theorem inv0 : Inv hp0 := by
  refine ⟨fun _ => 0, ⟨⟨Nat.zero_le _, Nat.zero_le _, fun s _ => by simp [SOk, dS], fun a _ => by simp [AOk, dA]⟩, ⟨rfl, rfl, fun _ _ => rfl, fun _ _ _ _ => rfl, fun _ _ => rfl, fun _ _ _ _ => rfl⟩, fun _ _ => rfl⟩, ⟨(fun _ => nI 0, fun _ => -nI 1, fun _ => 0, fun _ => 0, fun _ => 0, fun _ _ _ => 0), ⟨fun _ _ => rfl, fun _ _ => rfl, fun _ => rfl, fun _ => rfl, fun _ => rfl⟩, ?_, fun s _ h => absurd h (show ¬ (0 : Nat) = 1 by decide), fun k hk => absurd hk (by rw [nS_0]; exact Nat.not_lt_zero k)⟩, ⟨0, 0, fun _ _ => 0, ⟨rfl, rfl, by omega, by omega, fun k hk => absurd hk (Nat.not_lt_zero k)⟩, ⟨rfl, fun k hk => absurd hk (Nat.not_lt_zero k)⟩⟩, Or.inl ⟨rfl, rfl⟩, fun p _ => Or.inl ⟨rfl, rfl⟩, ⟨0, by omega, rfl, rfl, fun i hi => absurd hi (Nat.not_lt_zero i)⟩, Or.inl ⟨rfl, by decide⟩⟩
  rw [nS_0]
  show PgW 56 hp0 (adsY _ _)
  unfold adsY
  rw [adR_0 _ _ (fun _ => rfl), adR_0 _ _ (fun _ => rfl)]
  exact ⟨rfl, fun i hi => absurd rfl hi, fun s _ => ⟨rfl, rfl, rfl, Nat.zero_le _⟩, fun s q k _ hq _ => absurd hq (Nat.not_lt_zero q)⟩
theorem arrK {ty : FieldType} {args : Array Value} {s : State} (h : (Cond.arrayClass ty).before args s = true) : ∃ cA, ArrOfT s cA ty ∧ s.vm.findClass ("[" ++ ty.toString) = some cA := by
  obtain ⟨c, k, comp, h1, h2, h3⟩ := Cond.arrayClass_spec h
  exact ⟨c, fun n z => ⟨fun k h => (by cases h), k, h2, comp, h3⟩, h1⟩
theorem nest_mem : ∀ q ∈ nestL, Cond.methodLinkNest q.1 q.2.1 q.2.2.1 q.2.2.2 ∈ lw_tbl := by decide +kernel
theorem nestF_mem : ∀ q ∈ nestF, Cond.fieldLinkNest q.1 q.2.1 q.2.2.1 q.2.2.2.1 q.2.2.2.2.1 q.2.2.2.2.2 ∈ lw_tbl := by decide +kernel
theorem face_mem : ∀ w ∈ faceL, w ∈ lw_tbl := by decide +kernel
theorem cast_mem : ∀ a ∈ excs, ∀ b ∈ excs, a ≠ b → Cond.not (.castable a b) ∈ flatC (Jvm.Cond.and given_1 narrow_1) := by decide +kernel
theorem kn0 {args : Array Value} {s : State} (hts : ∀ w ∈ lw_tbl, w.before args s = true) : ∃ (G : va_G) (cA : Nat → ClassId), KN G cA s := by
  have ha : ∀ w ∈ lw_all, w.before args s = true := fun w hw => hts w (List.mem_filter.mp hw).1
  obtain ⟨c0, i0, k0⟩ := u_known ha kcw0 (ha (Cond.instantiable RX0 10) (mem_all 198 (by decide +kernel) (by decide +kernel)))
  obtain ⟨c1, i1, k1⟩ := u_known ha kcw1 (ha (Cond.instantiable RX1 6) (mem_all 108 (by decide +kernel) (by decide +kernel)))
  obtain ⟨c2, i2, k2⟩ := u_known ha kcw2 (ha (Cond.instantiable RX2 3) (mem_all 164 (by decide +kernel) (by decide +kernel)))
  obtain ⟨c3, i3, k3⟩ := u_known ha kcw3 (ha (Cond.instantiable RX3 9) (mem_all 102 (by decide +kernel) (by decide +kernel)))
  obtain ⟨c4, i4, k4⟩ := u_known ha kcw4 (ha (Cond.instantiable RX4 2) (mem_all 185 (by decide +kernel) (by decide +kernel)))
  obtain ⟨c5, i5, k5⟩ := u_known ha kcw5 (ha (Cond.instantiable RX5 12) (mem_all 94 (by decide +kernel) (by decide +kernel)))
  obtain ⟨c6, i6, k6⟩ := u_known ha kcw6 (ha (Cond.instantiable RX6 24) (mem_all 1135 (by decide +kernel) (by decide +kernel)))
  obtain ⟨a0, x0, y0⟩ := arrK (ha (Cond.arrayClass .int) (mem_all 133 (by decide +kernel) (by decide +kernel)))
  obtain ⟨a1, x1, y1⟩ := arrK (ha (Cond.arrayClass .boolean) (mem_all 132 (by decide +kernel) (by decide +kernel)))
  obtain ⟨a2, x2, y2⟩ := arrK (ha (Cond.arrayClass .char) (mem_all 234 (by decide +kernel) (by decide +kernel)))
  obtain ⟨a4, x4, y4⟩ := arrK (ha (Cond.arrayClass .long) (mem_all 1502 (by decide +kernel) (by decide +kernel)))
  obtain ⟨a5, x5, y5⟩ := arrK (ha (Cond.arrayClass .double) (mem_all 1503 (by decide +kernel) (by decide +kernel)))
  have hover := hts (Cond.arrayOver (.object "NewspaperMakeup$Edition")) (List.mem_of_getElem? (i := 170) (by decide +kernel))
  obtain ⟨comp, a3, kA3, e1, -, e3, e4, e5⟩ := Cond.arrayOver_spec hover
  refine ⟨(fun c => match c with | 0 => c0 | 1 => c1 | 2 => c2 | 3 => c3 | 4 => c4 | 5 => c5 | _ => c6, fun c => match c with | 0 => i0 | 1 => i1 | 2 => i2 | 3 => i3 | 4 => i4 | 5 => i5 | _ => i6), fun i => match i with | 0 => a0 | 1 => a1 | 2 => a2 | 3 => a3 | 4 => a4 | _ => a5, ⟨fun c q hq => ?_, fun k q hq => ?_⟩, ⟨fun q hq => va_Nw.of rfl (hts _ (nest_mem q hq)), fun q hq => va_Nw.of rfl (hts _ (nestF_mem q hq))⟩, va_AO.of hover⟩
  · match c, hq with
    | 0, hq => cases hq; exact k0
    | 1, hq => cases hq; exact k1
    | 2, hq => cases hq; exact k2
    | 3, hq => cases hq; exact k3
    | 4, hq => cases hq; exact k4
    | 5, hq => cases hq; exact k5
    | 6, hq => cases hq; exact k6
    | n + 7, hq => exact absurd (List.getElem?_eq_some_iff.mp hq).1 (by show ¬ n + 7 < 7; omega)
  · match k, hq with
    | 0, hq => cases hq; exact ⟨x0, y0⟩
    | 1, hq => cases hq; exact ⟨x1, y1⟩
    | 2, hq => cases hq; exact ⟨x2, y2⟩
    | 3, hq => cases hq; exact ⟨fun n z => ⟨fun k h => (by cases h), kA3, e3, comp, e4⟩, kA3, comp, e3, e4, e1, e5⟩
    | 4, hq => cases hq; exact ⟨x4, y4⟩
    | 5, hq => cases hq; exact ⟨x5, y5⟩
    | n + 6, hq => exact absurd (List.getElem?_eq_some_iff.mp hq).1 (by show ¬ n + 6 < 6; omega)
theorem eqz {t : Term} {z : Int32} {args : Array Value} {s : State} (h : (Cond.eq t (.int z)).before args s = true) : t.eval args s none [] s = some (.int z) := by
  cases hv : t.eval args s none [] s with
  | none => simp [Cond.before, Cond.holds, Cond.value, hv] at h
  | some w =>
    have hz : (Term.int z).eval args s none [] s = some (.int z) := rfl
    simp only [Cond.before, Cond.holds, Cond.value, hv, hz] at h
    cases w <;> simp_all
theorem sf_LEAST {A : Nat → Prop} {args : Array Value} {s : State} (hts : ∀ w ∈ lw_tbl, w.before args s = true) (hs : ∀ w ∈ flatC (Jvm.Cond.and given_1 narrow_1), w.before args s = true) (hA : ∀ a : Nat, a < s.heap.size → ¬ A a) : ∃ t, va_Z "NewspaperMakeup" "LEAST" "[I" (.ref t) A s s.heap ∧ va_T .int t 5 (fun j => .int (lst5 j)) A s s.heap := by
  obtain ⟨t, e, h⟩ := va_Tof (A := A) (tm := .static "NewspaperMakeup" "LEAST" "[I") (ty := .int) (N := 5) (f := fun j => .int (lst5 j)) (by decide) (hs (Cond.arrayOf (.static "NewspaperMakeup" "LEAST" "[I") .int) (by decide +kernel)) (eqz (hs (Cond.eq (.length (.static "NewspaperMakeup" "LEAST" "[I")) (.int 5)) (by decide +kernel))) (fun j hj => match j, hj with
    | 0, _ => eqz (hs (Cond.eq (.elem (.static "NewspaperMakeup" "LEAST" "[I") (.int 0)) (.int 0)) (by decide +kernel))
    | 1, _ => eqz (hs (Cond.eq (.elem (.static "NewspaperMakeup" "LEAST" "[I") (.int 1)) (.int 1)) (by decide +kernel))
    | 2, _ => eqz (hs (Cond.eq (.elem (.static "NewspaperMakeup" "LEAST" "[I") (.int 2)) (.int 1)) (by decide +kernel))
    | 3, _ => eqz (hs (Cond.eq (.elem (.static "NewspaperMakeup" "LEAST" "[I") (.int 3)) (.int 1)) (by decide +kernel))
    | 4, _ => eqz (hs (Cond.eq (.elem (.static "NewspaperMakeup" "LEAST" "[I") (.int 4)) (.int 0)) (by decide +kernel))
    | n + 5, h => absurd h (by omega)) hA
  exact ⟨t, va_Zof (hts (Cond.laysStatic "NewspaperMakeup" "LEAST" "[I") (List.mem_of_getElem? (i := 622) (by decide +kernel))) (hts (Cond.initialized "NewspaperMakeup") (List.mem_of_getElem? (i := 77) (by decide +kernel))) e hA, h⟩
theorem sf_GREATEST {A : Nat → Prop} {args : Array Value} {s : State} (hts : ∀ w ∈ lw_tbl, w.before args s = true) (hs : ∀ w ∈ flatC (Jvm.Cond.and given_1 narrow_1), w.before args s = true) (hA : ∀ a : Nat, a < s.heap.size → ¬ A a) : ∃ t, va_Z "NewspaperMakeup" "GREATEST" "[I" (.ref t) A s s.heap ∧ va_T .int t 5 (fun j => .int (gst5 j)) A s s.heap := by
  obtain ⟨t, e, h⟩ := va_Tof (A := A) (tm := .static "NewspaperMakeup" "GREATEST" "[I") (ty := .int) (N := 5) (f := fun j => .int (gst5 j)) (by decide) (hs (Cond.arrayOf (.static "NewspaperMakeup" "GREATEST" "[I") .int) (by decide +kernel)) (eqz (hs (Cond.eq (.length (.static "NewspaperMakeup" "GREATEST" "[I")) (.int 5)) (by decide +kernel))) (fun j hj => match j, hj with
    | 0, _ => eqz (hs (Cond.eq (.elem (.static "NewspaperMakeup" "GREATEST" "[I") (.int 0)) (.int 3)) (by decide +kernel))
    | 1, _ => eqz (hs (Cond.eq (.elem (.static "NewspaperMakeup" "GREATEST" "[I") (.int 1)) (.int 3)) (by decide +kernel))
    | 2, _ => eqz (hs (Cond.eq (.elem (.static "NewspaperMakeup" "GREATEST" "[I") (.int 2)) (.int 3)) (by decide +kernel))
    | 3, _ => eqz (hs (Cond.eq (.elem (.static "NewspaperMakeup" "GREATEST" "[I") (.int 3)) (.int 150)) (by decide +kernel))
    | 4, _ => eqz (hs (Cond.eq (.elem (.static "NewspaperMakeup" "GREATEST" "[I") (.int 4)) (.int 9)) (by decide +kernel))
    | n + 5, h => absurd h (by omega)) hA
  exact ⟨t, va_Zof (hts (Cond.laysStatic "NewspaperMakeup" "GREATEST" "[I") (List.mem_of_getElem? (i := 624) (by decide +kernel))) (hts (Cond.initialized "NewspaperMakeup") (List.mem_of_getElem? (i := 77) (by decide +kernel))) e hA, h⟩
theorem sf0 {A : Nat → Prop} {args : Array Value} {s : State} (hts : ∀ w ∈ lw_tbl, w.before args s = true) (hs : ∀ w ∈ flatC (Jvm.Cond.and given_1 narrow_1), w.before args s = true) (hA : ∀ a : Nat, a < s.heap.size → ¬ A a) : SF A s s.heap :=
  ⟨sf_LEAST hts hs hA, sf_GREATEST hts hs hA, vx_Zqof (hts (Cond.laysStatic "java/lang/Throwable" "UNASSIGNED_STACK" "[Ljava/lang/StackTraceElement;") (List.mem_of_getElem? (i := 408) (by decide +kernel))) (hts (Cond.initialized "java/lang/Throwable") (List.mem_of_getElem? (i := 84) (by decide +kernel))) (hs (Cond.isRef (.static "java/lang/Throwable" "UNASSIGNED_STACK" "[Ljava/lang/StackTraceElement;")) (by decide +kernel)) hA, vx_Zqof (hts (Cond.laysStatic "java/lang/Throwable" "SUPPRESSED_SENTINEL" "Ljava/util/List;") (List.mem_of_getElem? (i := 410) (by decide +kernel))) (hts (Cond.initialized "java/lang/Throwable") (List.mem_of_getElem? (i := 84) (by decide +kernel))) (hs (Cond.isRef (.static "java/lang/Throwable" "SUPPRESSED_SENTINEL" "Ljava/util/List;")) (by decide +kernel)) hA⟩
theorem fw0 {args : Array Value} {s : State} (hts : ∀ w ∈ lw_tbl, w.before args s = true) (hs : ∀ w ∈ flatC (Jvm.Cond.and given_1 narrow_1), w.before args s = true) : FW s :=
  ⟨fun w hw => va_Nw.of (faceL_on w hw) (hts w (face_mem w hw)), fun a ha b hb hn => va_Nc.of (hs _ (cast_mem a ha b hb hn))⟩
def ws0 (cA : Nat → ClassId) (a b : Nat → Nat) (x y : Nat) : va_W := (((([] ++ g5 cA a) ++ g6 cA b) ++ [(x, .inl (cA 4, 1, .inr (.inl (fun _ => (0 : Int32).toInt64))))]) ++ [(y, .inl (cA 5, 1, .inr (.inr (.inr (.inl (fun _ => mk64 0 0))))))])
def ad0 (a b : Nat → Nat) (x y : Nat) : Nat → Nat := fun i => if i < 84 then a i else if i < 100 then b (i - 84) else if i = 100 then x else y
def pi0 (k : Nat) : Nat := if k < 1 then k else if k < 6 then k + 1 else if k < 11 then k + 10 else if k < 16 then k + 60 else if k < 56 then k + 15 else if k = 56 then 1 else if k < 65 then k - 50 else if k = 65 then 15 else if k < 76 then k - 45 else k
def sg0 (k : Nat) : Nat := if k < 1 then k else if k = 1 then 56 else if k < 7 then k - 1 else if k < 15 then k + 50 else if k = 15 then 65 else if k < 21 then k - 10 else if k < 31 then k + 45 else if k < 71 then k - 15 else if k < 76 then k - 60 else k
theorem sg_pi : ∀ k, k < 102 → sg0 (pi0 k) = k := by decide +kernel
theorem pi_lt : ∀ k, k < 102 → pi0 k < 102 := by decide +kernel
def E0 (G : va_G) (cA : Nat → ClassId) (a b : Nat → Nat) (x y : Nat) : En := (G, fun k => ad0 a b x y (pi0 k), cA, 0)
def allP (f : Nat → Prop) : Nat → Prop
  | 0 => True
  | n + 1 => allP f n ∧ f n
theorem allP_s {f : Nat → Prop} {n : Nat} (h : allP f n) (h2 : f n) : allP f (n + 1) := ⟨h, h2⟩
theorem allP_get {f : Nat → Prop} : ∀ {n : Nat}, allP f n → ∀ k, k < n → f k
  | 0, _, k, hk => absurd hk (Nat.not_lt_zero k)
  | n + 1, h, k, hk => by
    by_cases e : k = n
    · rw [e]
      exact h.2
    · exact allP_get h.1 k (by omega)
theorem arrV_cg {c : ClassId} {N : Nat} {f g : Nat → Value} (h : ∀ j, j < N → f j = g j) : arrV c N f = arrV c N g := by
  unfold arrV
  rw [show (fun j : Fin N => f j.val) = (fun j : Fin N => g j.val) from funext fun j => h j.val j.isLt]
section VPL
variable {G : va_G} {cl : List vw_C} {w1 w2 w : va_W} {z : Nat × va_E} {H : Heap}
theorem vpl (h : va_P G cl (w1 ++ w2) H) : va_P G cl w1 H := fun k q hk => h k q (by
  rw [List.getElem?_append_left (List.getElem?_eq_some_iff.mp hk).1]
  exact hk)
theorem vpr (h : va_P G cl (w1 ++ w2) H) : va_P G cl w2 H := fun k q hk => h (w1.length + k) q (by
  rw [List.getElem?_append_right (Nat.le_add_right _ _), Nat.add_sub_cancel_left]
  exact hk)
theorem vpt (h : va_P G cl (z :: w) H) : va_P G cl w H := fun k q hk => h (k + 1) q hk
end VPL
set_option maxHeartbeats 4000000 in
set_option maxRecDepth 100000 in
theorem wd0 {G : va_G} {cA : Nat → ClassId} {a b : Nat → Nat} {x y : Nat} {H : Heap} (hP : va_P G classes (ws0 cA a b x y) H) : va_P (eD (E0 G cA a b x y)) classes (wd (E0 G cA a b x y) hp0) H := by
  have h5 : va_P G classes (g5 cA a) H := vpr (vpl (vpl (vpl hP)))
  have h6 : va_P G classes (g6 cA b) H := vpr (vpl (vpl hP))
  have hx : va_P G classes [(x, .inl (cA 4, 1, .inr (.inl (fun _ => (0 : Int32).toInt64))))] H := vpr (vpl hP)
  have hy : va_P G classes [(y, .inl (cA 5, 1, .inr (.inr (.inr (.inl (fun _ => mk64 0 0))))))] H := vpr hP
  have t5 := vpt h5
  have p1 : va_P G classes (g3 cA (fun i => a (1 + i))) H := vpr (vpl (vpl (vpl (vpl (vpl (t5))))))
  have p2 : va_P G classes (g3 cA (fun i => a (15 + i))) H := vpr (vpl (vpl (vpl (vpl (t5)))))
  have h2 : va_P G classes (g2 cA (fun i => a (29 + i))) H := vpr (vpl (vpl (vpl (t5))))
  have e11 : va_P G classes (g1 cA (fun i => a (71 + i))) H := vpr (vpl (vpl (t5)))
  have s4 : va_P G classes (g4 cA (fun i => a (76 + i))) H := vpr (vpl (t5))
  have c0 : va_P G classes (g0 cA (fun i => a (79 + i))) H := vpr (t5)
  have up1 := vpt p1
  have e1 : va_P G classes (g1 cA (fun i => a (1 + (1 + i)))) H := vpr (vpl (vpl (vpl (vpl (vpl (vpl (vpl (vpl (up1)))))))))
  have p1x1 : va_P G classes [(a (1 + 6), .inl (cA 0, 480, .inl (fun _ => 0)))] H := vpr (vpl (vpl (vpl (vpl (vpl (vpl (vpl (up1))))))))
  have p1x2 : va_P G classes [(a (1 + 7), .inl (cA 0, 480, .inl (fun _ => 0)))] H := vpr (vpl (vpl (vpl (vpl (vpl (vpl (up1)))))))
  have p1x3 : va_P G classes [(a (1 + 8), .inl (cA 0, 12, .inl (fun _ => 0)))] H := vpr (vpl (vpl (vpl (vpl (vpl (up1))))))
  have p1x4 : va_P G classes [(a (1 + 9), .inl (cA 0, 12, .inl (fun _ => 0)))] H := vpr (vpl (vpl (vpl (vpl (up1)))))
  have p1x5 : va_P G classes [(a (1 + 10), .inl (cA 0, 12, .inl (fun _ => 0)))] H := vpr (vpl (vpl (vpl (up1))))
  have p1x6 : va_P G classes [(a (1 + 11), .inl (cA 0, 432, .inl (fun _ => 0)))] H := vpr (vpl (vpl (up1)))
  have p1x7 : va_P G classes [(a (1 + 12), .inl (cA 0, 12, .inl (fun _ => 0)))] H := vpr (vpl (up1))
  have p1x8 : va_P G classes [(a (1 + 13), .inl (cA 0, 12, .inl (fun _ => 0)))] H := vpr (up1)
  have up2 := vpt p2
  have e6 : va_P G classes (g1 cA (fun i => a (15 + (1 + i)))) H := vpr (vpl (vpl (vpl (vpl (vpl (vpl (vpl (vpl (up2)))))))))
  have p2x1 : va_P G classes [(a (15 + 6), .inl (cA 0, 480, .inl (fun _ => 0)))] H := vpr (vpl (vpl (vpl (vpl (vpl (vpl (vpl (up2))))))))
  have p2x2 : va_P G classes [(a (15 + 7), .inl (cA 0, 480, .inl (fun _ => 0)))] H := vpr (vpl (vpl (vpl (vpl (vpl (vpl (up2)))))))
  have p2x3 : va_P G classes [(a (15 + 8), .inl (cA 0, 12, .inl (fun _ => 0)))] H := vpr (vpl (vpl (vpl (vpl (vpl (up2))))))
  have p2x4 : va_P G classes [(a (15 + 9), .inl (cA 0, 12, .inl (fun _ => 0)))] H := vpr (vpl (vpl (vpl (vpl (up2)))))
  have p2x5 : va_P G classes [(a (15 + 10), .inl (cA 0, 12, .inl (fun _ => 0)))] H := vpr (vpl (vpl (vpl (up2))))
  have p2x6 : va_P G classes [(a (15 + 11), .inl (cA 0, 432, .inl (fun _ => 0)))] H := vpr (vpl (vpl (up2)))
  have p2x7 : va_P G classes [(a (15 + 12), .inl (cA 0, 12, .inl (fun _ => 0)))] H := vpr (vpl (up2))
  have p2x8 : va_P G classes [(a (15 + 13), .inl (cA 0, 12, .inl (fun _ => 0)))] H := vpr (up2)
  have t2 := vpt (vpt h2)
  have r0 : va_P G classes (g1 cA (fun i => a (29 + (2 + i)))) H := vpr (vpl (vpl (vpl (vpl (vpl (vpl (vpl (t2))))))))
  have r1 : va_P G classes (g1 cA (fun i => a (29 + (7 + i)))) H := vpr (vpl (vpl (vpl (vpl (vpl (vpl (t2)))))))
  have r2 : va_P G classes (g1 cA (fun i => a (29 + (12 + i)))) H := vpr (vpl (vpl (vpl (vpl (vpl (t2))))))
  have r3 : va_P G classes (g1 cA (fun i => a (29 + (17 + i)))) H := vpr (vpl (vpl (vpl (vpl (t2)))))
  have r4 : va_P G classes (g1 cA (fun i => a (29 + (22 + i)))) H := vpr (vpl (vpl (vpl (t2))))
  have r5 : va_P G classes (g1 cA (fun i => a (29 + (27 + i)))) H := vpr (vpl (vpl (t2)))
  have r6 : va_P G classes (g1 cA (fun i => a (29 + (32 + i)))) H := vpr (vpl (t2))
  have r7 : va_P G classes (g1 cA (fun i => a (29 + (37 + i)))) H := vpr (t2)
  have h75 : H[a 30]? = some (vp_cell (cA 3) (8, .inr (.inr (.inr (.inr (fun i => some (ea (E0 G cA a b x y) (16 + 5 * i)))))))) := by
    refine (h2 1 _ rfl).trans ?_
    show some (vp_cell (cA 3) (8, Sum.inr (Sum.inr (Sum.inr (Sum.inr _))))) = some (vp_cell (cA 3) (8, Sum.inr (Sum.inr (Sum.inr (Sum.inr _)))))
    rw [vp_cell_q, vp_cell_q]
    refine congrArg some (arrV_cg (fun j hj => ?_))
    match j, hj with
    | 0, _ => rfl
    | 1, _ => rfl
    | 2, _ => rfl
    | 3, _ => rfl
    | 4, _ => rfl
    | 5, _ => rfl
    | 6, _ => rfl
    | 7, _ => rfl
    | n + 8, h => exact absurd h (by omega)
  have h : allP (fun k => va_at G classes (ea (E0 G cA a b x y) k, ct (E0 G cA a b x y) k (hp0 k)) H) 102 := by
    refine allP_s ?_ (hy 0 _ rfl)
    refine allP_s ?_ (hx 0 _ rfl)
    refine allP_s ?_ (h6 15 _ rfl)
    refine allP_s ?_ (h6 14 _ rfl)
    refine allP_s ?_ (h6 13 _ rfl)
    refine allP_s ?_ (h6 12 _ rfl)
    refine allP_s ?_ (h6 11 _ rfl)
    refine allP_s ?_ (h6 10 _ rfl)
    refine allP_s ?_ (h6 9 _ rfl)
    refine allP_s ?_ (h6 8 _ rfl)
    refine allP_s ?_ (h6 7 _ rfl)
    refine allP_s ?_ (h6 6 _ rfl)
    refine allP_s ?_ (h6 5 _ rfl)
    refine allP_s ?_ (h6 4 _ rfl)
    refine allP_s ?_ (h6 3 _ rfl)
    refine allP_s ?_ (h6 2 _ rfl)
    refine allP_s ?_ (h6 1 _ rfl)
    refine allP_s ?_ (h6 0 _ rfl)
    refine allP_s ?_ (c0 4 _ rfl)
    refine allP_s ?_ (c0 3 _ rfl)
    refine allP_s ?_ (c0 2 _ rfl)
    refine allP_s ?_ (c0 1 _ rfl)
    refine allP_s ?_ (c0 0 _ rfl)
    refine allP_s ?_ (s4 2 _ rfl)
    refine allP_s ?_ (s4 1 _ rfl)
    refine allP_s ?_ (s4 0 _ rfl)
    refine allP_s ?_ h75
    refine allP_s ?_ (h2 0 _ rfl)
    refine allP_s ?_ (p2x8 0 _ rfl)
    refine allP_s ?_ (p2x7 0 _ rfl)
    refine allP_s ?_ (p2x6 0 _ rfl)
    refine allP_s ?_ (p2x5 0 _ rfl)
    refine allP_s ?_ (p2x4 0 _ rfl)
    refine allP_s ?_ (p2x3 0 _ rfl)
    refine allP_s ?_ (p2x2 0 _ rfl)
    refine allP_s ?_ (p2x1 0 _ rfl)
    refine allP_s ?_ (p2 0 _ rfl)
    refine allP_s ?_ (p1x8 0 _ rfl)
    refine allP_s ?_ (p1x7 0 _ rfl)
    refine allP_s ?_ (p1x6 0 _ rfl)
    refine allP_s ?_ (p1x5 0 _ rfl)
    refine allP_s ?_ (p1x4 0 _ rfl)
    refine allP_s ?_ (p1x3 0 _ rfl)
    refine allP_s ?_ (p1x2 0 _ rfl)
    refine allP_s ?_ (p1x1 0 _ rfl)
    refine allP_s ?_ (p1 0 _ rfl)
    refine allP_s ?_ (r7 4 _ rfl)
    refine allP_s ?_ (r7 3 _ rfl)
    refine allP_s ?_ (r7 2 _ rfl)
    refine allP_s ?_ (r7 1 _ rfl)
    refine allP_s ?_ (r7 0 _ rfl)
    refine allP_s ?_ (r6 4 _ rfl)
    refine allP_s ?_ (r6 3 _ rfl)
    refine allP_s ?_ (r6 2 _ rfl)
    refine allP_s ?_ (r6 1 _ rfl)
    refine allP_s ?_ (r6 0 _ rfl)
    refine allP_s ?_ (r5 4 _ rfl)
    refine allP_s ?_ (r5 3 _ rfl)
    refine allP_s ?_ (r5 2 _ rfl)
    refine allP_s ?_ (r5 1 _ rfl)
    refine allP_s ?_ (r5 0 _ rfl)
    refine allP_s ?_ (r4 4 _ rfl)
    refine allP_s ?_ (r4 3 _ rfl)
    refine allP_s ?_ (r4 2 _ rfl)
    refine allP_s ?_ (r4 1 _ rfl)
    refine allP_s ?_ (r4 0 _ rfl)
    refine allP_s ?_ (r3 4 _ rfl)
    refine allP_s ?_ (r3 3 _ rfl)
    refine allP_s ?_ (r3 2 _ rfl)
    refine allP_s ?_ (r3 1 _ rfl)
    refine allP_s ?_ (r3 0 _ rfl)
    refine allP_s ?_ (r2 4 _ rfl)
    refine allP_s ?_ (r2 3 _ rfl)
    refine allP_s ?_ (r2 2 _ rfl)
    refine allP_s ?_ (r2 1 _ rfl)
    refine allP_s ?_ (r2 0 _ rfl)
    refine allP_s ?_ (r1 4 _ rfl)
    refine allP_s ?_ (r1 3 _ rfl)
    refine allP_s ?_ (r1 2 _ rfl)
    refine allP_s ?_ (r1 1 _ rfl)
    refine allP_s ?_ (r1 0 _ rfl)
    refine allP_s ?_ (r0 4 _ rfl)
    refine allP_s ?_ (r0 3 _ rfl)
    refine allP_s ?_ (r0 2 _ rfl)
    refine allP_s ?_ (r0 1 _ rfl)
    refine allP_s ?_ (r0 0 _ rfl)
    refine allP_s ?_ (e11 4 _ rfl)
    refine allP_s ?_ (e11 3 _ rfl)
    refine allP_s ?_ (e11 2 _ rfl)
    refine allP_s ?_ (e11 1 _ rfl)
    refine allP_s ?_ (e11 0 _ rfl)
    refine allP_s ?_ (e6 4 _ rfl)
    refine allP_s ?_ (e6 3 _ rfl)
    refine allP_s ?_ (e6 2 _ rfl)
    refine allP_s ?_ (e6 1 _ rfl)
    refine allP_s ?_ (e6 0 _ rfl)
    refine allP_s ?_ (e1 4 _ rfl)
    refine allP_s ?_ (e1 3 _ rfl)
    refine allP_s ?_ (e1 2 _ rfl)
    refine allP_s ?_ (e1 1 _ rfl)
    refine allP_s ?_ (e1 0 _ rfl)
    refine allP_s ?_ (h5 0 _ rfl)
    exact trivial
  intro k q hq
  obtain ⟨hk, rfl⟩ := wd_out hq
  exact allP_get h k hk
/-- w's addresses are those of f from n on -/
def Ads (f : Nat → Nat) (w : va_W) (n m : Nat) : Prop := w.length = m ∧ ∀ i, i < m → ∃ e, w[i]? = some (f (n + i), e)
section ADS
variable {f g : Nat → Nat} {w w1 w2 : va_W} {n m m1 m2 : Nat} {cA : Nat → ClassId}
theorem ads_nil : Ads f [] n 0 := ⟨rfl, fun i h => absurd h (Nat.not_lt_zero i)⟩
theorem ads_app (h1 : Ads f w1 n m1) (h2 : Ads f w2 (n + m1) m2) : Ads f (w1 ++ w2) n (m1 + m2) := by
  refine ⟨by rw [List.length_append, h1.1, h2.1], fun i hi => ?_⟩
  by_cases h : i < m1
  · rw [List.getElem?_append_left (by rw [h1.1]; exact h)]
    exact h1.2 i h
  · rw [List.getElem?_append_right (by rw [h1.1]; omega), h1.1]
    obtain ⟨e, he⟩ := h2.2 (i - m1) (by omega)
    exact ⟨e, by rw [he, show n + m1 + (i - m1) = n + i by omega]⟩
theorem ads_cons {q : Nat} {e : va_E} (h : q = f n) (h2 : Ads f w (n + 1) m) : Ads f ((q, e) :: w) n (m + 1) := by
  refine ⟨by rw [List.length_cons, h2.1], fun i hi => ?_⟩
  match i, hi with
  | 0, _ => exact ⟨e, by rw [h]; rfl⟩
  | j + 1, hi =>
    obtain ⟨e', he⟩ := h2.2 j (by omega)
    exact ⟨e', by rw [List.getElem?_cons_succ, he, show n + 1 + j = n + (j + 1) by omega]⟩
theorem ads_g1 (h : ∀ i, i < 5 → g i = f (n + i)) : Ads f (g1 cA g) n 5 := ads_cons (h 0 (by omega)) ( ads_cons (h 1 (by omega)) ( ads_cons (h 2 (by omega)) ( ads_cons (h 3 (by omega)) ( ads_cons (h 4 (by omega)) (ads_nil)))))
theorem ads_g4 (h : ∀ i, i < 3 → g i = f (n + i)) : Ads f (g4 cA g) n 3 := ads_cons (h 0 (by omega)) ( ads_cons (h 1 (by omega)) ( ads_cons (h 2 (by omega)) (ads_nil)))
theorem ads_g0 (h : ∀ i, i < 5 → g i = f (n + i)) : Ads f (g0 cA g) n 5 := ads_cons (h 0 (by omega)) ( ads_cons (h 1 (by omega)) ( ads_cons (h 2 (by omega)) ( ads_cons (h 3 (by omega)) ( ads_cons (h 4 (by omega)) (ads_nil)))))
theorem ads_g6 (h : ∀ i, i < 16 → g i = f (n + i)) : Ads f (g6 cA g) n 16 := ads_cons (h 0 (by omega)) ( ads_cons (h 1 (by omega)) ( ads_cons (h 2 (by omega)) ( ads_cons (h 3 (by omega)) ( ads_cons (h 4 (by omega)) ( ads_cons (h 5 (by omega)) ( ads_cons (h 6 (by omega)) ( ads_cons (h 7 (by omega)) ( ads_cons (h 8 (by omega)) ( ads_cons (h 9 (by omega)) ( ads_cons (h 10 (by omega)) ( ads_cons (h 11 (by omega)) ( ads_cons (h 12 (by omega)) ( ads_cons (h 13 (by omega)) ( ads_cons (h 14 (by omega)) ( ads_cons (h 15 (by omega)) (ads_nil))))))))))))))))
theorem ads_g3 (h : ∀ i, i < 14 → g i = f (n + i)) : Ads f (g3 cA g) n 14 :=
  ads_cons (h 0 (by omega)) (ads_app (ads_app (ads_app (ads_app (ads_app (ads_app (ads_app (ads_app (ads_app ads_nil (ads_g1 (fun i hi => by rw [h (1 + i) (by omega)]; congr 1; omega))) (ads_cons ((h 6 (by omega)).trans (congrArg f (by omega))) ads_nil)) (ads_cons ((h 7 (by omega)).trans (congrArg f (by omega))) ads_nil)) (ads_cons ((h 8 (by omega)).trans (congrArg f (by omega))) ads_nil)) (ads_cons ((h 9 (by omega)).trans (congrArg f (by omega))) ads_nil)) (ads_cons ((h 10 (by omega)).trans (congrArg f (by omega))) ads_nil)) (ads_cons ((h 11 (by omega)).trans (congrArg f (by omega))) ads_nil)) (ads_cons ((h 12 (by omega)).trans (congrArg f (by omega))) ads_nil)) (ads_cons ((h 13 (by omega)).trans (congrArg f (by omega))) ads_nil))
theorem ads_g2 (h : ∀ i, i < 42 → g i = f (n + i)) : Ads f (g2 cA g) n 42 :=
  ads_cons (h 0 (by omega)) (ads_cons (h 1 (by omega)) (ads_app (ads_app (ads_app (ads_app (ads_app (ads_app (ads_app (ads_app ads_nil (ads_g1 (fun i hi => by rw [h (2 + i) (by omega)]; congr 1; omega))) (ads_g1 (fun i hi => by rw [h (7 + i) (by omega)]; congr 1; omega))) (ads_g1 (fun i hi => by rw [h (12 + i) (by omega)]; congr 1; omega))) (ads_g1 (fun i hi => by rw [h (17 + i) (by omega)]; congr 1; omega))) (ads_g1 (fun i hi => by rw [h (22 + i) (by omega)]; congr 1; omega))) (ads_g1 (fun i hi => by rw [h (27 + i) (by omega)]; congr 1; omega))) (ads_g1 (fun i hi => by rw [h (32 + i) (by omega)]; congr 1; omega))) (ads_g1 (fun i hi => by rw [h (37 + i) (by omega)]; congr 1; omega))))
theorem ads_g5 (h : ∀ i, i < 84 → g i = f (n + i)) : Ads f (g5 cA g) n 84 :=
  ads_cons (h 0 (by omega)) (ads_app (ads_app (ads_app (ads_app (ads_app (ads_app ads_nil (ads_g3 (fun i hi => by rw [h (1 + i) (by omega)]; congr 1; omega))) (ads_g3 (fun i hi => by rw [h (15 + i) (by omega)]; congr 1; omega))) (ads_g2 (fun i hi => by rw [h (29 + i) (by omega)]; congr 1; omega))) (ads_g1 (fun i hi => by rw [h (71 + i) (by omega)]; congr 1; omega))) (ads_g4 (fun i hi => by rw [h (76 + i) (by omega)]; congr 1; omega))) (ads_g0 (fun i hi => by rw [h (79 + i) (by omega)]; congr 1; omega)))
end ADS
theorem ads0 {cA : Nat → ClassId} {a b : Nat → Nat} {x y : Nat} : Ads (ad0 a b x y) (ws0 cA a b x y) 0 102 := by
  have h5 : Ads (ad0 a b x y) (g5 cA a) 0 84 := ads_g5 (fun i hi => by unfold ad0; rw [if_pos (by omega)]; congr 1; omega)
  have h6 : Ads (ad0 a b x y) (g6 cA b) 84 16 := ads_g6 (fun i hi => by unfold ad0; rw [if_neg (by omega), if_pos (by omega)]; congr 1; omega)
  have hx : Ads (ad0 a b x y) [(x, .inl (cA 4, 1, .inr (.inl (fun _ => (0 : Int32).toInt64))))] 100 1 := ads_cons (by unfold ad0; rw [if_neg (by decide), if_neg (by decide), if_pos rfl]) ads_nil
  have hy : Ads (ad0 a b x y) [(y, .inl (cA 5, 1, .inr (.inr (.inr (.inl (fun _ => mk64 0 0))))))] 101 1 := ads_cons (by unfold ad0; rw [if_neg (by decide), if_neg (by decide), if_neg (by decide)]) ads_nil
  unfold ws0
  exact ads_app (ads_app (ads_app (ads_app ads_nil h5) h6) hx) hy
theorem inj0 {G : va_G} {cA : Nat → ClassId} {a b : Nat → Nat} {x y : Nat} {A : Nat → Prop} (hD : va_D A (ws0 cA a b x y)) : injE (E0 G cA a b x y) := by
  intro i j hi hj e
  obtain ⟨e1, h1⟩ := (ads0 (cA := cA) (a := a) (b := b) (x := x) (y := y)).2 (pi0 i) (pi_lt i hi)
  obtain ⟨e2, h2⟩ := (ads0 (cA := cA) (a := a) (b := b) (x := x) (y := y)).2 (pi0 j) (pi_lt j hj)
  rw [Nat.zero_add] at h1 h2
  have h := hD.1 _ _ _ _ h1 h2 e
  rw [← sg_pi i hi, h, sg_pi j hj]
theorem fresh0 {G : va_G} {cA : Nat → ClassId} {a b : Nat → Nat} {x y : Nat} {A : Nat → Prop} (hD : va_D A (ws0 cA a b x y)) : ∀ q, A0 (E0 G cA a b x y) q → A q := by
  rintro q ⟨k, hk, rfl⟩
  obtain ⟨e1, h1⟩ := (ads0 (cA := cA) (a := a) (b := b) (x := x) (y := y)).2 (pi0 k) (pi_lt k hk)
  rw [Nat.zero_add] at h1
  exact hD.2 _ _ h1
section NA
variable {G : va_G} {cA : Nat → ClassId} {A : Nat → Prop} {nL : Nat} {p : Program} {l : Launch} {e : Env} {R : Room} {s : State} {m : MethodId} {args : Array Value} {below : List Frame} {meth : Method} {c : Code} {Q : State → Prop} {ws : va_W} {pc : Nat} {L : List (Nat × Value)} {st : List Value} {k n : Nat} {cc : ByteArray} {own : String}
theorem n_astore_n {x : Nat} {i : Nat} {f : Fin 4} (L' : List (Nat × Value)) (C : Cn G cA A nL p s m args c cc own) (d : decode cc pc = .ok (.astore_n f, 1)) (hi : (f : Nat) = i) (hn : i < nL) (hL : (i, Value.ref x) :: ltf i L = L') (kk : JN G A nL p l e R s m args below meth c Q ws (pc + 1) L' st k n) : JN G A nL p l e R s m args below meth c Q ws pc L (.ref x :: st) k n :=
  fun ls H locs hl hP hD hS => lv_astore_n C.1 C.2.1 d hi hl hn hL (fun ls' hl' => kk ls' H locs hl' hP hD hS)
theorem n_astore {x : Nat} {i : Nat} (L' : List (Nat × Value)) (C : Cn G cA A nL p s m args c cc own) (d : decode cc pc = .ok (.astore i, 2)) (hn : i < nL) (hL : (i, Value.ref x) :: ltf i L = L') (kk : JN G A nL p l e R s m args below meth c Q ws (pc + 2) L' st k n) : JN G A nL p l e R s m args below meth c Q ws pc L (.ref x :: st) k n :=
  fun ls H locs hl hP hD hS => lv_astore C.1 C.2.1 d hl hn hL (fun ls' hl' => kk ls' H locs hl' hP hD hS)
theorem n_istore {x : Int32} {i : Nat} (L' : List (Nat × Value)) (C : Cn G cA A nL p s m args c cc own) (d : decode cc pc = .ok (.istore i, 2)) (hn : i < nL) (hL : (i, Value.int x) :: ltf i L = L') (kk : JN G A nL p l e R s m args below meth c Q ws (pc + 2) L' st k n) : JN G A nL p l e R s m args below meth c Q ws pc L (.int x :: st) k n :=
  fun ls H locs hl hP hD hS => lv_istore C.1 C.2.1 d hl hn hL (fun ls' hl' => kk ls' H locs hl' hP hD hS)
theorem n_sub {L' : List (Nat × Value)} (ks : List Nat) (h : lv_pick L ks = L') (kk : JN G A nL p l e R s m args below meth c Q ws pc L' st k n) : JN G A nL p l e R s m args below meth c Q ws pc L st k n :=
  fun ls H locs hl hP hD hS => kk ls H locs (lv_sub hl ks h) hP hD hS
end NA
set_option maxHeartbeats 4000000 in
set_option maxRecDepth 100000 in
theorem entry {G : va_G} {cA : Nat → ClassId} {A : Nat → Prop} {p : Program} {l : Launch} {e : Env} {s : State} {m : MethodId} {args : Array Value} {below : List Frame} {meth : Method} {c : Code} {Q : State → Prop} {b0 : Nat} (C : Cn G cA A 9 p s m args c code RL) (kk : ∀ (a b : Nat → Nat) (x y : Nat), JN G A 9 p l e room_1 s m args below meth c Q (ws0 cA a b x y) 28 [(0, .ref b0), (1, .ref (a 0)), (2, .ref (b 0)), (3, .ref x), (4, .ref y), (5, .int 0)] [] (0 + 1 + rmN5.cells + 1 + rmN6.cells + 1 + 1) (0 + 12 + rmN5.slots + 24 + rmN6.slots + 1 + 1)) : JN G A 9 p l e room_1 s m args below meth c Q [] 0 [(0, .ref b0)] [] 0 0 := by
  refine n_new (W1 := fun q0 => [] ++ [(q0, .inr (5, [.null, .null, .null, .null, .null, .null, .null, .null, .int 0, .int 0, .int 0, .int 0]))]) C kc5 ⟨mem_all 93 (by decide +kernel) (by decide +kernel), mem_all 94 (by decide +kernel) (by decide +kernel), mem_all 77 (by decide +kernel) (by decide +kernel)⟩ df5 (Nat.le_of_ble_eq_true rfl) (Nat.le_of_ble_eq_true rfl) dL_law_0 (fun _ => rfl) (fun q0 => ?_)
  refine n_dup C dL_law_3 rfl ?_
  refine n_callI (As := []) (q := q0) (st := [.ref q0]) (ws := []) (W1 := fun a => [] ++ g5 cA a) con5_init C mi5_init rfl (mem_all 96 (by decide +kernel) (by decide +kernel)) lkL_116 rfl ⟨Nat.le_of_ble_eq_true rfl, Nat.le_of_ble_eq_true rfl, Nat.le_of_ble_eq_true rfl, Nat.le_of_ble_eq_true rfl, Nat.le_of_ble_eq_true rfl⟩ dL_law_4 rfl (fun _ => rfl) (fun a ea => ?_)
  subst ea
  refine n_astore_n [(1, .ref (a 0)), (0, .ref b0)] C dL_law_7 rfl (by decide) rfl ?_
  refine n_new (W1 := fun q8 => ([] ++ g5 cA a) ++ [(q8, .inr (6, [.int 0, .null, .null, .null, .null, .int 0, .int 0, .null, .null, .null, .null, .null, .null, .null, .int 0, .null, .null, .null, .null, .int 0, .int 0, .int 0, .int 0, .int 0]))]) C kc6 ⟨mem_all 1134 (by decide +kernel) (by decide +kernel), mem_all 1135 (by decide +kernel) (by decide +kernel), mem_all 83 (by decide +kernel) (by decide +kernel)⟩ df6 (Nat.le_of_ble_eq_true rfl) (Nat.le_of_ble_eq_true rfl) dL_law_8 (fun _ => rfl) (fun q8 => ?_)
  refine n_dup C dL_law_11 rfl ?_
  refine n_callI (As := []) (q := q8) (st := [.ref q8]) (ws := [] ++ g5 cA a) (W1 := fun b => ([] ++ g5 cA a) ++ g6 cA b) con6_init C mi6_init rfl (mem_all 1137 (by decide +kernel) (by decide +kernel)) lkL_119 rfl ⟨Nat.le_of_ble_eq_true rfl, Nat.le_of_ble_eq_true rfl, Nat.le_of_ble_eq_true rfl, Nat.le_of_ble_eq_true rfl, Nat.le_of_ble_eq_true rfl⟩ dL_law_12 rfl (fun _ => rfl) (fun b eb => ?_)
  subst eb
  refine n_astore_n [(2, .ref (b 0)), (1, .ref (a 0)), (0, .ref b0)] C dL_law_15 rfl (by decide) rfl ?_
  refine n_iconst (v := 1) 1 C dL_law_16 (by decide) ?_
  refine n_newarr 4 (nn := 1) (atype := .long) (ty := .long) (a0 := (1, (.inr (.inl (fun _ => (0 : Int32).toInt64))))) (N' := 1) (W1 := fun x => (([] ++ g5 cA a) ++ g6 cA b) ++ [(x, .inl (cA 4, 1, .inr (.inl (fun _ => (0 : Int32).toInt64))))]) C (mem_all 1502 (by decide +kernel) (by decide +kernel)) rfl rfl (fun _ h => h) (fun c1 => ?_) (by decide) (by decide) (by decide) (Nat.le_of_ble_eq_true rfl) (Nat.le_of_ble_eq_true rfl) dL_law_17 (fun _ => rfl) (fun x => ?_)
  · show arrV c1 1 (fun _ => .long (0 : Int32).toInt64) = _
    rw [show (0 : Int32).toInt64 = 0 by decide]
    rfl
  refine n_astore_n [(3, .ref x), (2, .ref (b 0)), (1, .ref (a 0)), (0, .ref b0)] C dL_law_19 rfl (by decide) rfl ?_
  refine n_iconst (v := 1) 1 C dL_law_20 (by decide) ?_
  refine n_newarr 5 (nn := 1) (atype := .double) (ty := .double) (a0 := (1, (.inr (.inr (.inr (.inl (fun _ => mk64 0 0))))))) (N' := 1) (W1 := fun y => ((([] ++ g5 cA a) ++ g6 cA b) ++ [(x, .inl (cA 4, 1, .inr (.inl (fun _ => (0 : Int32).toInt64))))]) ++ [(y, .inl (cA 5, 1, .inr (.inr (.inr (.inl (fun _ => mk64 0 0))))))]) C (mem_all 1503 (by decide +kernel) (by decide +kernel)) rfl rfl (fun _ h => h) (fun c1 => ?_) (by decide) (by decide) (by decide) (Nat.le_of_ble_eq_true rfl) (Nat.le_of_ble_eq_true rfl) dL_law_21 (fun _ => rfl) (fun y => ?_)
  · show arrV c1 1 (fun _ => .double (mk64 0 0)) = _
    rw [show mk64 0 0 = 0 by decide]
    rfl
  refine n_astore [(4, .ref y), (3, .ref x), (2, .ref (b 0)), (1, .ref (a 0)), (0, .ref b0)] C dL_law_23 (by decide) rfl ?_
  refine n_iconst (v := 0) 0 C dL_law_25 (by decide) ?_
  refine n_istore [(5, .int 0), (4, .ref y), (3, .ref x), (2, .ref (b 0)), (1, .ref (a 0)), (0, .ref b0)] C dL_law_26 (by decide) rfl ?_
  exact n_sub [5, 4, 3, 2, 1, 0] rfl (kk a b x y)
