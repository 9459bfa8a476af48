/-! The judgement J: from this point, with this rest X of the plain program, the machine comes to Q of X's answer; and a row for each instruction. -/
def J {ρ : Type} (E : En) (nL : Nat) (p : Program) (l : Launch) (e : Env) (R : Room) (s : State) (m : MethodId) (args : Array Value) (below : List Frame) (meth : Method) (c : Code) (Q : ρ → State → Prop) (X : Option ρ) (pc : Nat) (L : List (Nat × Value)) (st : List Value) (σ : Hp) (k n : Nat) : Prop :=
  ∀ o : ρ, X = some o → ∀ (ls : Array Slot) (H : Heap) (locs : List Loc), lv_has ls nL L → va_P (eD E) classes (wd E σ) H → va_S (AA E s.heap.size) s.heap H locs → W p l e R s m args below meth c H locs k n (Q o) (F0 m pc ls st)
/-- what a walk has at hand, the same at every row -/
def Cx (E : En) (nL : Nat) (p : Program) (s : State) (m : MethodId) (args : Array Value) (c : Code) (cc : ByteArray) (own : String) : Prop :=
  p.tables.exec = Jvm.exec ∧ c.code = cc ∧ c.maxLocals = nL ∧ s.vm.findClass own = some m.cls ∧ (∀ w ∈ lw_all, w.before args s = true) ∧ WX E s s.heap
/-- a class: its fields' words, its place among the classes, its fields' types and names -/
def Kc (C : String) (T : u_T) (N ci : Nat) (ty : Nat → FieldType) : Prop := (∀ w ∈ u_ws C T N, w ∈ lw_all) ∧ classes[ci]? = some (C, T, N) ∧ (∀ k, k < N → parseFieldDescriptor (T k).2.2.1 = some (ty k)) ∧ (∀ a, a < N → ∀ b, b < N → a ≠ b → (T a).2.1 ≠ (T b).2.1)
/-- a field's link -/
def Fl (own : String) (idx : Nat) (C : String) (T : u_T) (N ci : Nat) (ty : Nat → FieldType) (j : Nat) : Prop := Kc C T N ci ty ∧ j < N ∧ Cond.fieldLink own idx (T j).1 (T j).2.1 (T j).2.2.1 ∈ lw_all
/-- a method: its words; the number of its arguments -/
def Mi (y : MethodName) (cc : ByteArray) (maxL : Nat) (ret : Option FieldType) (n : Nat) : Prop := Cond.code y cc maxL ret ∈ lw_all ∧ Cond.initialized y.cls ∈ lw_all ∧ (y.cls ≠ "java/lang/invoke/MethodHandle" ∧ y.cls ≠ "java/lang/invoke/VarHandle" ∧ (parseMethodDescriptor y.desc).map (fun d => d.parameters.length) = some n)
def Mv (y : MethodName) : Prop := Cond.instanceMethod y ∈ lw_all ∧ Cond.selects y.cls y y ∈ lw_all
def gd {α : Type} (b : Bool) (x : Option α) : Option α := match b with | true => x | false => none
def vib (i : Int32) (n : Nat) : Bool := !(decide (i < 0) || decide (n ≤ i.toNatClampNeg))
theorem vib_in {i : Int32} {n : Nat} (h : vib i n = true) : vp_in i n := by
  intro q
  simp only [vib, Bool.not_eq_true', Bool.or_eq_false_iff, decide_eq_false_iff_not] at h
  exact q.elim h.1 h.2
/-- a call's answer -/
def bd {α β : Type} (x : Option (α × Hp)) (f : α → Hp → Option β) : Option β := match x with | none => none | some q => f q.1 q.2
/-- a call's answer, or the exception that it throws -/
def bx {α β : Type} (x : Option ((α ⊕ Nat) × Hp)) (f : α → Hp → Option ((β ⊕ Nat) × Hp)) : Option ((β ⊕ Nat) × Hp) := match x with | none => none | some (.inl a, σ) => f a σ | some (.inr n, σ) => some (.inr n, σ)
/-- a loop: the body over what it does behind -/
def it {T : Type} (z : T) (B : T → T) : Nat → T | 0 => z | n + 1 => B (it z B n)
theorem it_s {T : Type} (z : T) (B : T → T) (n : Nat) : it z B (n + 1) = B (it z B n) := rfl
theorem it_0 {T : Type} (z : T) (B : T → T) : it z B 0 = z := rfl
def exN (n : Nat) : String := if n = 1 then "java/lang/IndexOutOfBoundsException" else if n = 2 then "java/lang/IllegalArgumentException" else if n = 3 then "java/lang/IllegalStateException" else if n = 4 then "java/util/NoSuchElementException" else "java/lang/UnsupportedOperationException"
/-! ends -/
def QI (E : En) (below : List Frame) (args : Array Value) (s : State) (mc ms : Nat) : Int32 × Hp → State → Prop := fun o => MQ below (va_Qi (fun r (_ : Unit) => r = o.1) (fun _ t => PostW E o.2 t) (AA E s.heap.size)) args s mc ms (AA E s.heap.size)
def QV (E : En) (below : List Frame) (args : Array Value) (s : State) (mc ms : Nat) : Unit × Hp → State → Prop := fun o => MQ below (va_Qv (fun (_ : Unit) => True) (fun _ t => PostW E o.2 t) (AA E s.heap.size)) args s mc ms (AA E s.heap.size)
def QQ (E : En) (below : List Frame) (args : Array Value) (s : State) (mc ms : Nat) : Option Nat × Hp → State → Prop := fun o => MQ below (va_Qq (fun r (_ : Unit) => r = o.1.map (ea E)) (fun _ t => PostW E o.2 t) (AA E s.heap.size)) args s mc ms (AA E s.heap.size)
def XCW (E : En) (sz : Nat) {α : Type} (o : (α ⊕ Nat) × Hp) : String → State → State → Prop := vx_X (fun (_ : Unit) => True) (fun En _ t => (∃ n, o.1 = .inr n ∧ En = exN n) ∧ PostW E o.2 t) (AA E sz)
def XG (E : En) (below : List Frame) (args : Array Value) (s : State) (mc ms : Nat) {α : Type} (Qc : (α ⊕ Nat) × Hp → Array Value → State → Outcome → State → Prop) : (α ⊕ Nat) × Hp → State → Prop := fun o => vx_MQ below (Qc o) (XCW E s.heap.size o) args s mc ms (AA E s.heap.size)
abbrev XI (E : En) (below : List Frame) (args : Array Value) (s : State) (mc ms : Nat) : (Int32 ⊕ Nat) × Hp → State → Prop := XG E below args s mc ms (fun o => va_Qi (fun r (_ : Unit) => o.1 = .inl r) (fun _ t => PostW E o.2 t) (AA E s.heap.size))
abbrev XV (E : En) (below : List Frame) (args : Array Value) (s : State) (mc ms : Nat) : (Unit ⊕ Nat) × Hp → State → Prop := XG E below args s mc ms (fun o => va_Qv (fun (_ : Unit) => o.1 = .inl ()) (fun _ t => PostW E o.2 t) (AA E s.heap.size))
/-! contracts: a method does what the plain program g says -/
def ConI (y : MethodName) (cc : ByteArray) (maxL : Nat) (ret : FieldType) (rm : Room) (vs : En → List Value) (g : Hp → Option (Int32 × Hp)) : Prop :=
  ∀ (l : Launch) (E : En) (σ : Hp) (o : Int32 × Hp) (sz : Nat), g σ = some o → Met l y (Cond.code y cc maxL (some ret) :: lw_all) rm (va_Pc (vs E) (PreW E σ sz)) (va_Qi (fun r (_ : Unit) => r = o.1) (fun _ t => PostW E o.2 t) (AA E sz)) rm.cells rm.slots (AA E sz)
def ConV (y : MethodName) (cc : ByteArray) (maxL : Nat) (rm : Room) (vs : En → List Value) (g : Hp → Option (Unit × Hp)) : Prop :=
  ∀ (l : Launch) (E : En) (σ : Hp) (o : Unit × Hp) (sz : Nat), g σ = some o → Met l y (Cond.code y cc maxL none :: lw_all) rm (va_Pc (vs E) (PreW E σ sz)) (va_Qv (fun (_ : Unit) => True) (fun _ t => PostW E o.2 t) (AA E sz)) rm.cells rm.slots (AA E sz)
def ConQ (y : MethodName) (cc : ByteArray) (maxL : Nat) (ret : FieldType) (rm : Room) (vs : En → List Value) (g : Hp → Option (Option Nat × Hp)) : Prop :=
  ∀ (l : Launch) (E : En) (σ : Hp) (o : Option Nat × Hp) (sz : Nat), g σ = some o → Met l y (Cond.code y cc maxL (some ret) :: lw_all) rm (va_Pc (vs E) (PreW E σ sz)) (va_Qq (fun r (_ : Unit) => r = o.1.map (ea E)) (fun _ t => PostW E o.2 t) (AA E sz)) rm.cells rm.slots (AA E sz)
def CoXI (y : MethodName) (cc : ByteArray) (maxL : Nat) (ret : FieldType) (rm : Room) (vs : En → List Value) (g : Hp → Option ((Int32 ⊕ Nat) × Hp)) : Prop :=
  ∀ (l : Launch) (_ : l.stackTraces = false) (E : En) (σ : Hp) (o : (Int32 ⊕ Nat) × Hp) (sz : Nat), g σ = some o → vx_Met l y (Cond.code y cc maxL (some ret) :: lw_all) rm (va_Pc (vs E) (PreW E σ sz)) (va_Qi (fun r (_ : Unit) => o.1 = .inl r) (fun _ t => PostW E o.2 t) (AA E sz)) (XCW E sz o) rm.cells rm.slots (AA E sz)
def CoXV (y : MethodName) (cc : ByteArray) (maxL : Nat) (rm : Room) (vs : En → List Value) (g : Hp → Option ((Unit ⊕ Nat) × Hp)) : Prop :=
  ∀ (l : Launch) (_ : l.stackTraces = false) (E : En) (σ : Hp) (o : (Unit ⊕ Nat) × Hp) (sz : Nat), g σ = some o → vx_Met l y (Cond.code y cc maxL none :: lw_all) rm (va_Pc (vs E) (PreW E σ sz)) (va_Qv (fun (_ : Unit) => o.1 = .inl ()) (fun _ t => PostW E o.2 t) (AA E sz)) (XCW E sz o) rm.cells rm.slots (AA E sz)
theorem cx_of {E : En} {p : Program} {l : Launch} {y : MethodName} {cc : ByteArray} {maxL : Nat} {ret : Option FieldType} {rm : Room} {e : Env} {s s₁ : State} {m : MethodId} {args : Array Value} {below : List Frame} {meth : Method} {c : Code} (B : BodyLoose p l y (headSpec (Cond.code y cc maxL ret :: lw_all) rm) cc maxL ret e s m args below meth c s₁) (hml : c.maxLocals = maxL) (hX : WX E s s.heap) : Cx E maxL p s m args c cc y.cls :=
  ⟨B.exec, B.bytes, hml, findClass_of_methodNamed B.named, fun w h => atoms_spec (ws := Cond.code y cc maxL ret :: lw_all) B.pre w (List.mem_cons_of_mem _ h), hX⟩
theorem conI_of {y : MethodName} {cc : ByteArray} {maxL : Nat} {ret : FieldType} {rm : Room} {vs : En → List Value} {g : Hp → Option (Int32 × Hp)} {L : En → List (Nat × Value)} (hy : plainName y.cls = true) (hlen : ∀ E, (lg_sl (vs E)).length ≤ maxL) (hL : ∀ E, lv_args 0 (vs E) = L E)
    (h : ∀ (l : Launch) (E : En) (σ : Hp) (p : Program) (e : Env) (s : State) (m : MethodId) (args : Array Value) (below : List Frame) (meth : Method) (c : Code), Cx E maxL p s m args c cc y.cls → meth.sig.returnType = some ret → meth.locks = false → J E maxL p l e rm s m args below meth c (QI E below args s rm.cells rm.slots) (g σ) 0 (L E) [] σ 0 0) : ConI y cc maxL ret rm vs g := by
  intro l E σ o sz hg
  refine Met.ofW (cc := cc) (maxL := maxL) (ret := some ret) hy rfl ?_
  intro p e s m args below meth c s₁ B hml hv
  obtain ⟨rfl, hsz, hP, hX⟩ := hv
  subst hsz
  have hl := lv_entry (vs E) (n := maxL) (hlen E)
  rw [hL] at hl
  rw [lg_entry_eq]
  exact h l E σ p e s m _ below meth c (cx_of B hml hX) B.returns B.notSynchronized o hg _ _ [] hl hP va_S.rf
theorem conV_of {y : MethodName} {cc : ByteArray} {maxL : Nat} {rm : Room} {vs : En → List Value} {g : Hp → Option (Unit × Hp)} {L : En → List (Nat × Value)} (hy : plainName y.cls = true) (hlen : ∀ E, (lg_sl (vs E)).length ≤ maxL) (hL : ∀ E, lv_args 0 (vs E) = L E)
    (h : ∀ (l : Launch) (E : En) (σ : Hp) (p : Program) (e : Env) (s : State) (m : MethodId) (args : Array Value) (below : List Frame) (meth : Method) (c : Code), Cx E maxL p s m args c cc y.cls → meth.sig.returnType = none → meth.locks = false → J E maxL p l e rm s m args below meth c (QV E below args s rm.cells rm.slots) (g σ) 0 (L E) [] σ 0 0) : ConV y cc maxL rm vs g := by
  intro l E σ o sz hg
  refine Met.ofW (cc := cc) (maxL := maxL) (ret := none) hy rfl ?_
  intro p e s m args below meth c s₁ B hml hv
  obtain ⟨rfl, hsz, hP, hX⟩ := hv
  subst hsz
  have hl := lv_entry (vs E) (n := maxL) (hlen E)
  rw [hL] at hl
  rw [lg_entry_eq]
  exact h l E σ p e s m _ below meth c (cx_of B hml hX) B.returns B.notSynchronized o hg _ _ [] hl hP va_S.rf
theorem conQ_of {y : MethodName} {cc : ByteArray} {maxL : Nat} {ret : FieldType} {rm : Room} {vs : En → List Value} {g : Hp → Option (Option Nat × Hp)} {L : En → List (Nat × Value)} (hy : plainName y.cls = true) (hlen : ∀ E, (lg_sl (vs E)).length ≤ maxL) (hL : ∀ E, lv_args 0 (vs E) = L E)
    (h : ∀ (l : Launch) (E : En) (σ : Hp) (p : Program) (e : Env) (s : State) (m : MethodId) (args : Array Value) (below : List Frame) (meth : Method) (c : Code), Cx E maxL p s m args c cc y.cls → meth.sig.returnType = some ret → meth.locks = false → J E maxL p l e rm s m args below meth c (QQ E below args s rm.cells rm.slots) (g σ) 0 (L E) [] σ 0 0) : ConQ y cc maxL ret rm vs g := by
  intro l E σ o sz hg
  refine Met.ofW (cc := cc) (maxL := maxL) (ret := some ret) hy rfl ?_
  intro p e s m args below meth c s₁ B hml hv
  obtain ⟨rfl, hsz, hP, hX⟩ := hv
  subst hsz
  have hl := lv_entry (vs E) (n := maxL) (hlen E)
  rw [hL] at hl
  rw [lg_entry_eq]
  exact h l E σ p e s m _ below meth c (cx_of B hml hX) B.returns B.notSynchronized o hg _ _ [] hl hP va_S.rf
theorem coXI_of {y : MethodName} {cc : ByteArray} {maxL : Nat} {ret : FieldType} {rm : Room} {vs : En → List Value} {g : Hp → Option ((Int32 ⊕ Nat) × Hp)} {L : En → List (Nat × Value)} (hy : plainName y.cls = true) (hlen : ∀ E, (lg_sl (vs E)).length ≤ maxL) (hL : ∀ E, lv_args 0 (vs E) = L E)
    (h : ∀ (l : Launch) (E : En) (σ : Hp) (p : Program) (e : Env) (s : State) (m : MethodId) (args : Array Value) (below : List Frame) (meth : Method) (c : Code), Cx E maxL p s m args c cc y.cls → meth.sig.returnType = some ret → meth.locks = false → l.stackTraces = false → (∀ x ∈ c.exceptionTable.toList, False) → J E maxL p l e rm s m args below meth c (XI E below args s rm.cells rm.slots) (g σ) 0 (L E) [] σ 0 0) : CoXI y cc maxL ret rm vs g := by
  intro l hst E σ o sz hg
  refine vx_ofW (cc := cc) (maxL := maxL) (ret := some ret) hy rfl ?_
  intro p e s m args below meth c s₁ B hml ht hv
  obtain ⟨rfl, hsz, hP, hX⟩ := hv
  subst hsz
  have hl := lv_entry (vs E) (n := maxL) (hlen E)
  rw [hL] at hl
  rw [lg_entry_eq]
  exact h l E σ p e s m _ below meth c (cx_of B hml hX) B.returns B.notSynchronized hst ht o hg _ _ [] hl hP va_S.rf
theorem coXV_of {y : MethodName} {cc : ByteArray} {maxL : Nat} {rm : Room} {vs : En → List Value} {g : Hp → Option ((Unit ⊕ Nat) × Hp)} {L : En → List (Nat × Value)} (hy : plainName y.cls = true) (hlen : ∀ E, (lg_sl (vs E)).length ≤ maxL) (hL : ∀ E, lv_args 0 (vs E) = L E)
    (h : ∀ (l : Launch) (E : En) (σ : Hp) (p : Program) (e : Env) (s : State) (m : MethodId) (args : Array Value) (below : List Frame) (meth : Method) (c : Code), Cx E maxL p s m args c cc y.cls → meth.sig.returnType = none → meth.locks = false → l.stackTraces = false → (∀ x ∈ c.exceptionTable.toList, False) → J E maxL p l e rm s m args below meth c (XV E below args s rm.cells rm.slots) (g σ) 0 (L E) [] σ 0 0) : CoXV y cc maxL rm vs g := by
  intro l hst E σ o sz hg
  refine vx_ofW (cc := cc) (maxL := maxL) (ret := none) hy rfl ?_
  intro p e s m args below meth c s₁ B hml ht hv
  obtain ⟨rfl, hsz, hP, hX⟩ := hv
  subst hsz
  have hl := lv_entry (vs E) (n := maxL) (hlen E)
  rw [hL] at hl
  rw [lg_entry_eq]
  exact h l E σ p e s m _ below meth c (cx_of B hml hX) B.returns B.notSynchronized hst ht o hg _ _ [] hl hP va_S.rf
section JR
variable {ρ : Type} {E : En} {nL : Nat} {p : Program} {l : Launch} {e : Env} {R : Room} {s : State} {m : MethodId} {args : Array Value} {below : List Frame} {meth : Method} {c : Code} {Q : ρ → State → Prop} {X Y Z : Option ρ} {pc : Nat} {L L' : List (Nat × Value)} {st : List Value} {σ : Hp} {k n : Nat} {cc : ByteArray} {own : String}
theorem j_none : J E nL p l e R s m args below meth c Q none pc L st σ k n := fun o h => nomatch h
theorem j_sub (ks : List Nat) (h : lv_pick L ks = L') (kk : J E nL p l e R s m args below meth c Q X pc L' st σ k n) : J E nL p l e R s m args below meth c Q X pc L st σ k n :=
  fun o ho ls H locs hl hP hS => kk o ho ls H locs (lv_sub hl ks h) hP hS
theorem j_gd {b : Bool} (kk : b = true → J E nL p l e R s m args below meth c Q X pc L st σ k n) : J E nL p l e R s m args below meth c Q (gd b X) pc L st σ k n := by
  cases b with
  | true => exact kk rfl
  | false => exact j_none
theorem j_iconst {v : Int32} (i : Int) (C : Cx E nL p s m args c cc own) (d : decode cc pc = .ok (.iconst i, 1)) (hv : Int32.ofInt i = v) (kk : J E nL p l e R s m args below meth c Q X (pc + 1) L (.int v :: st) σ k n) : J E nL p l e R s m args below meth c Q X pc L st σ k n :=
  fun o ho ls H locs hl hP hS => lv_iconst C.1 C.2.1 d hv (kk o ho ls H locs hl hP hS)
theorem j_bipush {v : Int32} (i : Int) (C : Cx E nL p s m args c cc own) (d : decode cc pc = .ok (.bipush i, 2)) (hv : (Int8.ofInt i).toInt32 = v) (kk : J E nL p l e R s m args below meth c Q X (pc + 2) L (.int v :: st) σ k n) : J E nL p l e R s m args below meth c Q X pc L st σ k n :=
  fun o ho ls H locs hl hP hS => lv_bipush C.1 C.2.1 d hv (kk o ho ls H locs hl hP hS)
theorem j_sipush {v : Int32} (i : Int) (C : Cx E nL p s m args c cc own) (d : decode cc pc = .ok (.sipush i, 3)) (hv : (Int16.ofInt i).toInt32 = v) (kk : J E nL p l e R s m args below meth c Q X (pc + 3) L (.int v :: st) σ k n) : J E nL p l e R s m args below meth c Q X pc L st σ k n :=
  fun o ho ls H locs hl hP hS => lv_sipush C.1 C.2.1 d hv (kk o ho ls H locs hl hP hS)
theorem j_iload_n {x : Int32} (a : Nat) {i : Nat} {f : Fin 4} (C : Cx E nL p s m args c cc own) (d : decode cc pc = .ok (.iload_n f, 1)) (hi : (f : Nat) = i) (hL : L[a]? = some (i, .int x)) (kk : J E nL p l e R s m args below meth c Q X (pc + 1) L (.int x :: st) σ k n) : J E nL p l e R s m args below meth c Q X pc L st σ k n :=
  fun o ho ls H locs hl hP hS => lv_iload_n C.1 C.2.1 d hi (lv_at hl a hL) (kk o ho ls H locs hl hP hS)
theorem j_iload {x : Int32} (a : Nat) {i : Nat} (C : Cx E nL p s m args c cc own) (d : decode cc pc = .ok (.iload i, 2)) (hL : L[a]? = some (i, .int x)) (kk : J E nL p l e R s m args below meth c Q X (pc + 2) L (.int x :: st) σ k n) : J E nL p l e R s m args below meth c Q X pc L st σ k n :=
  fun o ho ls H locs hl hP hS => lv_iload C.1 C.2.1 d (lv_at hl a hL) (kk o ho ls H locs hl hP hS)
theorem j_aload_n {x : Nat} (a : Nat) {i : Nat} {f : Fin 4} (C : Cx E nL p s m args c cc own) (d : decode cc pc = .ok (.aload_n f, 1)) (hi : (f : Nat) = i) (hL : L[a]? = some (i, .ref x)) (kk : J E nL p l e R s m args below meth c Q X (pc + 1) L (.ref x :: st) σ k n) : J E nL p l e R s m args below meth c Q X pc L st σ k n :=
  fun o ho ls H locs hl hP hS => lv_aload_n C.1 C.2.1 d hi (lv_at hl a hL) (kk o ho ls H locs hl hP hS)
theorem j_aload {x : Nat} (a : Nat) {i : Nat} (C : Cx E nL p s m args c cc own) (d : decode cc pc = .ok (.aload i, 2)) (hL : L[a]? = some (i, .ref x)) (kk : J E nL p l e R s m args below meth c Q X (pc + 2) L (.ref x :: st) σ k n) : J E nL p l e R s m args below meth c Q X pc L st σ k n :=
  fun o ho ls H locs hl hP hS => lv_aload C.1 C.2.1 d (lv_at hl a hL) (kk o ho ls H locs hl hP hS)
def ltf (i : Nat) (L : List (Nat × Value)) : List (Nat × Value) := L.filter (fun q => !(q.1 == i) && !(q.1 + 1 == i && q.2.category == 2))
theorem j_istore_n {x : Int32} {i : Nat} {f : Fin 4} (L' : List (Nat × Value)) (C : Cx E nL p s m args c cc own) (d : decode cc pc = .ok (.istore_n f, 1)) (hi : (f : Nat) = i) (hn : i < nL) (hL : (i, Value.int x) :: ltf i L = L') (kk : J E nL p l e R s m args below meth c Q X (pc + 1) L' st σ k n) : J E nL p l e R s m args below meth c Q X pc L (.int x :: st) σ k n :=
  fun o ho ls H locs hl hP hS => lv_istore_n C.1 C.2.1 d hi hl hn hL (fun ls' hl' => kk o ho ls' H locs hl' hP hS)
theorem j_istore {x : Int32} {i : Nat} (L' : List (Nat × Value)) (C : Cx E nL p s m args c cc own) (d : decode cc pc = .ok (.istore i, 2)) (hn : i < nL) (hL : (i, Value.int x) :: ltf i L = L') (kk : J E nL p l e R s m args below meth c Q X (pc + 2) L' st σ k n) : J E nL p l e R s m args below meth c Q X pc L (.int x :: st) σ k n :=
  fun o ho ls H locs hl hP hS => lv_istore C.1 C.2.1 d hl hn hL (fun ls' hl' => kk o ho ls' H locs hl' hP hS)
theorem j_astore_n {x : Nat} {i : Nat} {f : Fin 4} (L' : List (Nat × Value)) (C : Cx E nL p s m args c cc own) (d : decode cc pc = .ok (.astore_n f, 1)) (hi : (f : Nat) = i) (hn : i < nL) (hL : (i, Value.ref x) :: ltf i L = L') (kk : J E nL p l e R s m args below meth c Q X (pc + 1) L' st σ k n) : J E nL p l e R s m args below meth c Q X pc L (.ref x :: st) σ k n :=
  fun o ho ls H locs hl hP hS => lv_astore_n C.1 C.2.1 d hi hl hn hL (fun ls' hl' => kk o ho ls' H locs hl' hP hS)
theorem j_astore_nN {i : Nat} {f : Fin 4} (L' : List (Nat × Value)) (C : Cx E nL p s m args c cc own) (d : decode cc pc = .ok (.astore_n f, 1)) (hi : (f : Nat) = i) (hn : i < nL) (hL : (i, Value.null) :: ltf i L = L') (kk : J E nL p l e R s m args below meth c Q X (pc + 1) L' st σ k n) : J E nL p l e R s m args below meth c Q X pc L (.null :: st) σ k n :=
  fun o ho ls H locs hl hP hS => lv_astore_nN C.1 C.2.1 d hi hl hn hL (fun ls' hl' => kk o ho ls' H locs hl' hP hS)
theorem j_aload_nN (a : Nat) {i : Nat} {f : Fin 4} (C : Cx E nL p s m args c cc own) (d : decode cc pc = .ok (.aload_n f, 1)) (hi : (f : Nat) = i) (hL : L[a]? = some (i, .null)) (kk : J E nL p l e R s m args below meth c Q X (pc + 1) L (.null :: st) σ k n) : J E nL p l e R s m args below meth c Q X pc L st σ k n :=
  fun o ho ls H locs hl hP hS => lv_aload_nN C.1 C.2.1 d hi (lv_at hl a hL) (kk o ho ls H locs hl hP hS)
theorem j_iinc {x v : Int32} (a : Nat) {i : Nat} (z : Int) (L' : List (Nat × Value)) (C : Cx E nL p s m args c cc own) (d : decode cc pc = .ok (.iinc i z, 3)) (hk : L[a]? = some (i, .int x)) (hv : x + Int32.ofInt z = v) (hn : i < nL) (hL : (i, Value.int v) :: ltf i L = L') (kk : J E nL p l e R s m args below meth c Q X (pc + 3) L' st σ k n) : J E nL p l e R s m args below meth c Q X pc L st σ k n :=
  fun o ho ls H locs hl hP hS => lv_iinc C.1 C.2.1 d hl hk hv hn hL (fun ls' hl' => kk o ho ls' H locs hl' hP hS)
theorem j_iadd {x y : Int32} (C : Cx E nL p s m args c cc own) (d : decode cc pc = .ok (.iadd, 1)) (kk : J E nL p l e R s m args below meth c Q X (pc + 1) L (.int (x + y) :: st) σ k n) : J E nL p l e R s m args below meth c Q X pc L (.int y :: .int x :: st) σ k n :=
  fun o ho ls H locs hl hP hS => lv_iadd C.1 C.2.1 d (kk o ho ls H locs hl hP hS)
theorem j_isub {x y : Int32} (C : Cx E nL p s m args c cc own) (d : decode cc pc = .ok (.isub, 1)) (kk : J E nL p l e R s m args below meth c Q X (pc + 1) L (.int (x - y) :: st) σ k n) : J E nL p l e R s m args below meth c Q X pc L (.int y :: .int x :: st) σ k n :=
  fun o ho ls H locs hl hP hS => lv_isub C.1 C.2.1 d (kk o ho ls H locs hl hP hS)
theorem j_imul {x y : Int32} (C : Cx E nL p s m args c cc own) (d : decode cc pc = .ok (.imul, 1)) (kk : J E nL p l e R s m args below meth c Q X (pc + 1) L (.int (x * y) :: st) σ k n) : J E nL p l e R s m args below meth c Q X pc L (.int y :: .int x :: st) σ k n :=
  fun o ho ls H locs hl hP hS => lv_imul C.1 C.2.1 d (kk o ho ls H locs hl hP hS)
theorem j_iand {x y : Int32} (C : Cx E nL p s m args c cc own) (d : decode cc pc = .ok (.iand, 1)) (kk : J E nL p l e R s m args below meth c Q X (pc + 1) L (.int (x &&& y) :: st) σ k n) : J E nL p l e R s m args below meth c Q X pc L (.int y :: .int x :: st) σ k n :=
  fun o ho ls H locs hl hP hS => lv_iand C.1 C.2.1 d (kk o ho ls H locs hl hP hS)
theorem j_ior {x y : Int32} (C : Cx E nL p s m args c cc own) (d : decode cc pc = .ok (.ior, 1)) (kk : J E nL p l e R s m args below meth c Q X (pc + 1) L (.int (x ||| y) :: st) σ k n) : J E nL p l e R s m args below meth c Q X pc L (.int y :: .int x :: st) σ k n :=
  fun o ho ls H locs hl hP hS => lv_ior C.1 C.2.1 d (kk o ho ls H locs hl hP hS)
theorem j_idiv {x y : Int32} (C : Cx E nL p s m args c cc own) (d : decode cc pc = .ok (.idiv, 1)) (kk : J E nL p l e R s m args below meth c Q X (pc + 1) L (.int (x / y) :: st) σ k n) : J E nL p l e R s m args below meth c Q (gd (!decide (y = 0)) X) pc L (.int y :: .int x :: st) σ k n :=
  j_gd fun h o ho ls H locs hl hP hS => lv_idiv C.1 C.2.1 d (by simpa using h) (kk o ho ls H locs hl hP hS)
theorem j_irem {x y : Int32} (C : Cx E nL p s m args c cc own) (d : decode cc pc = .ok (.irem, 1)) (kk : J E nL p l e R s m args below meth c Q X (pc + 1) L (.int (x - x / y * y) :: st) σ k n) : J E nL p l e R s m args below meth c Q (gd (!decide (y = 0)) X) pc L (.int y :: .int x :: st) σ k n :=
  j_gd fun h o ho ls H locs hl hP hS => lv_irem C.1 C.2.1 d (by simpa using h) (kk o ho ls H locs hl hP hS)
theorem j_i2c {x : Int32} (C : Cx E nL p s m args c cc own) (d : decode cc pc = .ok (.i2c, 1)) (kk : J E nL p l e R s m args below meth c Q X (pc + 1) L (.int (x.toUInt32 % 65536).toInt32 :: st) σ k n) : J E nL p l e R s m args below meth c Q X pc L (.int x :: st) σ k n :=
  fun o ho ls H locs hl hP hS => lv_i2c C.1 C.2.1 d rfl (kk o ho ls H locs hl hP hS)
theorem j_i2l {x : Int32} (C : Cx E nL p s m args c cc own) (d : decode cc pc = .ok (.i2l, 1)) (kk : J E nL p l e R s m args below meth c Q X (pc + 1) L (.long x.toInt64 :: st) σ k n) : J E nL p l e R s m args below meth c Q X pc L (.int x :: st) σ k n :=
  fun o ho ls H locs hl hP hS => lv_i2l C.1 C.2.1 d rfl (kk o ho ls H locs hl hP hS)
theorem j_dup {v : Value} (C : Cx E nL p s m args c cc own) (d : decode cc pc = .ok (.dup, 1)) (hv : v.category = 1) (kk : J E nL p l e R s m args below meth c Q X (pc + 1) L (v :: v :: st) σ k n) : J E nL p l e R s m args below meth c Q X pc L (v :: st) σ k n :=
  fun o ho ls H locs hl hP hS => lv_dup C.1 C.2.1 d hv (kk o ho ls H locs hl hP hS)
theorem j_dup2 {v w : Value} (C : Cx E nL p s m args c cc own) (d : decode cc pc = .ok (.dup2, 1)) (hv : v.category = 1) (hw : w.category = 1) (kk : J E nL p l e R s m args below meth c Q X (pc + 1) L (v :: w :: v :: w :: st) σ k n) : J E nL p l e R s m args below meth c Q X pc L (v :: w :: st) σ k n :=
  fun o ho ls H locs hl hP hS => lv_dup2_11 C.1 C.2.1 d hv hw (kk o ho ls H locs hl hP hS)
theorem j_pop {v : Value} (C : Cx E nL p s m args c cc own) (d : decode cc pc = .ok (.pop, 1)) (hv : v.category = 1) (kk : J E nL p l e R s m args below meth c Q X (pc + 1) L st σ k n) : J E nL p l e R s m args below meth c Q X pc L (v :: st) σ k n :=
  fun o ho ls H locs hl hP hS => lv_pop C.1 C.2.1 d hv (kk o ho ls H locs hl hP hS)
theorem j_null (C : Cx E nL p s m args c cc own) (d : decode cc pc = .ok (.aconst_null, 1)) (kk : J E nL p l e R s m args below meth c Q X (pc + 1) L (.null :: st) σ k n) : J E nL p l e R s m args below meth c Q X pc L st σ k n :=
  fun o ho ls H locs hl hP hS => lv_null C.1 C.2.1 d (kk o ho ls H locs hl hP hS)
theorem j_goto {off : Int} (tgt : Nat) (C : Cx E nL p s m args c cc own) (d : decode cc pc = .ok (.goto off, 3)) (ht : (pc : Int) + off = (tgt : Int)) (kk : J E nL p l e R s m args below meth c Q X tgt L st σ k n) : J E nL p l e R s m args below meth c Q X pc L st σ k n :=
  fun o ho ls H locs hl hP hS => lv_goto C.1 C.2.1 d ht (kk o ho ls H locs hl hP hS)
theorem j_ite {P : Prop} [dP : Decidable P] (h1 : P → J E nL p l e R s m args below meth c Q Y pc L st σ k n) (h2 : ¬ P → J E nL p l e R s m args below meth c Q Z pc L st σ k n) : J E nL p l e R s m args below meth c Q (if P then Y else Z) pc L st σ k n := by
  by_cases h : P
  · rw [if_pos h]; exact h1 h
  · rw [if_neg h]; exact h2 h
theorem j_ieq {x y : Int32} {off : Int} (tgt : Nat) (C : Cx E nL p s m args c cc own) (d : decode cc pc = .ok (.if_icmp .eq off, 3)) (ht : (pc : Int) + off = (tgt : Int)) (h1 : J E nL p l e R s m args below meth c Q Y tgt L st σ k n) (h2 : J E nL p l e R s m args below meth c Q Z (pc + 3) L st σ k n) : J E nL p l e R s m args below meth c Q (if x = y then Y else Z) pc L (.int y :: .int x :: st) σ k n :=
  j_ite (fun h o ho ls H locs hl hP hS => lv_icmp_eq C.1 C.2.1 d ht (fun _ => h1 o ho ls H locs hl hP hS) (fun q => absurd h q)) (fun h o ho ls H locs hl hP hS => lv_icmp_eq C.1 C.2.1 d ht (fun q => absurd q h) (fun _ => h2 o ho ls H locs hl hP hS))
theorem j_ine {x y : Int32} {off : Int} (tgt : Nat) (C : Cx E nL p s m args c cc own) (d : decode cc pc = .ok (.if_icmp .ne off, 3)) (ht : (pc : Int) + off = (tgt : Int)) (h1 : J E nL p l e R s m args below meth c Q Y tgt L st σ k n) (h2 : J E nL p l e R s m args below meth c Q Z (pc + 3) L st σ k n) : J E nL p l e R s m args below meth c Q (if x = y then Z else Y) pc L (.int y :: .int x :: st) σ k n :=
  j_ite (fun h o ho ls H locs hl hP hS => lv_icmp_ne C.1 C.2.1 d ht (fun q => absurd h q) (fun _ => h2 o ho ls H locs hl hP hS)) (fun h o ho ls H locs hl hP hS => lv_icmp_ne C.1 C.2.1 d ht (fun _ => h1 o ho ls H locs hl hP hS) (fun q => absurd q h))
theorem j_ilt {x y : Int32} {off : Int} (tgt : Nat) (C : Cx E nL p s m args c cc own) (d : decode cc pc = .ok (.if_icmp .lt off, 3)) (ht : (pc : Int) + off = (tgt : Int)) (h1 : J E nL p l e R s m args below meth c Q Y tgt L st σ k n) (h2 : J E nL p l e R s m args below meth c Q Z (pc + 3) L st σ k n) : J E nL p l e R s m args below meth c Q (if x < y then Y else Z) pc L (.int y :: .int x :: st) σ k n :=
  j_ite (fun h o ho ls H locs hl hP hS => lv_icmp_lt C.1 C.2.1 d ht (fun _ => h1 o ho ls H locs hl hP hS) (fun q => absurd h q)) (fun h o ho ls H locs hl hP hS => lv_icmp_lt C.1 C.2.1 d ht (fun q => absurd q h) (fun _ => h2 o ho ls H locs hl hP hS))
theorem j_ige {x y : Int32} {off : Int} (tgt : Nat) (C : Cx E nL p s m args c cc own) (d : decode cc pc = .ok (.if_icmp .ge off, 3)) (ht : (pc : Int) + off = (tgt : Int)) (h1 : J E nL p l e R s m args below meth c Q Y tgt L st σ k n) (h2 : J E nL p l e R s m args below meth c Q Z (pc + 3) L st σ k n) : J E nL p l e R s m args below meth c Q (if y ≤ x then Y else Z) pc L (.int y :: .int x :: st) σ k n :=
  j_ite (fun h o ho ls H locs hl hP hS => lv_icmp_ge C.1 C.2.1 d ht (fun _ => h1 o ho ls H locs hl hP hS) (fun q => absurd h q)) (fun h o ho ls H locs hl hP hS => lv_icmp_ge C.1 C.2.1 d ht (fun q => absurd q h) (fun _ => h2 o ho ls H locs hl hP hS))
theorem j_igt {x y : Int32} {off : Int} (tgt : Nat) (C : Cx E nL p s m args c cc own) (d : decode cc pc = .ok (.if_icmp .gt off, 3)) (ht : (pc : Int) + off = (tgt : Int)) (h1 : J E nL p l e R s m args below meth c Q Y tgt L st σ k n) (h2 : J E nL p l e R s m args below meth c Q Z (pc + 3) L st σ k n) : J E nL p l e R s m args below meth c Q (if y < x then Y else Z) pc L (.int y :: .int x :: st) σ k n :=
  j_ite (fun h o ho ls H locs hl hP hS => lv_icmp_gt C.1 C.2.1 d ht (fun _ => h1 o ho ls H locs hl hP hS) (fun q => absurd h q)) (fun h o ho ls H locs hl hP hS => lv_icmp_gt C.1 C.2.1 d ht (fun q => absurd q h) (fun _ => h2 o ho ls H locs hl hP hS))
theorem j_ile {x y : Int32} {off : Int} (tgt : Nat) (C : Cx E nL p s m args c cc own) (d : decode cc pc = .ok (.if_icmp .le off, 3)) (ht : (pc : Int) + off = (tgt : Int)) (h1 : J E nL p l e R s m args below meth c Q Y tgt L st σ k n) (h2 : J E nL p l e R s m args below meth c Q Z (pc + 3) L st σ k n) : J E nL p l e R s m args below meth c Q (if x ≤ y then Y else Z) pc L (.int y :: .int x :: st) σ k n :=
  j_ite (fun h o ho ls H locs hl hP hS => lv_icmp_le C.1 C.2.1 d ht (fun _ => h1 o ho ls H locs hl hP hS) (fun q => absurd h q)) (fun h o ho ls H locs hl hP hS => lv_icmp_le C.1 C.2.1 d ht (fun q => absurd q h) (fun _ => h2 o ho ls H locs hl hP hS))
theorem j_zeq {x : Int32} {off : Int} (tgt : Nat) (C : Cx E nL p s m args c cc own) (d : decode cc pc = .ok (.ifCond .eq off, 3)) (ht : (pc : Int) + off = (tgt : Int)) (h1 : J E nL p l e R s m args below meth c Q Y tgt L st σ k n) (h2 : J E nL p l e R s m args below meth c Q Z (pc + 3) L st σ k n) : J E nL p l e R s m args below meth c Q (if x = 0 then Y else Z) pc L (.int x :: st) σ k n :=
  j_ite (fun h o ho ls H locs hl hP hS => lv_if_eq C.1 C.2.1 d ht (fun _ => h1 o ho ls H locs hl hP hS) (fun q => absurd h q)) (fun h o ho ls H locs hl hP hS => lv_if_eq C.1 C.2.1 d ht (fun q => absurd q h) (fun _ => h2 o ho ls H locs hl hP hS))
theorem j_zne {x : Int32} {off : Int} (tgt : Nat) (C : Cx E nL p s m args c cc own) (d : decode cc pc = .ok (.ifCond .ne off, 3)) (ht : (pc : Int) + off = (tgt : Int)) (h1 : J E nL p l e R s m args below meth c Q Y tgt L st σ k n) (h2 : J E nL p l e R s m args below meth c Q Z (pc + 3) L st σ k n) : J E nL p l e R s m args below meth c Q (if x = 0 then Z else Y) pc L (.int x :: st) σ k n :=
  j_ite (fun h o ho ls H locs hl hP hS => lv_if_ne C.1 C.2.1 d ht (fun q => absurd h q) (fun _ => h2 o ho ls H locs hl hP hS)) (fun h o ho ls H locs hl hP hS => lv_if_ne C.1 C.2.1 d ht (fun _ => h1 o ho ls H locs hl hP hS) (fun q => absurd q h))
theorem j_zlt {x : Int32} {off : Int} (tgt : Nat) (C : Cx E nL p s m args c cc own) (d : decode cc pc = .ok (.ifCond .lt off, 3)) (ht : (pc : Int) + off = (tgt : Int)) (h1 : J E nL p l e R s m args below meth c Q Y tgt L st σ k n) (h2 : J E nL p l e R s m args below meth c Q Z (pc + 3) L st σ k n) : J E nL p l e R s m args below meth c Q (if x < 0 then Y else Z) pc L (.int x :: st) σ k n :=
  j_ite (fun h o ho ls H locs hl hP hS => lv_if_lt C.1 C.2.1 d ht (fun _ => h1 o ho ls H locs hl hP hS) (fun q => absurd h q)) (fun h o ho ls H locs hl hP hS => lv_if_lt C.1 C.2.1 d ht (fun q => absurd q h) (fun _ => h2 o ho ls H locs hl hP hS))
theorem j_zge {x : Int32} {off : Int} (tgt : Nat) (C : Cx E nL p s m args c cc own) (d : decode cc pc = .ok (.ifCond .ge off, 3)) (ht : (pc : Int) + off = (tgt : Int)) (h1 : J E nL p l e R s m args below meth c Q Y tgt L st σ k n) (h2 : J E nL p l e R s m args below meth c Q Z (pc + 3) L st σ k n) : J E nL p l e R s m args below meth c Q (if 0 ≤ x then Y else Z) pc L (.int x :: st) σ k n :=
  j_ite (fun h o ho ls H locs hl hP hS => lv_if_ge C.1 C.2.1 d ht (fun _ => h1 o ho ls H locs hl hP hS) (fun q => absurd h q)) (fun h o ho ls H locs hl hP hS => lv_if_ge C.1 C.2.1 d ht (fun q => absurd q h) (fun _ => h2 o ho ls H locs hl hP hS))
theorem j_zgt {x : Int32} {off : Int} (tgt : Nat) (C : Cx E nL p s m args c cc own) (d : decode cc pc = .ok (.ifCond .gt off, 3)) (ht : (pc : Int) + off = (tgt : Int)) (h1 : J E nL p l e R s m args below meth c Q Y tgt L st σ k n) (h2 : J E nL p l e R s m args below meth c Q Z (pc + 3) L st σ k n) : J E nL p l e R s m args below meth c Q (if 0 < x then Y else Z) pc L (.int x :: st) σ k n :=
  j_ite (fun h o ho ls H locs hl hP hS => lv_if_gt C.1 C.2.1 d ht (fun _ => h1 o ho ls H locs hl hP hS) (fun q => absurd h q)) (fun h o ho ls H locs hl hP hS => lv_if_gt C.1 C.2.1 d ht (fun q => absurd q h) (fun _ => h2 o ho ls H locs hl hP hS))
theorem j_zle {x : Int32} {off : Int} (tgt : Nat) (C : Cx E nL p s m args c cc own) (d : decode cc pc = .ok (.ifCond .le off, 3)) (ht : (pc : Int) + off = (tgt : Int)) (h1 : J E nL p l e R s m args below meth c Q Y tgt L st σ k n) (h2 : J E nL p l e R s m args below meth c Q Z (pc + 3) L st σ k n) : J E nL p l e R s m args below meth c Q (if x ≤ 0 then Y else Z) pc L (.int x :: st) σ k n :=
  j_ite (fun h o ho ls H locs hl hP hS => lv_if_le C.1 C.2.1 d ht (fun _ => h1 o ho ls H locs hl hP hS) (fun q => absurd h q)) (fun h o ho ls H locs hl hP hS => lv_if_le C.1 C.2.1 d ht (fun q => absurd q h) (fun _ => h2 o ho ls H locs hl hP hS))
theorem j_ifnull {x : Nat} {off : Int} (C : Cx E nL p s m args c cc own) (d : decode cc pc = .ok (.ifnull off, 3)) (kk : J E nL p l e R s m args below meth c Q X (pc + 3) L st σ k n) : J E nL p l e R s m args below meth c Q X pc L (.ref x :: st) σ k n :=
  fun o ho ls H locs hl hP hS => lv_ifnull C.1 C.2.1 d (kk o ho ls H locs hl hP hS)
theorem j_ifnullN {off : Int} (tgt : Nat) (C : Cx E nL p s m args c cc own) (d : decode cc pc = .ok (.ifnull off, 3)) (ht : (pc : Int) + off = (tgt : Int)) (kk : J E nL p l e R s m args below meth c Q X tgt L st σ k n) : J E nL p l e R s m args below meth c Q X pc L (.null :: st) σ k n :=
  fun o ho ls H locs hl hP hS => lv_ifnullN C.1 C.2.1 d ht (kk o ho ls H locs hl hP hS)
/-! cells -/
theorem j_get {idx C0 T N ci ty} (j : Nat) {q : Nat} {fs : List Value} {v : Value} (C : Cx E nL p s m args c cc own) (F : Fl own idx C0 T N ci ty j) (hq : q < NC) (he : ct E q (σ q) = .inr (ci, fs)) (hv : fs[j]? = some v) (d : decode cc pc = .ok (.getfield idx, 3)) (kk : J E nL p l e R s m args below meth c Q X (pc + 3) L (v :: st) σ k n) : J E nL p l e R s m args below meth c Q X pc L (.ref (ea E q) :: st) σ k n :=
  fun o ho ls H locs hl hP hS => va_get C.1 C.2.1 C.2.2.2.2.1 F.1.1 C.2.2.2.1 C.2.2.2.2.2.1 hP q ((wd_get E σ hq).trans (by rw [he])) F.1.2.1 j F.2.1 (C.2.2.2.2.1 _ F.2.2) (fun _ h9 => h9) hv d (kk o ho ls H locs hl hP hS)
theorem j_put {idx C0 T N ci ty} (j : Nat) {q : Nat} {fs : List Value} {v : Int32} (C : Cx E nL p s m args c cc own) (F : Fl own idx C0 T N ci ty j) (hf : (T j).2.2.2 = false) (hn : narrow (ty j) (.int v) = .int v) (hfit : Jvm.fits (ty j) (.int v) = true) (hq : q < NC) (he : ct E q (σ q) = .inr (ci, fs)) (hj : j < fs.length) (he2 : ct E q (upd (σ q) j v) = .inr (ci, fs.set j (.int v))) (d : decode cc pc = .ok (.putfield idx, 3)) (kk : J E nL p l e R s m args below meth c Q X (pc + 3) L st (sr σ q (upd (σ q) j v)) k n) : J E nL p l e R s m args below meth c Q X pc L (.int v :: .ref (ea E q) :: st) σ k n :=
  fun o ho ls H locs hl hP hS => va_put C.1 C.2.1 C.2.2.2.2.1 F.1.1 ty F.1.2.2.1 F.1.2.2.2 C.2.2.2.1 C.2.2.2.2.2.1 hP (wd_D E C.2.2.2.2.2.2.1 σ _) hS q ((wd_get E σ hq).trans (by rw [he])) F.1.2.1 j F.2.1 (C.2.2.2.2.1 _ F.2.2) (fun _ h9 => h9) hf (F.1.2.2.1 j F.2.1) hn hfit hj d
    (fun H1 locs1 hP1 _ hS1 => kk o ho ls H1 locs1 hl (by rw [← he2, wd_set] at hP1; exact hP1) hS1)
theorem j_iald {q N : Nat} {i : Int32} (C : Cx E nL p s m args c cc own) (hq : q < NC) (he : ct E q (σ q) = rI E N (σ q)) (d : decode cc pc = .ok (.iaload, 1)) (kk : J E nL p l e R s m args below meth c Q X (pc + 1) L (.int (σ q i.toNatClampNeg) :: st) σ k n) : J E nL p l e R s m args below meth c Q (gd (vib i N) X) pc L (.int i :: .ref (ea E q) :: st) σ k n :=
  j_gd fun h o ho ls H locs hl hP hS => va_iald C.1 C.2.1 C.2.2.2.2.2.1 hP q 0 ((wd_get E σ hq).trans (by rw [he]; rfl)) rfl (vib_in h) d (kk o ho ls H locs hl hP hS)
theorem j_zald {q N : Nat} {i : Int32} (C : Cx E nL p s m args c cc own) (hq : q < NC) (he : ct E q (σ q) = rZ E N (σ q)) (d : decode cc pc = .ok (.baload, 1)) (kk : J E nL p l e R s m args below meth c Q X (pc + 1) L (.int (σ q i.toNatClampNeg) :: st) σ k n) : J E nL p l e R s m args below meth c Q (gd (vib i N) X) pc L (.int i :: .ref (ea E q) :: st) σ k n :=
  j_gd fun h o ho ls H locs hl hP hS => va_zald C.1 C.2.1 C.2.2.2.2.2.1 hP q 1 ((wd_get E σ hq).trans (by rw [he]; rfl)) rfl (vib_in h) d (kk o ho ls H locs hl hP hS)
theorem j_cald {q N : Nat} {i : Int32} (C : Cx E nL p s m args c cc own) (hq : q < NC) (he : ct E q (σ q) = rC E N (σ q)) (d : decode cc pc = .ok (.caload, 1)) (kk : J E nL p l e R s m args below meth c Q X (pc + 1) L (.int (σ q i.toNatClampNeg) :: st) σ k n) : J E nL p l e R s m args below meth c Q (gd (vib i N) X) pc L (.int i :: .ref (ea E q) :: st) σ k n :=
  j_gd fun h o ho ls H locs hl hP hS => va_cald C.1 C.2.1 C.2.2.2.2.2.1 hP q 2 ((wd_get E σ hq).trans (by rw [he]; rfl)) rfl (vib_in h) d (kk o ho ls H locs hl hP hS)
theorem j_iast {q N : Nat} {i x : Int32} (C : Cx E nL p s m args c cc own) (hq : q < NC) (he : ∀ f, ct E q f = rI E N f) (d : decode cc pc = .ok (.iastore, 1)) (kk : J E nL p l e R s m args below meth c Q X (pc + 1) L st (sr σ q (upd (σ q) i.toNatClampNeg x)) k n) : J E nL p l e R s m args below meth c Q (gd (vib i N) X) pc L (.int x :: .int i :: .ref (ea E q) :: st) σ k n :=
  j_gd fun h o ho ls H locs hl hP hS => va_iast C.1 C.2.1 C.2.2.2.2.2.1 hP (wd_D E C.2.2.2.2.2.2.1 σ _) hS q 0 ((wd_get E σ hq).trans (by rw [he]; rfl)) rfl (vib_in h) d
    (fun H1 locs1 hP1 _ hS1 => kk o ho ls H1 locs1 hl (by rw [← wd_set, he]; exact hP1) hS1)
theorem j_zast {q N : Nat} {i x : Int32} (C : Cx E nL p s m args c cc own) (hq : q < NC) (he : ∀ f, ct E q f = rZ E N f) (d : decode cc pc = .ok (.bastore, 1)) (kk : J E nL p l e R s m args below meth c Q X (pc + 1) L st (sr σ q (upd (σ q) i.toNatClampNeg (vp_nar .boolean x))) k n) : J E nL p l e R s m args below meth c Q (gd (vib i N) X) pc L (.int x :: .int i :: .ref (ea E q) :: st) σ k n :=
  j_gd fun h o ho ls H locs hl hP hS => va_zast C.1 C.2.1 C.2.2.2.2.2.1 hP (wd_D E C.2.2.2.2.2.2.1 σ _) hS q 1 ((wd_get E σ hq).trans (by rw [he]; rfl)) rfl (vib_in h) d
    (fun H1 locs1 hP1 _ hS1 => kk o ho ls H1 locs1 hl (by rw [← wd_set, he]; exact hP1) hS1)
theorem j_cast {q N : Nat} {i x : Int32} (C : Cx E nL p s m args c cc own) (hq : q < NC) (he : ∀ f, ct E q f = rC E N f) (d : decode cc pc = .ok (.castore, 1)) (kk : J E nL p l e R s m args below meth c Q X (pc + 1) L st (sr σ q (upd (σ q) i.toNatClampNeg (vp_nar .char x))) k n) : J E nL p l e R s m args below meth c Q (gd (vib i N) X) pc L (.int x :: .int i :: .ref (ea E q) :: st) σ k n :=
  j_gd fun h o ho ls H locs hl hP hS => va_cast C.1 C.2.1 C.2.2.2.2.2.1 hP (wd_D E C.2.2.2.2.2.2.1 σ _) hS q 2 ((wd_get E σ hq).trans (by rw [he]; rfl)) rfl (vib_in h) d
    (fun H1 locs1 hP1 _ hS1 => kk o ho ls H1 locs1 hl (by rw [← wd_set, he]; exact hP1) hS1)
/-- editions[at] of the history -/
theorem j_eald {i : Int32} (C : Cx E nL p s m args c cc own) (d : decode cc pc = .ok (.aaload, 1)) (kk : J E nL p l e R s m args below meth c Q X (pc + 1) L (.ref (ea E (16 + 5 * i.toNatClampNeg)) :: st) σ k n) : J E nL p l e R s m args below meth c Q (gd (vib i 8) X) pc L (.int i :: .ref (ea E 75) :: st) σ k n :=
  j_gd fun h o ho ls H locs hl hP hS => va_aldq C.1 C.2.1 C.2.2.2.2.2.1 hP 75 3 (C := "NewspaperMakeup$Edition") ((wd_get E σ (show 75 < NC by decide)).trans rfl) rfl (vib_in h) d (kk o ho ls H locs hl hP hS)
/-- LEAST[i], GREATEST[i]: getstatic, then the index, then iaload; the row is the static's -/
def SR (E : En) (s : State) (t : Nat) (f : Nat → Int32) : Prop := va_T .int t 5 (fun j => .int (f j)) (AA E s.heap.size) s s.heap
theorem j_least {idx : Nat} (C : Cx E nL p s m args c cc own) (hl : Cond.fieldLink own idx "NewspaperMakeup" "LEAST" "[I" ∈ lw_all) (d : decode cc pc = .ok (.getstatic idx, 3)) (kk : ∀ t, SR E s t lst5 → J E nL p l e R s m args below meth c Q X (pc + 3) L (.ref t :: st) σ k n) : J E nL p l e R s m args below meth c Q X pc L st σ k n := by
  obtain ⟨t, h1, h2⟩ := C.2.2.2.2.2.2.2.2.2.up.1
  exact fun o ho ls H locs hl' hP hS => va_gets C.1 C.2.1 h1 hS C.2.2.2.1 (C.2.2.2.2.1 _ hl) (fun _ h9 => h9) d (kk t h2 o ho ls H locs hl' hP hS)
theorem j_great {idx : Nat} (C : Cx E nL p s m args c cc own) (hl : Cond.fieldLink own idx "NewspaperMakeup" "GREATEST" "[I" ∈ lw_all) (d : decode cc pc = .ok (.getstatic idx, 3)) (kk : ∀ t, SR E s t gst5 → J E nL p l e R s m args below meth c Q X (pc + 3) L (.ref t :: st) σ k n) : J E nL p l e R s m args below meth c Q X pc L st σ k n := by
  obtain ⟨t, h1, h2⟩ := C.2.2.2.2.2.2.2.2.2.up.2.1
  exact fun o ho ls H locs hl' hP hS => va_gets C.1 C.2.1 h1 hS C.2.2.2.1 (C.2.2.2.2.1 _ hl) (fun _ h9 => h9) d (kk t h2 o ho ls H locs hl' hP hS)
theorem j_sald {t : Nat} {f : Nat → Int32} {i : Int32} (C : Cx E nL p s m args c cc own) (hT : SR E s t f) (d : decode cc pc = .ok (.iaload, 1)) (kk : J E nL p l e R s m args below meth c Q X (pc + 1) L (.int (f i.toNatClampNeg) :: st) σ k n) : J E nL p l e R s m args below meth c Q (gd (vib i 5) X) pc L (.int i :: .ref t :: st) σ k n :=
  j_gd fun h o ho ls H locs hl hP hS => va_ti C.1 C.2.1 hT hS (vib_in h) rfl d (kk o ho ls H locs hl hP hS)
theorem j_max {idx : Nat} {x y : Int32} (C : Cx E nL p s m args c cc own) (h : Cond.methodLink own idx Lib.Math.max.name ∈ lw_all ∧ Cond.static Lib.Math.max.name ∈ lw_all ∧ Cond.initialized "java/lang/Math" ∈ lw_all ∧ Cond.code Lib.Math.max.name Lib.Math.max.code 2 (some .int) ∈ lw_all) (h2 : 1 ≤ R.frames ∧ (st.map fun v => v.category).sum + 13 ≤ R.locals ∧ k ≤ R.cells ∧ n ≤ R.slots) (d : decode cc pc = .ok (.invokestatic idx, 3)) (kk : J E nL p l e R s m args below meth c Q X (pc + 3) L (.int (if x < y then y else x) :: st) σ k n) : J E nL p l e R s m args below meth c Q X pc L (.int y :: .int x :: st) σ k n :=
  fun o ho ls H locs hl hP hS => va_mmax C.1 C.2.1 (C.2.2.1.trans hl.1.symm) C.2.2.2.1 (C.2.2.2.2.1 _ h.1) (C.2.2.2.2.1 _ h.2.1) (C.2.2.2.2.1 _ h.2.2.1) (C.2.2.2.2.1 _ h.2.2.2) h2.1 h2.2.1 h2.2.2.1 h2.2.2.2 d (kk o ho ls H locs hl hP hS)
theorem j_min {idx : Nat} {x y : Int32} (C : Cx E nL p s m args c cc own) (h : Cond.methodLink own idx Lib.Math.min.name ∈ lw_all ∧ Cond.static Lib.Math.min.name ∈ lw_all ∧ Cond.initialized "java/lang/Math" ∈ lw_all ∧ Cond.code Lib.Math.min.name Lib.Math.min.code 2 (some .int) ∈ lw_all) (h2 : 1 ≤ R.frames ∧ (st.map fun v => v.category).sum + 13 ≤ R.locals ∧ k ≤ R.cells ∧ n ≤ R.slots) (d : decode cc pc = .ok (.invokestatic idx, 3)) (kk : J E nL p l e R s m args below meth c Q X (pc + 3) L (.int (if y < x then y else x) :: st) σ k n) : J E nL p l e R s m args below meth c Q X pc L (.int y :: .int x :: st) σ k n :=
  fun o ho ls H locs hl hP hS => va_mmin C.1 C.2.1 (C.2.2.1.trans hl.1.symm) C.2.2.2.1 (C.2.2.2.2.1 _ h.1) (C.2.2.2.2.1 _ h.2.1) (C.2.2.2.2.1 _ h.2.2.1) (C.2.2.2.2.1 _ h.2.2.2) h2.1 h2.2.1 h2.2.2.1 h2.2.2.2 d (kk o ho ls H locs hl hP hS)
end JR
