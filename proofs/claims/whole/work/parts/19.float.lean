/-! rows for floats and doubles, none of them a NaN; contracts of methods that answer with one; the row of doubles -/
def n32 (r : UInt32) : Bool := decide (r &&& 0x7fffffff ≤ 0x7f800000)
def n64 (r : UInt64) : Bool := decide (r &&& 0x7fffffffffffffff ≤ 0x7ff0000000000000)
theorem n32_of {r : UInt32} (h : n32 r = true) : vf_n32 r :=
  show r &&& 0x7fffffff ≤ 0x7f800000 from of_decide_eq_true h
theorem n64_of {r : UInt64} (h : n64 r = true) : vf_n64 r :=
  show r &&& 0x7fffffffffffffff ≤ 0x7ff0000000000000 from of_decide_eq_true h
/-- two ints of row 101, once x is stored in it -/
def dw (f : Nat → Int32) (x : UInt64) : Nat → Int32 := upd (upd f 0 (lo64 x)) 1 (hi64 x)
theorem dw_0 (f : Nat → Int32) (x : UInt64) : dw f x 0 = lo64 x := by simp [dw, upd]
theorem dw_1 (f : Nat → Int32) (x : UInt64) : dw f x 1 = hi64 x := by simp [dw, upd]
theorem ct_101 (E : En) (f : Nat → Int32) : ct E 101 f = .inl (eC E 5, 1, .inr (.inr (.inr (.inl (fun i => mk64 (f (2 * i)) (f (2 * i + 1))))))) := rfl
theorem upd_dbl (f : Nat → Int32) (x : UInt64) : (fun i => mk64 (dw f x (2 * i)) (dw f x (2 * i + 1))) = vf_upd (fun i => mk64 (f (2 * i)) (f (2 * i + 1))) 0 x := by
  funext i
  by_cases h : i = 0
  · subst h
    show mk64 (dw f x 0) (dw f x 1) = _
    rw [dw_0, dw_1, mk_lohi]
    simp [vf_upd]
  · have h1 : ¬ 2 * i = 0 := by omega
    have h2 : ¬ 2 * i = 1 := by omega
    simp [vf_upd, dw, upd, h]
    have h3 : ¬ 2 * i + 1 = 1 := by omega
    first | done | simp [h1, h2, h3]
def QF (E : En) (below : List Frame) (args : Array Value) (s : State) (mc ms : Nat) : UInt32 × Hp → State → Prop := fun o => MQ below (va_Qf (fun r (_ : Unit) => r = o.1) (fun _ t => PostW E o.2 t) (AA E s.heap.size)) args s mc ms (AA E s.heap.size)
def QD (E : En) (below : List Frame) (args : Array Value) (s : State) (mc ms : Nat) : UInt64 × Hp → State → Prop := fun o => MQ below (va_Qd (fun r (_ : Unit) => r = o.1) (fun _ t => PostW E o.2 t) (AA E s.heap.size)) args s mc ms (AA E s.heap.size)
abbrev XF (E : En) (below : List Frame) (args : Array Value) (s : State) (mc ms : Nat) : (UInt32 ⊕ Nat) × Hp → State → Prop := XG E below args s mc ms (fun o => va_Qf (fun r (_ : Unit) => o.1 = .inl r) (fun _ t => PostW E o.2 t) (AA E s.heap.size))
abbrev XD (E : En) (below : List Frame) (args : Array Value) (s : State) (mc ms : Nat) : (UInt64 ⊕ Nat) × Hp → State → Prop := XG E below args s mc ms (fun o => va_Qd (fun r (_ : Unit) => o.1 = .inl r) (fun _ t => PostW E o.2 t) (AA E s.heap.size))
def ConF (y : MethodName) (cc : ByteArray) (maxL : Nat) (rm : Room) (vs : En → List Value) (g : Hp → Option (UInt32 × Hp)) : Prop :=
  ∀ (l : Launch) (E : En) (σ : Hp) (o : UInt32 × Hp) (sz : Nat), g σ = some o → Met l y (Cond.code y cc maxL (some .float) :: lw_all) rm (va_Pc (vs E) (PreW E σ sz)) (va_Qf (fun r (_ : Unit) => r = o.1) (fun _ t => PostW E o.2 t) (AA E sz)) rm.cells rm.slots (AA E sz)
def ConD (y : MethodName) (cc : ByteArray) (maxL : Nat) (rm : Room) (vs : En → List Value) (g : Hp → Option (UInt64 × Hp)) : Prop :=
  ∀ (l : Launch) (E : En) (σ : Hp) (o : UInt64 × Hp) (sz : Nat), g σ = some o → Met l y (Cond.code y cc maxL (some .double) :: lw_all) rm (va_Pc (vs E) (PreW E σ sz)) (va_Qd (fun r (_ : Unit) => r = o.1) (fun _ t => PostW E o.2 t) (AA E sz)) rm.cells rm.slots (AA E sz)
def CoXF (y : MethodName) (cc : ByteArray) (maxL : Nat) (rm : Room) (vs : En → List Value) (g : Hp → Option ((UInt32 ⊕ Nat) × Hp)) : Prop :=
  ∀ (l : Launch) (_ : l.stackTraces = false) (E : En) (σ : Hp) (o : (UInt32 ⊕ Nat) × Hp) (sz : Nat), g σ = some o → vx_Met l y (Cond.code y cc maxL (some .float) :: lw_all) rm (va_Pc (vs E) (PreW E σ sz)) (va_Qf (fun r (_ : Unit) => o.1 = .inl r) (fun _ t => PostW E o.2 t) (AA E sz)) (XCW E sz o) rm.cells rm.slots (AA E sz)
def CoXD (y : MethodName) (cc : ByteArray) (maxL : Nat) (rm : Room) (vs : En → List Value) (g : Hp → Option ((UInt64 ⊕ Nat) × Hp)) : Prop :=
  ∀ (l : Launch) (_ : l.stackTraces = false) (E : En) (σ : Hp) (o : (UInt64 ⊕ Nat) × Hp) (sz : Nat), g σ = some o → vx_Met l y (Cond.code y cc maxL (some .double) :: lw_all) rm (va_Pc (vs E) (PreW E σ sz)) (va_Qd (fun r (_ : Unit) => o.1 = .inl r) (fun _ t => PostW E o.2 t) (AA E sz)) (XCW E sz o) rm.cells rm.slots (AA E sz)
theorem conF_of {y : MethodName} {cc : ByteArray} {maxL : Nat} {rm : Room} {vs : En → List Value} {g : Hp → Option (UInt32 × Hp)} {L : En → List (Nat × Value)} (hy : plainName y.cls = true) (hlen : ∀ E, (lg_sl (vs E)).length ≤ maxL) (hL : ∀ E, lv_args 0 (vs E) = L E)
    (h : ∀ (l : Launch) (E : En) (σ : Hp) (p : Program) (e : Env) (s : State) (m : MethodId) (args : Array Value) (below : List Frame) (meth : Method) (c : Code), Cx E maxL p s m args c cc y.cls → meth.sig.returnType = some .float → meth.locks = false → J E maxL p l e rm s m args below meth c (QF E below args s rm.cells rm.slots) (g σ) 0 (L E) [] σ 0 0) : ConF y cc maxL rm vs g := by
  intro l E σ o sz hg
  refine Met.ofW (cc := cc) (maxL := maxL) (ret := some .float) hy rfl ?_
  intro p e s m args below meth c s₁ B hml hv
  obtain ⟨rfl, hsz, hP, hX⟩ := hv
  subst hsz
  have hl := lv_entry (vs E) (n := maxL) (hlen E)
  rw [hL] at hl
  rw [lg_entry_eq]
  exact h l E σ p e s m _ below meth c (cx_of B hml hX) B.returns B.notSynchronized o hg _ _ [] hl hP va_S.rf
theorem coXF_of {y : MethodName} {cc : ByteArray} {maxL : Nat} {rm : Room} {vs : En → List Value} {g : Hp → Option ((UInt32 ⊕ Nat) × Hp)} {L : En → List (Nat × Value)} (hy : plainName y.cls = true) (hlen : ∀ E, (lg_sl (vs E)).length ≤ maxL) (hL : ∀ E, lv_args 0 (vs E) = L E)
    (h : ∀ (l : Launch) (E : En) (σ : Hp) (p : Program) (e : Env) (s : State) (m : MethodId) (args : Array Value) (below : List Frame) (meth : Method) (c : Code), Cx E maxL p s m args c cc y.cls → meth.sig.returnType = some .float → meth.locks = false → l.stackTraces = false → (∀ x ∈ c.exceptionTable.toList, False) → J E maxL p l e rm s m args below meth c (XF E below args s rm.cells rm.slots) (g σ) 0 (L E) [] σ 0 0) : CoXF y cc maxL rm vs g := by
  intro l hst E σ o sz hg
  refine vx_ofW (cc := cc) (maxL := maxL) (ret := some .float) hy rfl ?_
  intro p e s m args below meth c s₁ B hml ht hv
  obtain ⟨rfl, hsz, hP, hX⟩ := hv
  subst hsz
  have hl := lv_entry (vs E) (n := maxL) (hlen E)
  rw [hL] at hl
  rw [lg_entry_eq]
  exact h l E σ p e s m _ below meth c (cx_of B hml hX) B.returns B.notSynchronized hst ht o hg _ _ [] hl hP va_S.rf
theorem conD_of {y : MethodName} {cc : ByteArray} {maxL : Nat} {rm : Room} {vs : En → List Value} {g : Hp → Option (UInt64 × Hp)} {L : En → List (Nat × Value)} (hy : plainName y.cls = true) (hlen : ∀ E, (lg_sl (vs E)).length ≤ maxL) (hL : ∀ E, lv_args 0 (vs E) = L E)
    (h : ∀ (l : Launch) (E : En) (σ : Hp) (p : Program) (e : Env) (s : State) (m : MethodId) (args : Array Value) (below : List Frame) (meth : Method) (c : Code), Cx E maxL p s m args c cc y.cls → meth.sig.returnType = some .double → meth.locks = false → J E maxL p l e rm s m args below meth c (QD E below args s rm.cells rm.slots) (g σ) 0 (L E) [] σ 0 0) : ConD y cc maxL rm vs g := by
  intro l E σ o sz hg
  refine Met.ofW (cc := cc) (maxL := maxL) (ret := some .double) hy rfl ?_
  intro p e s m args below meth c s₁ B hml hv
  obtain ⟨rfl, hsz, hP, hX⟩ := hv
  subst hsz
  have hl := lv_entry (vs E) (n := maxL) (hlen E)
  rw [hL] at hl
  rw [lg_entry_eq]
  exact h l E σ p e s m _ below meth c (cx_of B hml hX) B.returns B.notSynchronized o hg _ _ [] hl hP va_S.rf
theorem coXD_of {y : MethodName} {cc : ByteArray} {maxL : Nat} {rm : Room} {vs : En → List Value} {g : Hp → Option ((UInt64 ⊕ Nat) × Hp)} {L : En → List (Nat × Value)} (hy : plainName y.cls = true) (hlen : ∀ E, (lg_sl (vs E)).length ≤ maxL) (hL : ∀ E, lv_args 0 (vs E) = L E)
    (h : ∀ (l : Launch) (E : En) (σ : Hp) (p : Program) (e : Env) (s : State) (m : MethodId) (args : Array Value) (below : List Frame) (meth : Method) (c : Code), Cx E maxL p s m args c cc y.cls → meth.sig.returnType = some .double → meth.locks = false → l.stackTraces = false → (∀ x ∈ c.exceptionTable.toList, False) → J E maxL p l e rm s m args below meth c (XD E below args s rm.cells rm.slots) (g σ) 0 (L E) [] σ 0 0) : CoXD y cc maxL rm vs g := by
  intro l hst E σ o sz hg
  refine vx_ofW (cc := cc) (maxL := maxL) (ret := some .double) hy rfl ?_
  intro p e s m args below meth c s₁ B hml ht hv
  obtain ⟨rfl, hsz, hP, hX⟩ := hv
  subst hsz
  have hl := lv_entry (vs E) (n := maxL) (hlen E)
  rw [hL] at hl
  rw [lg_entry_eq]
  exact h l E σ p e s m _ below meth c (cx_of B hml hX) B.returns B.notSynchronized hst ht o hg _ _ [] hl hP va_S.rf
section JF
variable {ρ : Type} {E : En} {nL : Nat} {p : Program} {l : Launch} {e : Env} {R : Room} {s : State} {m : MethodId} {args : Array Value} {below : List Frame} {meth : Method} {c : Code} {Q : ρ → State → Prop} {X Y Z : Option ρ} {pc : Nat} {L L' : List (Nat × Value)} {st st0 : List Value} {σ : Hp} {k n : Nat} {cc : ByteArray} {own : String}
theorem j_fconst0 (C : Cx E nL p s m args c cc own) (d : decode cc pc = .ok (.fconst 0, 1)) (kk : J E nL p l e R s m args below meth c Q X (pc + 1) L (.float FP.fconst0 :: st) σ k n) : J E nL p l e R s m args below meth c Q X pc L st σ k n :=
  fun o ho ls H locs hl hP hS => lv_fconst0 C.1 C.2.1 d (kk o ho ls H locs hl hP hS)
theorem j_fload_n {x : UInt32} (a : Nat) {i : Nat} {f : Fin 4} (C : Cx E nL p s m args c cc own) (d : decode cc pc = .ok (.fload_n f, 1)) (hi : (f : Nat) = i) (hL : L[a]? = some (i, .float x)) (kk : J E nL p l e R s m args below meth c Q X (pc + 1) L (.float x :: st) σ k n) : J E nL p l e R s m args below meth c Q X pc L st σ k n :=
  fun o ho ls H locs hl hP hS => lv_fload_n C.1 C.2.1 d hi (lv_at hl a hL) (kk o ho ls H locs hl hP hS)
theorem j_fload {x : UInt32} (a : Nat) {i : Nat} (C : Cx E nL p s m args c cc own) (d : decode cc pc = .ok (.fload i, 2)) (hL : L[a]? = some (i, .float x)) (kk : J E nL p l e R s m args below meth c Q X (pc + 2) L (.float x :: st) σ k n) : J E nL p l e R s m args below meth c Q X pc L st σ k n :=
  fun o ho ls H locs hl hP hS => lv_fload C.1 C.2.1 d (lv_at hl a hL) (kk o ho ls H locs hl hP hS)
theorem j_dload_n {x : UInt64} (a : Nat) {i : Nat} {f : Fin 4} (C : Cx E nL p s m args c cc own) (d : decode cc pc = .ok (.dload_n f, 1)) (hi : (f : Nat) = i) (hL : L[a]? = some (i, .double x)) (kk : J E nL p l e R s m args below meth c Q X (pc + 1) L (.double x :: st) σ k n) : J E nL p l e R s m args below meth c Q X pc L st σ k n :=
  fun o ho ls H locs hl hP hS => lv_dload_n C.1 C.2.1 d hi (lv_at hl a hL) (kk o ho ls H locs hl hP hS)
theorem j_dload {x : UInt64} (a : Nat) {i : Nat} (C : Cx E nL p s m args c cc own) (d : decode cc pc = .ok (.dload i, 2)) (hL : L[a]? = some (i, .double x)) (kk : J E nL p l e R s m args below meth c Q X (pc + 2) L (.double x :: st) σ k n) : J E nL p l e R s m args below meth c Q X pc L st σ k n :=
  fun o ho ls H locs hl hP hS => lv_dload C.1 C.2.1 d (lv_at hl a hL) (kk o ho ls H locs hl hP hS)
theorem j_fstore_n {x : UInt32} {i : Nat} {f : Fin 4} (L' : List (Nat × Value)) (C : Cx E nL p s m args c cc own) (d : decode cc pc = .ok (.fstore_n f, 1)) (hi : (f : Nat) = i) (hn : i < nL) (hL : (i, Value.float x) :: ltf i L = L') (kk : J E nL p l e R s m args below meth c Q X (pc + 1) L' st σ k n) : J E nL p l e R s m args below meth c Q X pc L (.float x :: st) σ k n :=
  fun o ho ls H locs hl hP hS => lv_fstore_n C.1 C.2.1 d hi hl hn hL (fun ls' hl' => kk o ho ls' H locs hl' hP hS)
theorem j_fstore {x : UInt32} {i : Nat} (L' : List (Nat × Value)) (C : Cx E nL p s m args c cc own) (d : decode cc pc = .ok (.fstore i, 2)) (hn : i < nL) (hL : (i, Value.float x) :: ltf i L = L') (kk : J E nL p l e R s m args below meth c Q X (pc + 2) L' st σ k n) : J E nL p l e R s m args below meth c Q X pc L (.float x :: st) σ k n :=
  fun o ho ls H locs hl hP hS => lv_fstore C.1 C.2.1 d hl hn hL (fun ls' hl' => kk o ho ls' H locs hl' hP hS)
theorem j_dstore {x : UInt64} {i : Nat} (L' : List (Nat × Value)) (C : Cx E nL p s m args c cc own) (d : decode cc pc = .ok (.dstore i, 2)) (hn : i + 1 < nL) (hL : (i, Value.double x) :: L.filter (fun q => !(q.1 == i) && (!(q.1 == i + 1) && !(q.1 + 1 == i && q.2.category == 2))) = L') (kk : J E nL p l e R s m args below meth c Q X (pc + 2) L' st σ k n) : J E nL p l e R s m args below meth c Q X pc L (.double x :: st) σ k n :=
  fun o ho ls H locs hl hP hS => lv_dstore C.1 C.2.1 d hl hn hL (fun ls' hl' => kk o ho ls' H locs hl' hP hS)
theorem j_fadd {x y : UInt32} (C : Cx E nL p s m args c cc own) (d : decode cc pc = .ok (.fadd, 1)) (kk : J E nL p l e R s m args below meth c Q X (pc + 1) L (.float (FP.fadd x y) :: st) σ k n) : J E nL p l e R s m args below meth c Q (gd (n32 (FP.fadd x y)) X) pc L (.float y :: .float x :: st) σ k n :=
  j_gd fun h o ho ls H locs hl hP hS => lv_fadd C.1 C.2.1 d (n32_of h) (kk o ho ls H locs hl hP hS)
theorem j_fsub {x y : UInt32} (C : Cx E nL p s m args c cc own) (d : decode cc pc = .ok (.fsub, 1)) (kk : J E nL p l e R s m args below meth c Q X (pc + 1) L (.float (FP.fsub x y) :: st) σ k n) : J E nL p l e R s m args below meth c Q (gd (n32 (FP.fsub x y)) X) pc L (.float y :: .float x :: st) σ k n :=
  j_gd fun h o ho ls H locs hl hP hS => lv_fsub C.1 C.2.1 d (n32_of h) (kk o ho ls H locs hl hP hS)
theorem j_fmul {x y : UInt32} (C : Cx E nL p s m args c cc own) (d : decode cc pc = .ok (.fmul, 1)) (kk : J E nL p l e R s m args below meth c Q X (pc + 1) L (.float (FP.fmul x y) :: st) σ k n) : J E nL p l e R s m args below meth c Q (gd (n32 (FP.fmul x y)) X) pc L (.float y :: .float x :: st) σ k n :=
  j_gd fun h o ho ls H locs hl hP hS => lv_fmul C.1 C.2.1 d (n32_of h) (kk o ho ls H locs hl hP hS)
theorem j_fdiv {x y : UInt32} (C : Cx E nL p s m args c cc own) (d : decode cc pc = .ok (.fdiv, 1)) (kk : J E nL p l e R s m args below meth c Q X (pc + 1) L (.float (FP.fdiv x y) :: st) σ k n) : J E nL p l e R s m args below meth c Q (gd (n32 (FP.fdiv x y)) X) pc L (.float y :: .float x :: st) σ k n :=
  j_gd fun h o ho ls H locs hl hP hS => lv_fdiv C.1 C.2.1 d (n32_of h) (kk o ho ls H locs hl hP hS)
theorem j_ddiv {x y : UInt64} (C : Cx E nL p s m args c cc own) (d : decode cc pc = .ok (.ddiv, 1)) (kk : J E nL p l e R s m args below meth c Q X (pc + 1) L (.double (FP.ddiv x y) :: st) σ k n) : J E nL p l e R s m args below meth c Q (gd (n64 (FP.ddiv x y)) X) pc L (.double y :: .double x :: st) σ k n :=
  j_gd fun h o ho ls H locs hl hP hS => lv_ddiv C.1 C.2.1 d (n64_of h) (kk o ho ls H locs hl hP hS)
theorem j_i2f {x : Int32} (C : Cx E nL p s m args c cc own) (d : decode cc pc = .ok (.i2f, 1)) (kk : J E nL p l e R s m args below meth c Q X (pc + 1) L (.float (FP.i2f x) :: st) σ k n) : J E nL p l e R s m args below meth c Q X pc L (.int x :: st) σ k n :=
  fun o ho ls H locs hl hP hS => lv_i2f C.1 C.2.1 d (kk o ho ls H locs hl hP hS)
theorem j_i2d {x : Int32} (C : Cx E nL p s m args c cc own) (d : decode cc pc = .ok (.i2d, 1)) (kk : J E nL p l e R s m args below meth c Q X (pc + 1) L (.double (FP.i2d x) :: st) σ k n) : J E nL p l e R s m args below meth c Q X pc L (.int x :: st) σ k n :=
  fun o ho ls H locs hl hP hS => lv_i2d C.1 C.2.1 d (kk o ho ls H locs hl hP hS)
theorem j_f2d {x : UInt32} (C : Cx E nL p s m args c cc own) (d : decode cc pc = .ok (.f2d, 1)) (kk : J E nL p l e R s m args below meth c Q X (pc + 1) L (.double (FP.f2d x) :: st) σ k n) : J E nL p l e R s m args below meth c Q (gd (n64 (FP.f2d x)) X) pc L (.float x :: st) σ k n :=
  j_gd fun h o ho ls H locs hl hP hS => lv_f2d C.1 C.2.1 d (n64_of h) (kk o ho ls H locs hl hP hS)
theorem j_ldcf {v : UInt32} {idx : Nat} (C : Cx E nL p s m args c cc own) (h : Cond.constantFloat own idx v ∈ lw_all) (d : decode cc pc = .ok (.ldc idx, 2)) (kk : J E nL p l e R s m args below meth c Q X (pc + 2) L (.float v :: st) σ k n) : J E nL p l e R s m args below meth c Q X pc L st σ k n :=
  fun o ho ls H locs hl hP hS => lv_ldcf C.1 C.2.1 C.2.2.2.1 (C.2.2.2.2.1 _ h) d (kk o ho ls H locs hl hP hS)
theorem j_ldc2d {v : UInt64} {idx : Nat} (C : Cx E nL p s m args c cc own) (h : Cond.constantDouble own idx v ∈ lw_all) (d : decode cc pc = .ok (.ldc2_w idx, 3)) (kk : J E nL p l e R s m args below meth c Q X (pc + 3) L (.double v :: st) σ k n) : J E nL p l e R s m args below meth c Q X pc L st σ k n :=
  fun o ho ls H locs hl hP hS => lv_ldc2d C.1 C.2.1 C.2.2.2.1 (C.2.2.2.2.1 _ h) d (kk o ho ls H locs hl hP hS)
theorem j_dcmp {x y : UInt64} (C : Cx E nL p s m args c cc own) (d : decode cc pc = .ok (.dcmp .l, 1)) (kk : J E nL p l e R s m args below meth c Q X (pc + 1) L (.int (Op.cmpValue (FP.dcmp x y) .l) :: st) σ k n) : J E nL p l e R s m args below meth c Q X pc L (.double y :: .double x :: st) σ k n :=
  fun o ho ls H locs hl hP hS => lv_dcmp C.1 C.2.1 d (kk o ho ls H locs hl hP hS)
theorem j_fcmp {x y : UInt32} (C : Cx E nL p s m args c cc own) (d : decode cc pc = .ok (.fcmp .l, 1)) (kk : J E nL p l e R s m args below meth c Q X (pc + 1) L (.int (Op.cmpValue (FP.fcmp x y) .l) :: st) σ k n) : J E nL p l e R s m args below meth c Q X pc L (.float y :: .float x :: st) σ k n :=
  fun o ho ls H locs hl hP hS => lv_fcmp C.1 C.2.1 d (kk o ho ls H locs hl hP hS)
theorem j_dast {x : UInt64} (C : Cx E nL p s m args c cc own) (d : decode cc pc = .ok (.dastore, 1)) (kk : J E nL p l e R s m args below meth c Q X (pc + 1) L st (sr σ 101 (dw (σ 101) x)) k n) : J E nL p l e R s m args below meth c Q X pc L (.double x :: .int 0 :: .ref (ea E 101) :: st) σ k n :=
  fun o ho ls H locs hl hP hS => va_dast C.1 C.2.1 C.2.2.2.2.2.1 hP (wd_D E C.2.2.2.2.2.2.1 σ _) hS 101 5 ((wd_get E σ (show 101 < NC by decide)).trans rfl) rfl (vib_in rfl) d
    (fun H1 locs1 hP1 _ hS1 => kk o ho ls H1 locs1 hl (by rw [← wd_set, ct_101, upd_dbl]; exact hP1) hS1)
theorem j_dald (C : Cx E nL p s m args c cc own) (d : decode cc pc = .ok (.daload, 1)) (kk : J E nL p l e R s m args below meth c Q X (pc + 1) L (.double (mk64 (σ 101 0) (σ 101 1)) :: st) σ k n) : J E nL p l e R s m args below meth c Q X pc L (.int 0 :: .ref (ea E 101) :: st) σ k n :=
  fun o ho ls H locs hl hP hS => va_dald C.1 C.2.1 C.2.2.2.2.2.1 hP 101 5 ((wd_get E σ (show 101 < NC by decide)).trans rfl) rfl (vib_in rfl) d (kk o ho ls H locs hl hP hS)
end JF
section JG
variable {E : En} {nL : Nat} {p : Program} {l : Launch} {e : Env} {R : Room} {s : State} {m : MethodId} {args : Array Value} {below : List Frame} {meth : Method} {c : Code} {pc : Nat} {L : List (Nat × Value)} {st : List Value} {σ : Hp} {k n : Nat} {cc : ByteArray} {own : String} {mc ms : Nat}
theorem j_fret {r : UInt32} (C : Cx E nL p s m args c cc own) (hr : meth.sig.returnType = some .float) (hlocks : meth.locks = false) (d : decode cc pc = .ok (.freturn, 1)) (hk : k ≤ mc) (hs : n ≤ ms) : J E nL p l e R s m args below meth c (QF E below args s mc ms) (some (r, σ)) pc L [.float r] σ k n := by
  intro o ho ls H locs hl hP hS
  cases ho
  exact W.widen hk hs (W.fret C.1 C.2.1 hr (fun t ht hW => ⟨⟨r, (), rfl, rfl, by show va_P _ _ _ t.heap; rw [ht]; exact hP⟩, hS.F ht⟩) hS.2.2 d hlocks)
theorem j_xfret {r : UInt32} (C : Cx E nL p s m args c cc own) (hr : meth.sig.returnType = some .float) (hlocks : meth.locks = false) (d : decode cc pc = .ok (.freturn, 1)) (hk : k ≤ mc) (hs : n ≤ ms) : J E nL p l e R s m args below meth c (XF E below args s mc ms) (some (.inl r, σ)) pc L [.float r] σ k n := by
  intro o ho ls H locs hl hP hS
  cases ho
  exact W.widen hk hs (vx_ret (W.fret C.1 C.2.1 hr (fun t ht hW => ⟨⟨r, (), rfl, rfl, by show va_P _ _ _ t.heap; rw [ht]; exact hP⟩, hS.F ht⟩) hS.2.2 d hlocks))
theorem j_dret {r : UInt64} (C : Cx E nL p s m args c cc own) (hr : meth.sig.returnType = some .double) (hlocks : meth.locks = false) (d : decode cc pc = .ok (.dreturn, 1)) (hk : k ≤ mc) (hs : n ≤ ms) : J E nL p l e R s m args below meth c (QD E below args s mc ms) (some (r, σ)) pc L [.double r] σ k n := by
  intro o ho ls H locs hl hP hS
  cases ho
  exact W.widen hk hs (W.dret C.1 C.2.1 hr (fun t ht hW => ⟨⟨r, (), rfl, rfl, by show va_P _ _ _ t.heap; rw [ht]; exact hP⟩, hS.F ht⟩) hS.2.2 d hlocks)
theorem j_xdret {r : UInt64} (C : Cx E nL p s m args c cc own) (hr : meth.sig.returnType = some .double) (hlocks : meth.locks = false) (d : decode cc pc = .ok (.dreturn, 1)) (hk : k ≤ mc) (hs : n ≤ ms) : J E nL p l e R s m args below meth c (XD E below args s mc ms) (some (.inl r, σ)) pc L [.double r] σ k n := by
  intro o ho ls H locs hl hP hS
  cases ho
  exact W.widen hk hs (vx_ret (W.dret C.1 C.2.1 hr (fun t ht hW => ⟨⟨r, (), rfl, rfl, by show va_P _ _ _ t.heap; rw [ht]; exact hP⟩, hS.F ht⟩) hS.2.2 d hlocks))
end JG
section JH
variable {ρ : Type} {E : En} {nL : Nat} {p : Program} {l : Launch} {e : Env} {R : Room} {s : State} {m : MethodId} {args : Array Value} {below : List Frame} {meth : Method} {c : Code} {Q : ρ → State → Prop} {pc : Nat} {L : List (Nat × Value)} {st st0 : List Value} {σ : Hp} {k n : Nat} {cc : ByteArray} {own : String}
variable {y : MethodName} {cy : ByteArray} {maxL : Nat} {rm : Room} {vs : En → List Value} {idx : Nat} {q ci N0 : Nat} {T0 : u_T} {fs : List Value}
theorem j_callVF {g : Hp → Option (UInt32 × Hp)} {Y : UInt32 → Hp → Option ρ} (As : List Value) (con : ConF y cy maxL rm vs g) (C : Cx E nL p s m args c cc own) (M : Mi y cy maxL (some .float) As.length) (V : Mv y) (hl : Cond.methodLink own idx y ∈ lw_all) (hq : q < NC) (he : ct E q (σ q) = .inr (ci, fs)) (hc : classes[ci]? = some (y.cls, T0, N0)) (hv : vs E = .ref (ea E q) :: As) (hst : st0 = As.reverse ++ .ref (ea E q) :: st) (hR : Rm rm maxL R st k n) (d : decode cc pc = .ok (.invokevirtual idx, 3))
    (kk : ∀ (r : UInt32) (σ1 : Hp), J E nL p l e R s m args below meth c Q (Y r σ1) (pc + 3) L (.float r :: st) σ1 (k + rm.cells) (n + rm.slots)) : J E nL p l e R s m args below meth c Q (bd (g σ) Y) pc L st0 σ k n := by
  intro o ho ls H locs hl' hP hS
  obtain ⟨r0, σ1, hg, hY⟩ := bd_some ho
  refine va_callf (va_runV (As := As) (rest := st) ⟨C.1, C.2.1, C.2.2.1, C.2.2.2.1, C.2.2.2.2.1⟩ (con l E σ _ H.size hg) (cw_of C M V hl hR) (preV_of (σ' := σ) C hP hS hq he hc hv) rfl rfl hl'.1 hst (lv_room hR.2.2.2.2) d ⟨hR.2.2.1, hR.2.2.2.1⟩) hS (aSub hS.1) (aUp hS.1) (fun r u t H1 locs1 ht hvm hw hB hz hk1 hS1 => ?_)
  subst hw
  exact kk _ σ1 o hY ls H1 locs1 hl' (by rw [← ht]; exact hB) hS1
theorem j_callHVF {g : Hp → Option ((UInt32 ⊕ Nat) × Hp)} {F : UInt32 → Hp → Option ρ} {G : Nat → Hp → Option ρ} (As : List Value) (con : CoXF y cy maxL rm vs g) (C : Cx E nL p s m args c cc own) (hT : l.stackTraces = false) (M : Mi y cy maxL (some .float) As.length) (V : Mv y) (hl : Cond.methodLink own idx y ∈ lw_all) (hq : q < NC) (he : ct E q (σ q) = .inr (ci, fs)) (hc : classes[ci]? = some (y.cls, T0, N0)) (hv : vs E = .ref (ea E q) :: As) (hst : st0 = As.reverse ++ .ref (ea E q) :: st) (hR : Rm rm maxL R st k n) (d : decode cc pc = .ok (.invokevirtual idx, 3))
    (kx : ∀ (x : Nat) (σ1 : Hp), JX E nL p l e R s m args below meth c Q (G x σ1) x pc L st σ1 (k + rm.cells) (n + rm.slots))
    (kk : ∀ (r : UInt32) (σ1 : Hp), J E nL p l e R s m args below meth c Q (F r σ1) (pc + 3) L (.float r :: st) σ1 (k + rm.cells) (n + rm.slots)) : J E nL p l e R s m args below meth c Q (bh (g σ) F G) pc L st0 σ k n := by
  intro o ho ls H locs hl' hP hS
  obtain ⟨o', hg, hY⟩ := bh_some ho
  refine vx_callf (vx_runV (As := As) (rest := st) ⟨C.1, C.2.1, C.2.2.1, C.2.2.2.1, C.2.2.2.2.1⟩ (con l hT E σ _ H.size hg) (cw_of C M V hl hR) (preV_of (σ' := σ) C hP hS hq he hc hv) rfl rfl hl'.1 hst (lv_room hR.2.2.2.2) d ⟨hR.2.2.1, hR.2.2.2.1⟩) hS (aSub hS.1) (aUp hS.1) (aSub hS.1) (fun E' ce q9 u t H1 locs1 h1 hvm hw hB hz hk1 hS1 hce hcv hcl => ?_) (fun r u t H1 locs1 h1 hvm hw hB hz hk1 hS1 => ?_)
  · obtain ⟨⟨x, hx, hE⟩, hB⟩ := hB
    rcases hY with ⟨a, ha, -⟩ | ⟨x', hx', hZ⟩
    · rw [hx] at ha; cases ha
    · rw [hx] at hx'; cases hx'
      subst hE
      exact kx x o'.2 o hZ ls H1 locs1 q9 ce hl' (by rw [← h1]; exact hB) hS1 hce hcv hcl
  · rcases hY with ⟨a, ha, hY⟩ | ⟨x', hx', -⟩
    · rw [hw] at ha; cases ha
      exact kk _ o'.2 o hY ls H1 locs1 hl' (by rw [← h1]; exact hB) hS1
    · rw [hw] at hx'; cases hx'
theorem j_callVD {g : Hp → Option (UInt64 × Hp)} {Y : UInt64 → Hp → Option ρ} (As : List Value) (con : ConD y cy maxL rm vs g) (C : Cx E nL p s m args c cc own) (M : Mi y cy maxL (some .double) As.length) (V : Mv y) (hl : Cond.methodLink own idx y ∈ lw_all) (hq : q < NC) (he : ct E q (σ q) = .inr (ci, fs)) (hc : classes[ci]? = some (y.cls, T0, N0)) (hv : vs E = .ref (ea E q) :: As) (hst : st0 = As.reverse ++ .ref (ea E q) :: st) (hR : Rm rm maxL R st k n) (d : decode cc pc = .ok (.invokevirtual idx, 3))
    (kk : ∀ (r : UInt64) (σ1 : Hp), J E nL p l e R s m args below meth c Q (Y r σ1) (pc + 3) L (.double r :: st) σ1 (k + rm.cells) (n + rm.slots)) : J E nL p l e R s m args below meth c Q (bd (g σ) Y) pc L st0 σ k n := by
  intro o ho ls H locs hl' hP hS
  obtain ⟨r0, σ1, hg, hY⟩ := bd_some ho
  refine va_calld (va_runV (As := As) (rest := st) ⟨C.1, C.2.1, C.2.2.1, C.2.2.2.1, C.2.2.2.2.1⟩ (con l E σ _ H.size hg) (cw_of C M V hl hR) (preV_of (σ' := σ) C hP hS hq he hc hv) rfl rfl hl'.1 hst (lv_room hR.2.2.2.2) d ⟨hR.2.2.1, hR.2.2.2.1⟩) hS (aSub hS.1) (aUp hS.1) (fun r u t H1 locs1 ht hvm hw hB hz hk1 hS1 => ?_)
  subst hw
  exact kk _ σ1 o hY ls H1 locs1 hl' (by rw [← ht]; exact hB) hS1
theorem j_callHVD {g : Hp → Option ((UInt64 ⊕ Nat) × Hp)} {F : UInt64 → Hp → Option ρ} {G : Nat → Hp → Option ρ} (As : List Value) (con : CoXD y cy maxL rm vs g) (C : Cx E nL p s m args c cc own) (hT : l.stackTraces = false) (M : Mi y cy maxL (some .double) As.length) (V : Mv y) (hl : Cond.methodLink own idx y ∈ lw_all) (hq : q < NC) (he : ct E q (σ q) = .inr (ci, fs)) (hc : classes[ci]? = some (y.cls, T0, N0)) (hv : vs E = .ref (ea E q) :: As) (hst : st0 = As.reverse ++ .ref (ea E q) :: st) (hR : Rm rm maxL R st k n) (d : decode cc pc = .ok (.invokevirtual idx, 3))
    (kx : ∀ (x : Nat) (σ1 : Hp), JX E nL p l e R s m args below meth c Q (G x σ1) x pc L st σ1 (k + rm.cells) (n + rm.slots))
    (kk : ∀ (r : UInt64) (σ1 : Hp), J E nL p l e R s m args below meth c Q (F r σ1) (pc + 3) L (.double r :: st) σ1 (k + rm.cells) (n + rm.slots)) : J E nL p l e R s m args below meth c Q (bh (g σ) F G) pc L st0 σ k n := by
  intro o ho ls H locs hl' hP hS
  obtain ⟨o', hg, hY⟩ := bh_some ho
  refine vx_calld (vx_runV (As := As) (rest := st) ⟨C.1, C.2.1, C.2.2.1, C.2.2.2.1, C.2.2.2.2.1⟩ (con l hT E σ _ H.size hg) (cw_of C M V hl hR) (preV_of (σ' := σ) C hP hS hq he hc hv) rfl rfl hl'.1 hst (lv_room hR.2.2.2.2) d ⟨hR.2.2.1, hR.2.2.2.1⟩) hS (aSub hS.1) (aUp hS.1) (aSub hS.1) (fun E' ce q9 u t H1 locs1 h1 hvm hw hB hz hk1 hS1 hce hcv hcl => ?_) (fun r u t H1 locs1 h1 hvm hw hB hz hk1 hS1 => ?_)
  · obtain ⟨⟨x, hx, hE⟩, hB⟩ := hB
    rcases hY with ⟨a, ha, -⟩ | ⟨x', hx', hZ⟩
    · rw [hx] at ha; cases ha
    · rw [hx] at hx'; cases hx'
      subst hE
      exact kx x o'.2 o hZ ls H1 locs1 q9 ce hl' (by rw [← h1]; exact hB) hS1 hce hcv hcl
  · rcases hY with ⟨a, ha, hY⟩ | ⟨x', hx', -⟩
    · rw [hw] at ha; cases ha
      exact kk _ o'.2 o hY ls H1 locs1 hl' (by rw [← h1]; exact hB) hS1
    · rw [hw] at hx'; cases hx'
end JH
