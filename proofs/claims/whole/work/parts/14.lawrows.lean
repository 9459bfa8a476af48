/-! rows for the law: its out row of longs, handlers, methods with a table, the script -/
def bh {α β : Type} (x : Option ((α ⊕ Nat) × Hp)) (f : α → Hp → Option β) (z : Nat → Hp → Option β) : Option β := match x with | none => none | some (.inl a, σ) => f a σ | some (.inr n, σ) => z n σ
theorem bh_some {α β : Type} {x : Option ((α ⊕ Nat) × Hp)} {f : α → Hp → Option β} {z : Nat → Hp → Option β} {o : β} (h : bh x f z = some o) : ∃ q, x = some q ∧ ((∃ a, q.1 = .inl a ∧ f a q.2 = some o) ∨ ∃ n, q.1 = .inr n ∧ z n q.2 = some o) := by
  cases x with
  | none => exact nomatch h
  | some q =>
    obtain ⟨a | n, σ⟩ := q
    · exact ⟨_, rfl, Or.inl ⟨a, rfl, h⟩⟩
    · exact ⟨_, rfl, Or.inr ⟨n, rfl, h⟩⟩
theorem wide_eq {a b : Int32} : a.toInt64 = b.toInt64 ↔ a = b := by
  rw [← Int64.toInt_inj, Int32.toInt_toInt64, Int32.toInt_toInt64, Int32.toInt_inj]
theorem ct_100 (E : En) (f : Nat → Int32) : ct E 100 f = .inl (eC E 4, 1, .inr (.inl (fun i => (f i).toInt64))) := rfl
theorem upd_wide (f : Nat → Int32) (k : Nat) (x : Int32) : (fun i => (upd f k x i).toInt64) = vp_updL (fun i => (f i).toInt64) k x.toInt64 := by
  funext i
  by_cases h : i = k <;> simp [upd, vp_updL, h]
theorem lcmp_ne {a b : Int64} (h : a ≠ b) : lg_cmp a b ≠ 0 := by
  unfold lg_cmp
  by_cases h1 : a > b
  · rw [if_pos h1]; decide
  · rw [if_neg h1, if_neg h]; decide
/-- contracts of methods with a table of handlers -/
def CoWI (y : MethodName) (cc : ByteArray) (maxL : Nat) (hh : List (Nat × Nat × Nat × Nat)) (rm : Room) (vs : En → List Value) (g : Hp → Option (Int32 × Hp)) : Prop :=
  ∀ (l : Launch) (_ : l.stackTraces = false) (E : En) (σ : Hp) (o : Int32 × Hp) (sz : Nat), g σ = some o → Met l y (Cond.codeWith y cc maxL (some .int) hh :: lw_all) rm (va_Pc (vs E) (PreW E σ sz)) (va_Qi (fun r (_ : Unit) => r = o.1) (fun _ t => PostW E o.2 t) (AA E sz)) rm.cells rm.slots (AA E sz)
def MiW (y : MethodName) (cc : ByteArray) (maxL : Nat) (hh : List (Nat × Nat × Nat × Nat)) (n : Nat) : Prop := Cond.codeWith y cc maxL (some .int) hh ∈ lw_all ∧ Cond.initialized y.cls ∈ lw_all ∧ (y.cls ≠ "java/lang/invoke/MethodHandle" ∧ y.cls ≠ "java/lang/invoke/VarHandle" ∧ (parseMethodDescriptor y.desc).map (fun d => d.parameters.length) = some n)
theorem coWI_of {y : MethodName} {cc : ByteArray} {maxL : Nat} {hh : List (Nat × Nat × Nat × Nat)} {rm : Room} {vs : En → List Value} {g : Hp → Option (Int32 × Hp)} {L : En → List (Nat × Value)} (hy : plainName y.cls = true) (hlen : ∀ E, (lg_sl (vs E)).length ≤ maxL) (hL : ∀ E, lv_args 0 (vs E) = L E)
    (h : ∀ (l : Launch) (E : En) (σ : Hp) (p : Program) (e : Env) (s : State) (m : MethodId) (args : Array Value) (below : List Frame) (meth : Method) (c : Code), Cx E maxL p s m args c cc y.cls → meth.sig.returnType = some .int → meth.locks = false → l.stackTraces = false → c.exceptionTable.toList = tableOf hh → J E maxL p l e rm s m args below meth c (QI E below args s rm.cells rm.slots) (g σ) 0 (L E) [] σ 0 0) : CoWI y cc maxL hh rm vs g := by
  intro l hst E σ o sz hg
  refine va_MetW (cc := cc) (maxL := maxL) (ret := some .int) (hh := hh) hy rfl ?_
  intro p e s m args below meth c s₁ B hml hv
  obtain ⟨rfl, hsz, hP, hX⟩ := hv
  subst hsz
  have hl := lv_entry (vs E) (n := maxL) (hlen E)
  rw [hL] at hl
  rw [lg_entry_eq]
  have hts := atoms_spec (ws := Cond.codeWith y cc maxL (some .int) hh :: lw_all) B.pre
  exact h l E σ p e s m _ below meth c ⟨B.exec, B.bytes, hml, findClass_of_methodNamed B.named, fun w h => hts w (List.mem_cons_of_mem _ h), hX⟩ B.returns B.notSynchronized hst (vx_table (x := y) B (hts _ List.mem_cons_self)) o hg _ _ [] hl hP va_S.rf
section JL
variable {ρ : Type} {E : En} {nL : Nat} {p : Program} {l : Launch} {e : Env} {R : Room} {s : State} {m : MethodId} {args : Array Value} {below : List Frame} {meth : Method} {c : Code} {Q : ρ → State → Prop} {X Y Z : Option ρ} {pc : Nat} {L : List (Nat × Value)} {st st0 : List Value} {σ : Hp} {k n : Nat} {cc : ByteArray} {own : String}
theorem j_lconst (v : Int32) {i : Fin 2} (C : Cx E nL p s m args c cc own) (d : decode cc pc = .ok (.lconst i, 1)) (hv : Int64.ofNat (i : Nat) = v.toInt64) (kk : J E nL p l e R s m args below meth c Q X (pc + 1) L (.long v.toInt64 :: st) σ k n) : J E nL p l e R s m args below meth c Q X pc L st σ k n :=
  fun o ho ls H locs hl hP hS => lv_lconst C.1 C.2.1 d hv (kk o ho ls H locs hl hP hS)
theorem j_last {x : Int32} (C : Cx E nL p s m args c cc own) (d : decode cc pc = .ok (.lastore, 1)) (kk : J E nL p l e R s m args below meth c Q X (pc + 1) L st (sr σ 100 (upd (σ 100) 0 x)) k n) : J E nL p l e R s m args below meth c Q X pc L (.long x.toInt64 :: .int 0 :: .ref (ea E 100) :: st) σ k n :=
  fun o ho ls H locs hl hP hS => va_last C.1 C.2.1 C.2.2.2.2.2.1 hP (wd_D E C.2.2.2.2.2.2.1 σ _) hS 100 4 ((wd_get E σ (show 100 < NC by decide)).trans rfl) rfl (vib_in rfl) d
    (fun H1 locs1 hP1 _ hS1 => kk o ho ls H1 locs1 hl (by rw [← wd_set, ct_100, upd_wide]; exact hP1) hS1)
theorem j_lald (C : Cx E nL p s m args c cc own) (d : decode cc pc = .ok (.laload, 1)) (kk : J E nL p l e R s m args below meth c Q X (pc + 1) L (.long (σ 100 0).toInt64 :: st) σ k n) : J E nL p l e R s m args below meth c Q X pc L (.int 0 :: .ref (ea E 100) :: st) σ k n :=
  fun o ho ls H locs hl hP hS => va_lald C.1 C.2.1 C.2.2.2.2.2.1 hP 100 4 ((wd_get E σ (show 100 < NC by decide)).trans rfl) rfl (vib_in rfl) d (kk o ho ls H locs hl hP hS)
theorem j_lceq {x y : Int32} {off : Int} (tgt : Nat) (C : Cx E nL p s m args c cc own) (d : decode cc pc = .ok (.lcmp, 1)) (d1 : decode cc (pc + 1) = .ok (.ifCond .eq off, 3)) (ht : ((pc + 1 : Nat) : Int) + off = (tgt : Int)) (h1 : J E nL p l e R s m args below meth c Q Y tgt L st σ k n) (h2 : J E nL p l e R s m args below meth c Q Z (pc + 1 + 3) L st σ k n) : J E nL p l e R s m args below meth c Q (if x = y then Y else Z) pc L (.long y.toInt64 :: .long x.toInt64 :: st) σ k n :=
  j_ite (fun h o ho ls H locs hl hP hS => W.lcmp C.1 C.2.1 d (lv_if_eq C.1 C.2.1 d1 ht (fun _ => h1 o ho ls H locs hl hP hS) (fun q => absurd (by rw [h]; simp [lg_cmp]) q)))
    (fun h o ho ls H locs hl hP hS => W.lcmp C.1 C.2.1 d (lv_if_eq C.1 C.2.1 d1 ht (fun q => absurd q (by
      have hne : x.toInt64 ≠ y.toInt64 := fun e => h (wide_eq.mp e)
      exact lcmp_ne hne)) (fun _ => h2 o ho ls H locs hl hP hS)))
theorem j_astoreR {x : Nat} {i : Nat} (L' : List (Nat × Value)) (C : Cx E nL p s m args c cc own) (d : decode cc pc = .ok (.astore i, 2)) (hn : i < nL) (hL : (i, Value.ref x) :: ltf i L = L') (kk : J E nL p l e R s m args below meth c Q X (pc + 2) L' st σ k n) : J E nL p l e R s m args below meth c Q X pc L (.ref x :: st) σ k n :=
  fun o ho ls H locs hl hP hS => lv_astore C.1 C.2.1 d hl hn hL (fun ls' hl' => kk o ho ls' H locs hl' hP hS)
/-- with exception x thrown over the frame at pc -/
def JX (E : En) (nL : Nat) (p : Program) (l : Launch) (e : Env) (R : Room) (s : State) (m : MethodId) (args : Array Value) (below : List Frame) (meth : Method) (c : Code) (Q : ρ → State → Prop) (X : Option ρ) (x : Nat) (pc : Nat) (L : List (Nat × Value)) (st : List Value) (σ : Hp) (k n : Nat) : Prop :=
  ∀ o : ρ, X = some o → ∀ (ls : Array Slot) (H : Heap) (locs : List Loc) (q : Addr) (ce : Cell), lv_has ls nL L → va_P (eD E) classes (wd E σ) H → va_S (AA E s.heap.size) s.heap H locs → H[q]? = some ce → ce.vm = .none → s.vm.findClass (exN x) = some ce.cls → vx_W p l e R s m args below meth c H locs k n (Q o) (F0 m pc ls st) q
theorem jx_none {x : Nat} : JX E nL p l e R s m args below meth c Q none x pc L st σ k n := fun o h => nomatch h
theorem jx_ite {x i : Nat} (h1 : x = i → JX E nL p l e R s m args below meth c Q Y x pc L st σ k n) (h2 : ¬ x = i → JX E nL p l e R s m args below meth c Q Z x pc L st σ k n) : JX E nL p l e R s m args below meth c Q (if x = i then Y else Z) x pc L st σ k n := by
  by_cases h : x = i
  · rw [if_pos h]; exact h1 h
  · rw [if_neg h]; exact h2 h
/-- the rows of the table ahead of the one that catches: each names another class -/
def Pass (s : State) (args : Array Value) (own : String) (x : Nat) (z : ExceptionTableEntry) : Prop := z.catchType ≠ 0 ∧ ∃ nm : String, (Cond.classLink own z.catchType nm).before args s = true ∧ va_Nc (exN x) nm s
theorem pass_of {x y ci : Nat} {z : ExceptionTableEntry} (C : Cx E nL p s m args c cc own) (hz : z.catchType = ci) (h0 : ci ≠ 0) (hl : Cond.classLink own ci (exN y) ∈ lw_all) (hx : exN x ∈ excs ∧ exN y ∈ excs ∧ exN x ≠ exN y) : Pass s args own x z :=
  ⟨by rw [hz]; exact h0, exN y, by rw [hz]; exact C.2.2.2.2.1 _ hl, C.2.2.2.2.2.2.2.2.1.2 _ hx.1 _ hx.2.1 hx.2.2⟩
theorem j_catch {x : Nat} {hh : List (Nat × Nat × Nat × Nat)} (C : Cx E nL p s m args c cc own) (htab : c.exceptionTable.toList = tableOf hh) (pre : List ExceptionTableEntry) (z : ExceptionTableEntry) (suf : List ExceptionTableEntry) (hsp : tableOf hh = pre ++ z :: suf) (hpass : ∀ w ∈ pre, Pass s args own x w) (hc : covers z pc = true) (h0 : z.catchType ≠ 0) (hl : Cond.classLink own z.catchType (exN x) ∈ lw_all) (hca : Cond.castable (exN x) (exN x) ∈ faceL)
    (kk : ∀ q : Nat, J E nL p l e R s m args below meth c Q X z.handlerPc L [.ref q] σ k n) : JX E nL p l e R s m args below meth c Q X x pc L st σ k n :=
  fun o ho ls H locs q ce hl' hP hS hcell hv hcl => vx_catch C.2.2.2.1 pre z suf (htab.trans hsp) (fun w hw => Or.inr (hpass w hw)) hc h0 (C.2.2.2.2.1 _ hl) (face_use C.2.2.2.2.2.2.2.2.1 hca) hcell hv hcl (kk q o ho ls H locs hl' hP hS)
variable {y : MethodName} {cy : ByteArray} {maxL : Nat} {ret : FieldType} {rm : Room} {vs : En → List Value} {idx : Nat} {q ci N0 : Nat} {T0 : u_T} {fs : List Value}
theorem j_callHVI {g : Hp → Option ((Int32 ⊕ Nat) × Hp)} {F : Int32 → Hp → Option ρ} {G : Nat → Hp → Option ρ} (As : List Value) (con : CoXI y cy maxL ret rm vs g) (C : Cx E nL p s m args c cc own) (hT : l.stackTraces = false) (M : Mi y cy maxL (some ret) As.length) (V : Mv y) (hl : Cond.methodLink own idx y ∈ lw_all) (hq : q < NC) (he : ct E q (σ q) = .inr (ci, fs)) (hc : classes[ci]? = some (y.cls, T0, N0)) (hv : vs E = .ref (ea E q) :: As) (hst : st0 = As.reverse ++ .ref (ea E q) :: st) (hR : Rm rm maxL R st k n) (d : decode cc pc = .ok (.invokevirtual idx, 3))
    (kx : ∀ (x : Nat) (σ1 : Hp), JX E nL p l e R s m args below meth c Q (G x σ1) x pc L st σ1 (k + rm.cells) (n + rm.slots))
    (kk : ∀ (r : Int32) (σ1 : Hp), J E nL p l e R s m args below meth c Q (F r σ1) (pc + 3) L (.int r :: st) σ1 (k + rm.cells) (n + rm.slots)) : J E nL p l e R s m args below meth c Q (bh (g σ) F G) pc L st0 σ k n := by
  intro o ho ls H locs hl' hP hS
  obtain ⟨o', hg, hY⟩ := bh_some ho
  refine vx_calli (vx_runV (As := As) (rest := st) ⟨C.1, C.2.1, C.2.2.1, C.2.2.2.1, C.2.2.2.2.1⟩ (con l hT E σ _ H.size hg) (cw_of C M V hl hR) (preV_of (σ' := σ) C hP hS hq he hc hv) rfl rfl hl'.1 hst (lv_room hR.2.2.2.2) d ⟨hR.2.2.1, hR.2.2.2.1⟩) hS (aSub hS.1) (aUp hS.1) (aSub hS.1) (fun E' ce q9 u t H1 locs1 h1 hvm hw hB hz hk1 hS1 hce hcv hcl => ?_) (fun r u t H1 locs1 h1 hvm hw hB hz hk1 hS1 => ?_)
  · obtain ⟨⟨x, hx, hE⟩, hB⟩ := hB
    rcases hY with ⟨a, ha, -⟩ | ⟨x', hx', hZ⟩
    · rw [hx] at ha; cases ha
    · rw [hx] at hx'; cases hx'
      subst hE
      exact kx x o'.2 o hZ ls H1 locs1 q9 ce hl' (by rw [← h1]; exact hB) hS1 hce hcv hcl
  · rcases hY with ⟨a, ha, hY⟩ | ⟨x', hx', -⟩
    · rw [hw] at ha; cases ha
      exact kk _ o'.2 o hY ls H1 locs1 hl' (by rw [← h1]; exact hB) hS1
    · rw [hw] at hx'; cases hx'
theorem cs_of {hh : List (Nat × Nat × Nat × Nat)} {n0 : Nat} (C : Cx E nL p s m args c cc own) (M : MiW y cy maxL hh n0) (V : Cond.static y ∈ lw_all) (hl : Cond.methodLink own idx y ∈ lw_all) (hR : Rm rm maxL R st k n) : vx_CSW R s args own idx y cy maxL (some .int) hh (Cond.codeWith y cy maxL (some .int) hh :: lw_all) rm rm.cells rm.slots n0 := by
  refine ⟨⟨rfl, rfl, hR.1, hR.2.1, pay_in C.2.2.2.2.1 (good_cons M.1), List.mem_cons_self⟩, C.2.2.2.2.1 _ M.1, C.2.2.2.2.1 _ M.2.1, ⟨M.2.2.1, M.2.2.2.1⟩, fun sig h => ?_, C.2.2.2.2.1 _ hl, C.2.2.2.2.1 _ V⟩
  have h2 := M.2.2.2.2
  rw [h] at h2
  exact (Option.some.inj h2).symm
theorem j_callWI {hh : List (Nat × Nat × Nat × Nat)} {g : Hp → Option (Int32 × Hp)} {F : Int32 → Hp → Option ρ} (As : List Value) (con : CoWI y cy maxL hh rm vs g) (C : Cx E nL p s m args c cc own) (hT : l.stackTraces = false) (M : MiW y cy maxL hh As.length) (V : Cond.static y ∈ lw_all) (hl : Cond.methodLink own idx y ∈ lw_all) (hv : vs E = As) (hst : st0 = As.reverse ++ st) (hR : Rm rm maxL R st k n) (d : decode cc pc = .ok (.invokestatic idx, 3))
    (kk : ∀ (r : Int32) (σ1 : Hp), J E nL p l e R s m args below meth c Q (F r σ1) (pc + 3) L (.int r :: st) σ1 (k + rm.cells) (n + rm.slots)) : J E nL p l e R s m args below meth c Q (bd (g σ) F) pc L st0 σ k n := by
  intro o ho ls H locs hl' hP hS
  obtain ⟨r0, σ1, hg, hY⟩ := bd_some ho
  refine va_calli (vx_runSW (As := As) (rest := st) ⟨C.1, C.2.1, C.2.2.1, C.2.2.2.1, C.2.2.2.2.1⟩ (con l hT E σ _ H.size hg) (cs_of C M V hl hR) (preS_of C hP hS hv) rfl rfl hl'.1 hst (lv_room hR.2.2.2.2) d ⟨hR.2.2.1, hR.2.2.2.1⟩) hS (aSub hS.1) (aUp hS.1) (fun r u t H1 locs1 ht hvm hw hB hz hk1 hS1 => ?_)
  subst hw
  exact kk _ σ1 o hY ls H1 locs1 hl' (by rw [← ht]; exact hB) hS1
end JL
