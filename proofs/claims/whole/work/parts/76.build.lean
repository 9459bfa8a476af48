/-! the constructors: a world that grows, the object under construction in front -/
def tysN (cA : Nat → ClassId) : List (ClassId × FieldType) := [(cA 0, .int), (cA 1, .boolean), (cA 2, .char), (cA 3, .object "NewspaperMakeup$Edition"), (cA 4, .long), (cA 5, .double)]
def KN (G : va_G) (cA : Nat → ClassId) (U : State) : Prop := va_K G classes (tysN cA) U ∧ NW U ∧ va_AO "NewspaperMakeup$Edition" U
def Cn (G : va_G) (cA : Nat → ClassId) (A : Nat → Prop) (nL : Nat) (p : Program) (s : State) (m : MethodId) (args : Array Value) (c : Code) (cc : ByteArray) (own : String) : Prop :=
  p.tables.exec = Jvm.exec ∧ c.code = cc ∧ c.maxLocals = nL ∧ s.vm.findClass own = some m.cls ∧ (∀ w ∈ lw_all, w.before args s = true) ∧ KN G cA s ∧ (∀ q, s.heap.size ≤ q → A q)
def JN (G : va_G) (A : Nat → Prop) (nL : Nat) (p : Program) (l : Launch) (e : Env) (R : Room) (s : State) (m : MethodId) (args : Array Value) (below : List Frame) (meth : Method) (c : Code) (Q : State → Prop) (ws : va_W) (pc : Nat) (L : List (Nat × Value)) (st : List Value) (k n : Nat) : Prop :=
  ∀ (ls : Array Slot) (H : Heap) (locs : List Loc), lv_has ls nL L → va_P G classes ws H → va_D A ws → va_S A s.heap H locs → W p l e R s m args below meth c H locs k n Q (F0 m pc ls st)
theorem KN.calling {G : va_G} {cA : Nat → ClassId} {U : State} {g : JFrame} {mk : MethodId} {a : Array Value} (h : KN G cA U) : KN G cA (U.calling g mk a) :=
  ⟨va_K.moved (u := U) (U := U.calling g mk a) (Vm.Alike.refl U.vm) h.1, NW.same (u := U) (U := U.calling g mk a) rfl h.2.1, va_AO.moved (u := U) (U := U.calling g mk a) (Vm.Alike.refl U.vm) h.2.2⟩
theorem KN.warm {G : va_G} {cA : Nat → ClassId} {s U : State} (hW : s.WarmedH U.vm) (h : KN G cA s) : KN G cA U :=
  ⟨va_K.moved hW.alike h.1, NW.warm hW h.2.1, va_AO.moved hW.alike h.2.2⟩
/-- a constructor's contract: of the new object alone, its group behind -/
def ConN (y : MethodName) (cc : ByteArray) (maxL : Nat) (rm : Room) (As : List Value) (ci : Nat) (fs0 : List Value) (grp : (Nat → ClassId) → (Nat → Nat) → va_W) : Prop :=
  ∀ (l : Launch) (G : va_G) (cA : Nat → ClassId) (h0 sz : Nat), Met l y (Cond.code y cc maxL none :: lw_all) rm (va_Pc (.ref h0 :: As) (fun U => U.heap.size = sz ∧ va_P G classes [(h0, .inr (ci, fs0))] U.heap ∧ KN G cA U)) (va_Qv (fun a : Nat → Nat => a 0 = h0) (fun a t => va_P G classes (grp cA a) t.heap ∧ va_D (va_A [(h0, .inr (ci, fs0))] sz) (grp cA a)) (va_A [(h0, .inr (ci, fs0))] sz)) rm.cells rm.slots (va_A [(h0, .inr (ci, fs0))] sz)
theorem conN_of {y : MethodName} {cc : ByteArray} {maxL : Nat} {rm : Room} {As : List Value} {ci : Nat} {fs0 : List Value} {grp : (Nat → ClassId) → (Nat → Nat) → va_W} {L : Nat → List (Nat × Value)} (hy : plainName y.cls = true) (hlen : ∀ h0 : Nat, (lg_sl (.ref h0 :: As)).length ≤ maxL) (hL : ∀ h0, lv_args 0 (.ref h0 :: As) = L h0)
    (h : ∀ (l : Launch) (G : va_G) (cA : Nat → ClassId) (h0 : Nat) (A : Nat → Prop) (p : Program) (e : Env) (s : State) (m : MethodId) (args : Array Value) (below : List Frame) (meth : Method) (c : Code), A = va_A [(h0, .inr (ci, fs0))] s.heap.size → Cn G cA A maxL p s m args c cc y.cls → meth.sig.returnType = none → meth.locks = false → meth.name = y.name → JN G A maxL p l e rm s m args below meth c (MQ below (va_Qv (fun a : Nat → Nat => a 0 = h0) (fun a t => va_P G classes (grp cA a) t.heap ∧ va_D A (grp cA a)) A) args s rm.cells rm.slots A) [(h0, .inr (ci, fs0))] 0 (L h0) [] 0 0) : ConN y cc maxL rm As ci fs0 grp := by
  intro l G cA h0 sz
  refine Met.ofW (cc := cc) (maxL := maxL) (ret := none) hy rfl ?_
  intro p e s m args below meth c s₁ B hml hv
  obtain ⟨rfl, hsz, hP, hK⟩ := hv
  subst hsz
  have hl := lv_entry (.ref h0 :: As) (n := maxL) (hlen h0)
  rw [hL] at hl
  rw [lg_entry_eq]
  have hts := atoms_spec (ws := Cond.code y cc maxL none :: lw_all) B.pre
  have hD : va_D (va_A [(h0, .inr (ci, fs0))] s.heap.size) [(h0, .inr (ci, fs0))] := by
    refine ⟨fun i j p q hi hj _ => ?_, fun k q hk => va_A.in hk⟩
    have h1 := (List.getElem?_eq_some_iff.mp hi).1
    have h2 := (List.getElem?_eq_some_iff.mp hj).1
    simp at h1 h2
    omega
  exact h l G cA h0 _ p e s m _ below meth c rfl ⟨B.exec, B.bytes, hml, findClass_of_methodNamed B.named, fun w hw => hts w (List.mem_cons_of_mem _ hw), hK, fun q hq => Or.inr hq⟩ B.returns B.notSynchronized (name_of_methodNamed B.named B.method).1 _ _ [] hl hP hD va_S.rf
section NR
variable {G : va_G} {cA : Nat → ClassId} {A : Nat → Prop} {nL : Nat} {p : Program} {l : Launch} {e : Env} {R : Room} {s : State} {m : MethodId} {args : Array Value} {below : List Frame} {meth : Method} {c : Code} {Q : State → Prop} {ws rest : va_W} {pc : Nat} {L : List (Nat × Value)} {st : List Value} {k n : Nat} {cc : ByteArray} {own : String}
theorem n_aload_n {x : Nat} (a : Nat) {i : Nat} {f : Fin 4} (C : Cn G cA A nL p s m args c cc own) (d : decode cc pc = .ok (.aload_n f, 1)) (hi : (f : Nat) = i) (hL : L[a]? = some (i, .ref x)) (kk : JN G A nL p l e R s m args below meth c Q ws (pc + 1) L (.ref x :: st) k n) : JN G A nL p l e R s m args below meth c Q ws pc L st k n :=
  fun ls H locs hl hP hD hS => lv_aload_n C.1 C.2.1 d hi (lv_at hl a hL) (kk ls H locs hl hP hD hS)
theorem n_iload_n {x : Int32} (a : Nat) {i : Nat} {f : Fin 4} (C : Cn G cA A nL p s m args c cc own) (d : decode cc pc = .ok (.iload_n f, 1)) (hi : (f : Nat) = i) (hL : L[a]? = some (i, .int x)) (kk : JN G A nL p l e R s m args below meth c Q ws (pc + 1) L (.int x :: st) k n) : JN G A nL p l e R s m args below meth c Q ws pc L st k n :=
  fun ls H locs hl hP hD hS => lv_iload_n C.1 C.2.1 d hi (lv_at hl a hL) (kk ls H locs hl hP hD hS)
theorem n_istore_n {x : Int32} {i : Nat} {f : Fin 4} (L' : List (Nat × Value)) (C : Cn G cA A nL p s m args c cc own) (d : decode cc pc = .ok (.istore_n f, 1)) (hi : (f : Nat) = i) (hn : i < nL) (hL : (i, Value.int x) :: ltf i L = L') (kk : JN G A nL p l e R s m args below meth c Q ws (pc + 1) L' st k n) : JN G A nL p l e R s m args below meth c Q ws pc L (.int x :: st) k n :=
  fun ls H locs hl hP hD hS => lv_istore_n C.1 C.2.1 d hi hl hn hL (fun ls' hl' => kk ls' H locs hl' hP hD hS)
theorem n_iconst {v : Int32} (i : Int) (C : Cn G cA A nL p s m args c cc own) (d : decode cc pc = .ok (.iconst i, 1)) (hv : Int32.ofInt i = v) (kk : JN G A nL p l e R s m args below meth c Q ws (pc + 1) L (.int v :: st) k n) : JN G A nL p l e R s m args below meth c Q ws pc L st k n :=
  fun ls H locs hl hP hD hS => lv_iconst C.1 C.2.1 d hv (kk ls H locs hl hP hD hS)
theorem n_bipush {v : Int32} (i : Int) (C : Cn G cA A nL p s m args c cc own) (d : decode cc pc = .ok (.bipush i, 2)) (hv : (Int8.ofInt i).toInt32 = v) (kk : JN G A nL p l e R s m args below meth c Q ws (pc + 2) L (.int v :: st) k n) : JN G A nL p l e R s m args below meth c Q ws pc L st k n :=
  fun ls H locs hl hP hD hS => lv_bipush C.1 C.2.1 d hv (kk ls H locs hl hP hD hS)
theorem n_sipush {v : Int32} (i : Int) (C : Cn G cA A nL p s m args c cc own) (d : decode cc pc = .ok (.sipush i, 3)) (hv : (Int16.ofInt i).toInt32 = v) (kk : JN G A nL p l e R s m args below meth c Q ws (pc + 3) L (.int v :: st) k n) : JN G A nL p l e R s m args below meth c Q ws pc L st k n :=
  fun ls H locs hl hP hD hS => lv_sipush C.1 C.2.1 d hv (kk ls H locs hl hP hD hS)
theorem n_dup {v : Value} (C : Cn G cA A nL p s m args c cc own) (d : decode cc pc = .ok (.dup, 1)) (hc : v.category = 1) (kk : JN G A nL p l e R s m args below meth c Q ws (pc + 1) L (v :: v :: st) k n) : JN G A nL p l e R s m args below meth c Q ws pc L (v :: st) k n :=
  fun ls H locs hl hP hD hS => lv_dup C.1 C.2.1 d hc (kk ls H locs hl hP hD hS)
theorem n_goto {off : Int} (tgt : Nat) (C : Cn G cA A nL p s m args c cc own) (d : decode cc pc = .ok (.goto off, 3)) (ht : (pc : Int) + off = (tgt : Int)) (kk : JN G A nL p l e R s m args below meth c Q ws tgt L st k n) : JN G A nL p l e R s m args below meth c Q ws pc L st k n :=
  fun ls H locs hl hP hD hS => lv_goto C.1 C.2.1 d ht (kk ls H locs hl hP hD hS)
theorem n_iinc {x v : Int32} (a : Nat) {i : Nat} (z : Int32) (dd : Int) (L' : List (Nat × Value)) (C : Cn G cA A nL p s m args c cc own) (d : decode cc pc = .ok (.iinc i dd, 3)) (hL : L[a]? = some (i, .int x)) (hz : Int32.ofInt dd = z) (hv : x + z = v) (hn : i < nL) (hL' : (i, Value.int v) :: ltf i L = L') (kk : JN G A nL p l e R s m args below meth c Q ws (pc + 3) L' st k n) : JN G A nL p l e R s m args below meth c Q ws pc L st k n :=
  fun ls H locs hl hP hD hS => lv_iinc (v := v) (lv' := L') C.1 C.2.1 d hl (k := a) hL (by rw [hz]; exact hv) hn hL' (fun ls' hl' => kk ls' H locs hl' hP hD hS)
theorem n_geN {x y : Int32} {off : Int} (tgt : Nat) (C : Cn G cA A nL p s m args c cc own) (d : decode cc pc = .ok (.if_icmp .ge off, 3)) (ht : (pc : Int) + off = (tgt : Int)) (h : ¬ y ≤ x) (kk : JN G A nL p l e R s m args below meth c Q ws (pc + 3) L st k n) : JN G A nL p l e R s m args below meth c Q ws pc L (.int y :: .int x :: st) k n :=
  fun ls H locs hl hP hD hS => lv_icmp_ge C.1 C.2.1 d ht (fun q => absurd q h) (fun _ => kk ls H locs hl hP hD hS)
theorem n_geY {x y : Int32} {off : Int} (tgt : Nat) (C : Cn G cA A nL p s m args c cc own) (d : decode cc pc = .ok (.if_icmp .ge off, 3)) (ht : (pc : Int) + off = (tgt : Int)) (h : y ≤ x) (kk : JN G A nL p l e R s m args below meth c Q ws tgt L st k n) : JN G A nL p l e R s m args below meth c Q ws pc L (.int y :: .int x :: st) k n :=
  fun ls H locs hl hP hD hS => lv_icmp_ge C.1 C.2.1 d ht (fun _ => kk ls H locs hl hP hD hS) (fun q => absurd h q)
theorem n_objInit {idx a : Nat} (C : Cn G cA A nL p s m args c cc own) (h : Cond.methodLink own idx Lib.objectInit ∈ lw_all ∧ Cond.instanceMethod Lib.objectInit ∈ lw_all ∧ Cond.code Lib.objectInit ⟨#[0xb1]⟩ 1 none ∈ lw_all) (hR : 1 ≤ R.frames ∧ 12 ≤ R.locals) (d : decode cc pc = .ok (.invokespecial idx, 3)) (kk : JN G A nL p l e R s m args below meth c Q ws (pc + 3) L [] k n) : JN G A nL p l e R s m args below meth c Q ws pc L [.ref a] k n := by
  intro ls H locs hl hP hD hS
  refine W.objInit C.1 C.2.1 C.2.2.2.1 (C.2.2.2.2.1 _ h.1) (C.2.2.2.2.1 _ h.2.1) (C.2.2.2.2.1 _ h.2.2) rfl (hl.1.trans C.2.2.1.symm) rfl d hR.1 (by simpa using hR.2) ?_
  exact W.eq (g2 := F0 m (pc + 3) ls []) rfl (kk ls H locs hl hP hD hS)
theorem n_newarr (t0 : Nat) {atype : ArrayType} {ty : FieldType} {nn : Int32} {N' : Nat} {a0 : vp_A} {W1 : Nat → va_W} (C : Cn G cA A nL p s m args c cc own) (harr : Cond.arrayClass (newarray.typeOf atype) ∈ lw_all) (hty : newarray.typeOf atype = ty) (ht : (tysN cA)[t0]? = some (cA t0, ty)) (hra : ∀ c1 : ClassId, va_RA s c1 ty → s.vm.findClass ("[" ++ ty.toString) = some c1) (ha : ∀ c1 : ClassId, vp_cell c1 a0 = arrV c1 N' (fun _ => defaultValue ty)) (hn : ¬ nn < 0) (hN : nn.toNatClampNeg = N') (hbytes : N' * componentBytes ty ≤ 536870912) (hcells : k + 1 ≤ R.cells) (hslots : n + N' ≤ R.slots) (d : decode cc pc = .ok (.newarray atype, 2)) (hW : ∀ q, W1 q = ws ++ [(q, .inl (cA t0, a0))])
    (kk : ∀ q, JN G A nL p l e R s m args below meth c Q (W1 q) (pc + 2) L (.ref q :: st) (k + 1) (n + N')) : JN G A nL p l e R s m args below meth c Q ws pc L (.int nn :: st) k n := by
  intro ls H locs hl hP hD hS
  refine va_newa C.1 C.2.1 (C.2.2.2.2.1 _ harr) hty C.2.2.2.2.2.1.1 hP hD hS C.2.2.2.2.2.2 ha hn hN hbytes hcells hslots d (fun q c1 H1 hK1 hP1 hD1 hS1 => ?_)
  have e : c1 = cA t0 := by
    have h1 := (hK1.2 (tysN cA).length (c1, ty) (by rw [List.getElem?_append_right (Nat.le_refl _), Nat.sub_self]; rfl)).2
    have h2 := (C.2.2.2.2.2.1.1.2 t0 _ ht).2
    exact Option.some.inj ((hra _ h1).symm.trans (hra _ h2))
  subst e
  exact kk q ls H1 locs hl (by rw [hW]; exact hP1) (by rw [hW]; exact hD1) hS1
theorem n_newq {idx : Nat} {nn : Int32} {N' : Nat} {W1 : Nat → va_W} (C : Cn G cA A nL p s m args c cc own) (hcl : Cond.classLink own idx "NewspaperMakeup$Edition" ∈ lw_all) (hn : ¬ nn < 0) (hN : nn.toNatClampNeg = N') (hbytes : N' * 4 ≤ 536870912) (hcells : k + 1 ≤ R.cells) (hslots : n + N' ≤ R.slots) (d : decode cc pc = .ok (.anewarray idx, 3)) (hW : ∀ q, W1 q = ws ++ [(q, .inl (cA 3, N', .inr (.inr (.inr (.inr (fun _ => none))))))])
    (kk : ∀ q, JN G A nL p l e R s m args below meth c Q (W1 q) (pc + 3) L (.ref q :: st) (k + 1) (n + N')) : JN G A nL p l e R s m args below meth c Q ws pc L (.int nn :: st) k n := by
  intro ls H locs hl hP hD hS
  refine va_newq C.1 C.2.1 C.2.2.2.1 (C.2.2.2.2.1 _ hcl) C.2.2.2.2.2.1.2.2 C.2.2.2.2.2.1.1 hP hD hS C.2.2.2.2.2.2 hn hN hbytes hcells hslots d (fun q c1 H1 hK1 hP1 hD1 hS1 => ?_)
  have e : c1 = cA 3 := by
    obtain ⟨_, _, _, _, _, h1⟩ := (hK1.2 (tysN cA).length (c1, .object "NewspaperMakeup$Edition") (by rw [List.getElem?_append_right (Nat.le_refl _), Nat.sub_self]; rfl)).2
    obtain ⟨_, _, _, _, _, h2⟩ := (C.2.2.2.2.2.1.1.2 3 (cA 3, .object "NewspaperMakeup$Edition") rfl).2
    exact Option.some.inj (h1.symm.trans h2)
  subst e
  exact kk q ls H1 locs hl (by rw [hW]; exact hP1) (by rw [hW]; exact hD1) hS1
theorem n_putR {idx C0 T N ci ty} (j : Nat) {h0 : Nat} {fs : List Value} {v : Value} {fty : FieldType} (C : Cn G cA A nL p s m args c cc own) (F : Fl own idx C0 T N ci ty j) (hfin : (T j).2.2.2 = true) (hin : meth.name = "<init>") (hdecl : (T j).1 = own) (hd : parseFieldDescriptor (T j).2.2.1 = some fty) (hn : narrow fty v = v) (hfit : Jvm.fits fty v = true) (hlt : j < fs.length) (d : decode cc pc = .ok (.putfield idx, 3)) (kk : JN G A nL p l e R s m args below meth c Q ((h0, .inr (ci, fs.set j v)) :: rest) (pc + 3) L st k n) : JN G A nL p l e R s m args below meth c Q ((h0, .inr (ci, fs)) :: rest) pc L (v :: .ref h0 :: st) k n :=
  fun ls H locs hl hP hD hS => va_putF C.1 C.2.1 C.2.2.2.2.1 F.1.1 ty F.1.2.2.1 F.1.2.2.2 C.2.2.2.1 C.2.2.2.2.2.1.1 hP hD hS 0 rfl F.1.2.1 j F.2.1 (C.2.2.2.2.1 _ F.2.2) (fun _ h9 => h9) hfin hin hdecl hd hn hfit hlt d (fun H1 locs1 hP1 hD1 hS1 => kk ls H1 locs1 hl hP1 hD1 hS1)
theorem n_putI {idx C0 T N ci ty} (j : Nat) {h0 : Nat} {fs : List Value} {v : Int32} (C : Cn G cA A nL p s m args c cc own) (F : Fl own idx C0 T N ci ty j) (hf : (T j).2.2.2 = false) (hn : narrow (ty j) (.int v) = .int v) (hfit : Jvm.fits (ty j) (.int v) = true) (hlt : j < fs.length) (d : decode cc pc = .ok (.putfield idx, 3)) (kk : JN G A nL p l e R s m args below meth c Q ((h0, .inr (ci, fs.set j (.int v))) :: rest) (pc + 3) L st k n) : JN G A nL p l e R s m args below meth c Q ((h0, .inr (ci, fs)) :: rest) pc L (.int v :: .ref h0 :: st) k n :=
  fun ls H locs hl hP hD hS => va_put C.1 C.2.1 C.2.2.2.2.1 F.1.1 ty F.1.2.2.1 F.1.2.2.2 C.2.2.2.1 C.2.2.2.2.2.1.1 hP hD hS 0 rfl F.1.2.1 j F.2.1 (C.2.2.2.2.1 _ F.2.2) (fun _ h9 => h9) hf (F.1.2.2.1 j F.2.1) hn hfit hlt d (fun H1 locs1 hP1 hD1 hS1 => kk ls H1 locs1 hl hP1 hD1 hS1)
theorem n_get {idx C0 T N ci ty} (j : Nat) {h0 : Nat} {fs : List Value} {v : Value} (C : Cn G cA A nL p s m args c cc own) (F : Fl own idx C0 T N ci ty j) (hv : fs[j]? = some v) (d : decode cc pc = .ok (.getfield idx, 3)) (kk : JN G A nL p l e R s m args below meth c Q ((h0, .inr (ci, fs)) :: rest) (pc + 3) L (v :: st) k n) : JN G A nL p l e R s m args below meth c Q ((h0, .inr (ci, fs)) :: rest) pc L (.ref h0 :: st) k n :=
  fun ls H locs hl hP hD hS => va_get C.1 C.2.1 C.2.2.2.2.1 F.1.1 C.2.2.2.1 C.2.2.2.2.2.1.1 hP 0 rfl F.1.2.1 j F.2.1 (C.2.2.2.2.1 _ F.2.2) (fun _ h9 => h9) hv d (kk ls H locs hl hP hD hS)
/-- a nest mate's field, of an object further down -/
theorem n_getN {idx C0 T N ci ty} {host : String} (j q0 : Nat) {x : Nat} {fs : List Value} {v : Value} (C : Cn G cA A nL p s m args c cc own) (K : Kc C0 T N ci ty) (hj : j < N) (hlk : (own, idx, (T j).1, (T j).2.1, (T j).2.2.1, host) ∈ nestF) (he : ws[q0]? = some (x, .inr (ci, fs))) (hv : fs[j]? = some v) (d : decode cc pc = .ok (.getfield idx, 3)) (kk : JN G A nL p l e R s m args below meth c Q ws (pc + 3) L (v :: st) k n) : JN G A nL p l e R s m args below meth c Q ws pc L (.ref x :: st) k n :=
  fun ls H locs hl hP hD hS => va_getN C.1 C.2.1 C.2.2.2.2.1 K.1 C.2.2.2.1 C.2.2.2.2.2.1.1 hP q0 he K.2.1 j hj (va_Nw.use rfl (C.2.2.2.2.2.1.2.1.2 _ hlk)) (fun _ h9 => h9) hv d (kk ls H locs hl hP hD hS)
theorem n_new {idx ci : Nat} {C0 : String} {T : u_T} {N : Nat} {ty : Nat → FieldType} {fs : List Value} {W1 : Nat → va_W} (C : Cn G cA A nL p s m args c cc own) (Kc0 : Kc C0 T N ci ty) (h : Cond.classLink own idx C0 ∈ lw_all ∧ Cond.instantiable C0 N ∈ lw_all ∧ Cond.initialized C0 ∈ lw_all) (hfs : ∀ j, j < N → defaultValue (ty j) = vp_V fs j) (hcells : k + 1 ≤ R.cells) (hslots : n + N ≤ R.slots) (d : decode cc pc = .ok (.new idx, 3)) (hW : ∀ q, W1 q = ws ++ [(q, .inr (ci, fs))])
    (kk : ∀ q, JN G A nL p l e R s m args below meth c Q (W1 q) (pc + 3) L (.ref q :: st) (k + 1) (n + N)) : JN G A nL p l e R s m args below meth c Q ws pc L st k n :=
  fun ls H locs hl hP hD hS => va_new C.1 C.2.1 C.2.2.2.2.1 Kc0.1 ty Kc0.2.2.1 C.2.2.2.1 (C.2.2.2.2.1 _ h.1) (C.2.2.2.2.1 _ h.2.1) (C.2.2.2.2.1 _ h.2.2) C.2.2.2.2.2.1.1 hP hD hS C.2.2.2.2.2.2 Kc0.2.1 hfs hcells hslots d (fun q H1 hP1 hD1 hS1 => kk q ls H1 locs hl (by rw [hW]; exact hP1) (by rw [hW]; exact hD1) hS1)
theorem n_aast {i : Int32} {x : Nat × va_E} {arr v : Nat} {f : Nat → Option Nat} {vs : List Value} (qk : Nat) (C : Cn G cA A nL p s m args c cc own) (hv : (x :: (arr, Sum.inl (cA 3, 8, .inr (.inr (.inr (.inr f))))) :: rest)[qk]? = some (v, .inr (1, vs))) (hin : vp_in i 8) (d : decode cc pc = .ok (.aastore, 1)) (kk : JN G A nL p l e R s m args below meth c Q (x :: (arr, .inl (cA 3, 8, .inr (.inr (.inr (.inr (va_up f i.toNatClampNeg (some v))))))) :: rest) (pc + 1) L st k n) : JN G A nL p l e R s m args below meth c Q (x :: (arr, .inl (cA 3, 8, .inr (.inr (.inr (.inr f))))) :: rest) pc L (.ref v :: .int i :: .ref arr :: st) k n :=
  fun ls H locs hl hP hD hS => va_astq C.1 C.2.1 C.2.2.2.2.2.1.1 hP hD hS 1 3 qk 1 rfl rfl hv rfl hin d (fun H1 locs1 hP1 hD1 hS1 => kk ls H1 locs1 hl hP1 hD1 hS1)
/-- behind a constructor's call -/
theorem n_join {q ci : Nat} {fs0 : List Value} {ws w1 : va_W} {H H1 : Heap} {s : State} {locs : List Loc} (hA : ∀ q, s.heap.size ≤ q → A q) (hP : va_P G classes (ws ++ [(q, .inr (ci, fs0))]) H) (hD : va_D A (ws ++ [(q, .inr (ci, fs0))])) (hS : va_S A s.heap H locs) (hk : ∀ x : Nat, x < H.size → ¬ va_A [(q, .inr (ci, fs0))] H.size x → H1[x]? = H[x]?) (hP1 : va_P G classes w1 H1) (hD1 : va_D (va_A [(q, .inr (ci, fs0))] H.size) w1) : va_P G classes (ws ++ w1) H1 ∧ va_D A (ws ++ w1) := by
  have lst : ∀ (i : Nat) (x : Nat × va_E), ws[i]? = some x → (ws ++ [(q, .inr (ci, fs0))])[i]? = some x := fun i x hx => by
    rw [List.getElem?_append_left (List.getElem?_eq_some_iff.mp hx).1]
    exact hx
  have own : (ws ++ [(q, .inr (ci, fs0))])[ws.length]? = some (q, .inr (ci, fs0)) := by
    rw [List.getElem?_append_right (Nat.le_refl _), Nat.sub_self]
    rfl
  have hPw : va_P G classes ws H := fun i x hx => hP i x (lst i x hx)
  have hDw : va_D A ws := ⟨fun i j x y hx hy e => hD.1 i j x y (lst i x hx) (lst j y hy) e, fun i x hx => hD.2 i x (lst i x hx)⟩
  have out : ∀ (i : Nat) (x : Nat × va_E), ws[i]? = some x → x.1 < H.size ∧ ¬ va_A [(q, .inr (ci, fs0))] H.size x.1 := fun i x hx => by
    have h1 := (hPw i x hx).lt
    refine ⟨h1, fun h => ?_⟩
    rcases h with ⟨j, e, h⟩ | h
    · have hj := (List.getElem?_eq_some_iff.mp h).1
      simp at hj
      subst hj
      have e1 : x.1 = q := by
        have := Option.some.inj (show some (q, Sum.inr (ci, fs0)) = some (x.1, e) from h)
        exact (congrArg Prod.fst this).symm
      have := hD.1 i ws.length x _ (lst i x hx) own e1
      have := (List.getElem?_eq_some_iff.mp hx).1
      omega
    · omega
  refine ⟨(hPw.kept (fun i x hx => hk x.1 (out i x hx).1 (out i x hx).2)).app hP1, hDw.app (hD1.weaken (fun i x hx h => ?_)) (fun i j x y hx hy e => ?_)⟩
  · rcases h with ⟨j, e, h⟩ | h
    · have hj := (List.getElem?_eq_some_iff.mp h).1
      simp at hj
      subst hj
      have := Option.some.inj (show some (q, Sum.inr (ci, fs0)) = some (x.1, e) from h)
      rw [← congrArg Prod.fst this]
      exact hD.2 _ _ own
    · exact hA _ (Nat.le_trans hS.1 h)
  · exact (out i x hx).2 (by rw [e]; exact hD1.2 j y hy)
variable {y : MethodName} {cy : ByteArray} {maxL : Nat} {rm : Room} {idx : Nat} {As : List Value} {ci q : Nat} {fs0 : List Value} {grp : (Nat → ClassId) → (Nat → Nat) → va_W}
theorem n_free {H : Heap} {locs : List Loc} {ws : va_W} (hA : ∀ q, s.heap.size ≤ q → A q) (hD : va_D A (ws ++ [(q, .inr (ci, fs0))])) (hS : va_S A s.heap H locs) : ∀ x, va_A [(q, .inr (ci, fs0))] H.size x → A x := by
  intro x h
  rcases h with ⟨j, e, h⟩ | h
  · have hj := (List.getElem?_eq_some_iff.mp h).1
    simp at hj
    subst hj
    have := Option.some.inj (show some (q, Sum.inr (ci, fs0)) = some (x, e) from h)
    have e1 : q = x := congrArg Prod.fst this
    rw [← e1]
    exact hD.2 ws.length _ (by rw [List.getElem?_append_right (Nat.le_refl _), Nat.sub_self]; rfl)
  · exact hA _ (Nat.le_trans hS.1 h)
theorem n_pre {H : Heap} {ws : va_W} (C : Cn G cA A nL p s m args c cc own) (hP : va_P G classes (ws ++ [(q, .inr (ci, fs0))]) H) : PreS s H (va_Pc (.ref q :: As) (fun U => U.heap.size = H.size ∧ va_P G classes [(q, .inr (ci, fs0))] U.heap ∧ KN G cA U)) (.ref q :: As) := by
  refine ⟨fun a U g mk z => ⟨z.1, z.2.1, z.2.2.1, z.2.2.2.calling⟩, fun U hU hW => ⟨rfl, by rw [hU], ?_, C.2.2.2.2.2.1.warm hW⟩⟩
  rw [hU]
  intro i x hx
  have hi := (List.getElem?_eq_some_iff.mp hx).1
  simp at hi
  subst hi
  exact hP ws.length x (by rw [List.getElem?_append_right (Nat.le_refl _), Nat.sub_self]; exact hx)
theorem n_callI {st0 : List Value} {W1 : (Nat → Nat) → va_W} {W0 ws : va_W} (con : ConN y cy maxL rm As ci fs0 grp) (C : Cn G cA A nL p s m args c cc own) (M : Mi y cy maxL none As.length) (hy : y.name = "<init>") (hi : Cond.instanceMethod y ∈ lw_all) (hl : Cond.methodLink own idx y ∈ lw_all) (hst : st0 = As.reverse ++ .ref q :: st) (hR : Rm rm maxL R st k n) (d : decode cc pc = .ok (.invokespecial idx, 3)) (hW0 : W0 = ws ++ [(q, .inr (ci, fs0))]) (hW : ∀ a, W1 a = ws ++ grp cA a)
    (kk : ∀ a : Nat → Nat, a 0 = q → JN G A nL p l e R s m args below meth c Q (W1 a) (pc + 3) L st (k + rm.cells) (n + rm.slots)) : JN G A nL p l e R s m args below meth c Q W0 pc L st0 k n := by
  subst hW0
  intro ls H locs hl' hP hD hS
  have hA := C.2.2.2.2.2.2
  have hFc := n_free hA hD hS
  refine va_callv (va_runI (As := As) (rest := st) ⟨C.1, C.2.1, C.2.2.1, C.2.2.2.1, C.2.2.2.2.1⟩ (con l G cA q H.size) ⟨callB_of As.length C.2.2.2.2.1 (good_cons M.1) rfl rfl rfl (C.2.2.2.2.1 _ M.2.1) (C.2.2.2.2.1 _ hl) M.2.2 ⟨hR.1, hR.2.1⟩, hy, C.2.2.2.2.1 _ hi⟩ (n_pre C hP) rfl rfl hl'.1 hst (lv_room hR.2.2.2.2) d ⟨hR.2.2.1, hR.2.2.2.1⟩) hS (fun x _ h => hFc x h) hFc (fun a t H1 locs1 ht hvm hw hB hz1 hk1 hS1 => ?_)
  obtain ⟨hP1, hD1⟩ := hB
  rw [ht] at hP1
  obtain ⟨hP2, hD2⟩ := n_join hA hP hD hS hk1 hP1 hD1
  exact kk a hw ls H1 locs1 hl' (by rw [hW]; exact hP2) (by rw [hW]; exact hD2) hS1
theorem n_callN {st0 : List Value} {W1 : (Nat → Nat) → va_W} {W0 ws : va_W} {host : String} (con : ConN y cy maxL rm As ci fs0 grp) (C : Cn G cA A nL p s m args c cc own) (M : Mi y cy maxL none As.length) (hy : y.name = "<init>") (hi : Cond.instanceMethod y ∈ lw_all) (hl : (own, idx, y, host) ∈ nestL) (hst : st0 = As.reverse ++ .ref q :: st) (hR : Rm rm maxL R st k n) (d : decode cc pc = .ok (.invokespecial idx, 3)) (hW0 : W0 = ws ++ [(q, .inr (ci, fs0))]) (hW : ∀ a, W1 a = ws ++ grp cA a)
    (kk : ∀ a : Nat → Nat, a 0 = q → JN G A nL p l e R s m args below meth c Q (W1 a) (pc + 3) L st (k + rm.cells) (n + rm.slots)) : JN G A nL p l e R s m args below meth c Q W0 pc L st0 k n := by
  subst hW0
  intro ls H locs hl' hP hD hS
  have hA := C.2.2.2.2.2.2
  have hFc := n_free hA hD hS
  refine va_callv (va_runIN (As := As) (rest := st) ⟨C.1, C.2.1, C.2.2.1, C.2.2.2.1, C.2.2.2.2.1⟩ (con l G cA q H.size) ⟨va_cnB As.length C.2.2.2.2.1 (good_cons M.1) rfl rfl rfl (C.2.2.2.2.2.1.2.1.1 _ hl) (C.2.2.2.2.1 _ M.2.1) M.2.2 ⟨hR.1, hR.2.1⟩, hy, C.2.2.2.2.1 _ hi⟩ (n_pre C hP) rfl rfl hl'.1 hst (lv_room hR.2.2.2.2) d ⟨hR.2.2.1, hR.2.2.2.1⟩) hS (fun x _ h => hFc x h) hFc (fun a t H1 locs1 ht hvm hw hB hz1 hk1 hS1 => ?_)
  obtain ⟨hP1, hD1⟩ := hB
  rw [ht] at hP1
  obtain ⟨hP2, hD2⟩ := n_join hA hP hD hS hk1 hP1 hD1
  exact kk a hw ls H1 locs1 hl' (by rw [hW]; exact hP2) (by rw [hW]; exact hD2) hS1
theorem n_ret {h0 mc ms : Nat} (a : Nat → Nat) (C : Cn G cA A nL p s m args c cc own) (hr : meth.sig.returnType = none) (hlocks : meth.locks = false) (d : decode cc pc = .ok (.return_, 1)) (hk : k ≤ mc) (hs : n ≤ ms) (ha : a 0 = h0) (hW : ws = grp cA a) : JN G A nL p l e R s m args below meth c (MQ below (va_Qv (fun a : Nat → Nat => a 0 = h0) (fun a t => va_P G classes (grp cA a) t.heap ∧ va_D A (grp cA a)) A) args s mc ms A) ws pc L [] k n := by
  subst hW
  intro ls H locs hl hP hD hS
  exact W.widen hk hs (W.vret C.1 C.2.1 hr (fun t ht hW => ⟨⟨a, rfl, ha, by rw [ht]; exact hP, hD⟩, hS.F ht⟩) hS.2.2 d hlocks)
end NR
