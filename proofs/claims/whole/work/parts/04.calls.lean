/-! ends, calls and throws in the judgement J -/
theorem good_cons {w : Cond} (h : w ∈ lw_all) : GoodIn lw_all (w :: lw_all) := fun v hv => good_all v ((List.mem_cons.mp hv).elim (fun e => e ▸ h) id)
theorem bd_some {α β : Type} {x : Option (α × Hp)} {f : α → Hp → Option β} {o : β} (h : bd x f = some o) : ∃ a σ, x = some (a, σ) ∧ f a σ = some o := by
  cases x with
  | none => exact nomatch h
  | some q => exact ⟨q.1, q.2, rfl, h⟩
theorem bx_some {α β : Type} {x : Option ((α ⊕ Nat) × Hp)} {f : α → Hp → Option ((β ⊕ Nat) × Hp)} {o : (β ⊕ Nat) × Hp} (h : bx x f = some o) : ∃ q, x = some q ∧ ((∃ a, q.1 = .inl a ∧ f a q.2 = some o) ∨ ∃ n, q.1 = .inr n ∧ o = (.inr n, q.2)) := by
  cases x with
  | none => exact nomatch h
  | some q =>
    obtain ⟨a | n, σ⟩ := q
    · exact ⟨_, rfl, Or.inl ⟨a, rfl, h⟩⟩
    · exact ⟨_, rfl, Or.inr ⟨n, rfl, (Option.some.inj h).symm⟩⟩
def okB (r : Int32) : Bool := decide (r = 0) || decide (r = 1)
def okC (r : Int32) : Bool := decide (vp_nar .char r = r)
theorem nrB {r : Int32} (h : okB r = true) : narrow .boolean (.int r) = .int r := by
  simp only [okB, Bool.or_eq_true, decide_eq_true_eq] at h
  rcases h with rfl | rfl <;> rfl
theorem ftB {r : Int32} (h : okB r = true) : Jvm.fits .boolean (.int r) = true := by
  simp only [okB, Bool.or_eq_true, decide_eq_true_eq] at h
  rcases h with rfl | rfl <;> rfl
theorem nrC {r : Int32} (h : okC r = true) : narrow .char (.int r) = .int r := by
  simp only [okC, decide_eq_true_eq] at h
  exact congrArg Value.int h
section JE
variable {E : En} {nL : Nat} {p : Program} {l : Launch} {e : Env} {R : Room} {s : State} {m : MethodId} {args : Array Value} {below : List Frame} {meth : Method} {c : Code} {pc : Nat} {L : List (Nat × Value)} {st : List Value} {σ : Hp} {k n : Nat} {cc : ByteArray} {own : String} {mc ms : Nat}
theorem j_iret {r : Int32} {ty : FieldType} (C : Cx E nL p s m args c cc own) (hr : meth.sig.returnType = some ty) (hlocks : meth.locks = false) (hn : narrow ty (.int r) = .int r) (d : decode cc pc = .ok (.ireturn, 1)) (hk : k ≤ mc) (hs : n ≤ ms) : J E nL p l e R s m args below meth c (QI E below args s mc ms) (some (r, σ)) pc L [.int r] σ k n := by
  intro o ho ls H locs hl hP hS
  cases ho
  exact W.widen hk hs (W.zret C.1 C.2.1 hr hn (fun t ht hW => ⟨⟨r, (), rfl, rfl, by show va_P _ _ _ t.heap; rw [ht]; exact hP⟩, hS.F ht⟩) hS.2.2 d hlocks)
theorem j_vret (C : Cx E nL p s m args c cc own) (hr : meth.sig.returnType = none) (hlocks : meth.locks = false) (d : decode cc pc = .ok (.return_, 1)) (hk : k ≤ mc) (hs : n ≤ ms) : J E nL p l e R s m args below meth c (QV E below args s mc ms) (some ((), σ)) pc L [] σ k n := by
  intro o ho ls H locs hl hP hS
  cases ho
  exact W.widen hk hs (W.vret C.1 C.2.1 hr (fun t ht hW => ⟨⟨(), rfl, trivial, by show va_P _ _ _ t.heap; rw [ht]; exact hP⟩, hS.F ht⟩) hS.2.2 d hlocks)
theorem j_aret {q : Nat} {C0 : String} (C : Cx E nL p s m args c cc own) (hr : meth.sig.returnType = some (.object C0)) (hlocks : meth.locks = false) (d : decode cc pc = .ok (.areturn, 1)) (hk : k ≤ mc) (hs : n ≤ ms) : J E nL p l e R s m args below meth c (QQ E below args s mc ms) (some (some q, σ)) pc L [.ref (ea E q)] σ k n := by
  intro o ho ls H locs hl hP hS
  cases ho
  exact W.widen hk hs (W.aret C.1 C.2.1 hr (Or.inl ⟨_, rfl⟩) (Or.inr ⟨_, rfl⟩) (fun t ht hW => ⟨⟨some (ea E q), (), rfl, rfl, by show va_P _ _ _ t.heap; rw [ht]; exact hP⟩, hS.F ht⟩) hS.2.2 d hlocks)
theorem j_aretN {C0 : String} (C : Cx E nL p s m args c cc own) (hr : meth.sig.returnType = some (.object C0)) (hlocks : meth.locks = false) (d : decode cc pc = .ok (.areturn, 1)) (hk : k ≤ mc) (hs : n ≤ ms) : J E nL p l e R s m args below meth c (QQ E below args s mc ms) (some (none, σ)) pc L [.null] σ k n := by
  intro o ho ls H locs hl hP hS
  cases ho
  exact W.widen hk hs (W.aret C.1 C.2.1 hr (Or.inl ⟨_, rfl⟩) (Or.inl rfl) (fun t ht hW => ⟨⟨none, (), rfl, rfl, by show va_P _ _ _ t.heap; rw [ht]; exact hP⟩, hS.F ht⟩) hS.2.2 d hlocks)
theorem j_xiret {r : Int32} {ty : FieldType} (C : Cx E nL p s m args c cc own) (hr : meth.sig.returnType = some ty) (hlocks : meth.locks = false) (hn : narrow ty (.int r) = .int r) (d : decode cc pc = .ok (.ireturn, 1)) (hk : k ≤ mc) (hs : n ≤ ms) : J E nL p l e R s m args below meth c (XI E below args s mc ms) (some (.inl r, σ)) pc L [.int r] σ k n := by
  intro o ho ls H locs hl hP hS
  cases ho
  exact W.widen hk hs (vx_ret (W.zret C.1 C.2.1 hr hn (fun t ht hW => ⟨⟨r, (), rfl, rfl, by show va_P _ _ _ t.heap; rw [ht]; exact hP⟩, hS.F ht⟩) hS.2.2 d hlocks))
theorem j_xvret (C : Cx E nL p s m args c cc own) (hr : meth.sig.returnType = none) (hlocks : meth.locks = false) (d : decode cc pc = .ok (.return_, 1)) (hk : k ≤ mc) (hs : n ≤ ms) : J E nL p l e R s m args below meth c (XV E below args s mc ms) (some (.inl (), σ)) pc L [] σ k n := by
  intro o ho ls H locs hl hP hS
  cases ho
  exact W.widen hk hs (vx_ret (W.vret C.1 C.2.1 hr (fun t ht hW => ⟨⟨(), rfl, rfl, by show va_P _ _ _ t.heap; rw [ht]; exact hP⟩, hS.F ht⟩) hS.2.2 d hlocks))
/-- what 'new E()' needs of the words -/
def ThL (own : String) (ik ic x : Nat) : Prop := (Bundle.fit (exN x) = true ∧ Cond.classLink own ik (exN x) ∈ lw_all ∧ Cond.initialized (exN x) ∈ lw_all) ∧ (∀ w ∈ vx_at0 own ic (exN x) ["java/lang/RuntimeException", "java/lang/Exception"], w ∈ lw_all ∨ w ∈ faceL) ∧ ∀ w ∈ Cond.classLink own ik (exN x) :: Cond.initialized (exN x) :: vx_at0 own ic (exN x) ["java/lang/RuntimeException", "java/lang/Exception"], vx_ot w = true
theorem face_use {w : Cond} {s : State} {args : Array Value} (h : FW s) (hw : w ∈ faceL) : w.before args s = true := va_Nw.use (faceL_on w hw) (h.1 w hw)
end JE
section JC
variable {ρ : Type} {E : En} {nL : Nat} {p : Program} {l : Launch} {e : Env} {R : Room} {s : State} {m : MethodId} {args : Array Value} {below : List Frame} {meth : Method} {c : Code} {Q : ρ → State → Prop} {pc : Nat} {L : List (Nat × Value)} {st st0 : List Value} {σ : Hp} {k n : Nat} {cc : ByteArray} {own : String}
variable {y : MethodName} {cy : ByteArray} {maxL : Nat} {ret : FieldType} {rm : Room} {vs : En → List Value} {idx : Nat} {As : List Value} {q ci N0 : Nat} {T0 : u_T} {fs : List Value}
/-- the room that a call wants -/
def Rm (rm : Room) (maxL : Nat) (R : Room) (st : List Value) (k n : Nat) : Prop := rm.frames + 1 ≤ R.frames ∧ 8 + (maxL + 11) + rm.locals ≤ R.locals ∧ k + rm.cells ≤ R.cells ∧ n + rm.slots ≤ R.slots ∧ (st.map fun v => v.category).sum ≤ 8
theorem cb_of {ret : Option FieldType} {n0 : Nat} (C : Cx E nL p s m args c cc own) (M : Mi y cy maxL ret n0) (hl : Cond.methodLink own idx y ∈ lw_all) (hR : Rm rm maxL R st k n) : CallB R s args own idx y cy maxL ret (Cond.code y cy maxL ret :: lw_all) rm rm.cells rm.slots n0 :=
  callB_of n0 C.2.2.2.2.1 (good_cons M.1) rfl rfl rfl (C.2.2.2.2.1 _ M.2.1) (C.2.2.2.2.1 _ hl) M.2.2 ⟨hR.1, hR.2.1⟩
theorem cw_of {ret : Option FieldType} {n0 : Nat} (C : Cx E nL p s m args c cc own) (M : Mi y cy maxL ret n0) (V : Mv y) (hl : Cond.methodLink own idx y ∈ lw_all) (hR : Rm rm maxL R st k n) : CallW R s args own y.cls idx y cy maxL ret (Cond.code y cy maxL ret :: lw_all) rm rm.cells rm.slots n0 :=
  ⟨cb_of C M hl hR, C.2.2.2.2.1 _ V.1, C.2.2.2.2.1 _ V.2⟩
theorem cn_of {ret : Option FieldType} {n0 : Nat} {host : String} (C : Cx E nL p s m args c cc own) (M : Mi y cy maxL ret n0) (hl : (own, idx, y, host) ∈ nestL) (hR : Rm rm maxL R st k n) : va_CN R s args own idx y host cy maxL ret (Cond.code y cy maxL ret :: lw_all) rm rm.cells rm.slots n0 :=
  va_cnB n0 C.2.2.2.2.1 (good_cons M.1) rfl rfl rfl (C.2.2.2.2.2.2.2.1.1 _ hl) (C.2.2.2.2.1 _ M.2.1) M.2.2 ⟨hR.1, hR.2.1⟩
theorem rcv_of {H : Heap} (C : Cx E nL p s m args c cc own) (hP : va_P (eD E) classes (wd E σ) H) (hq : q < NC) (he : ct E q (σ q) = .inr (ci, fs)) (hc : classes[ci]? = some (y.cls, T0, N0)) : ∃ cell : Cell, H[ea E q]? = some cell ∧ cell.vm.isStatics = false ∧ s.vm.findClass y.cls = some cell.cls :=
  va_recv C.2.2.2.2.2.1 hP (q0 := q) hc ((wd_get E σ hq).trans (by rw [he]))
theorem preV_of {H : Heap} {locs : List Loc} {σ' : Hp} (C : Cx E nL p s m args c cc own) (hP : va_P (eD E) classes (wd E σ) H) (hS : va_S (AA E s.heap.size) s.heap H locs) (hq : q < NC) (he : ct E q (σ q) = .inr (ci, fs)) (hc : classes[ci]? = some (y.cls, T0, N0)) (hv : vs E = .ref (ea E q) :: As) : PreV s H y.cls (ea E q) (va_Pc (vs E) (PreW E σ H.size)) As :=
  ⟨preW_blind, rcv_of C hP hq he hc, fun U hU hW => ⟨by rw [hv], preW_call C.2.2.2.2.2 hP hS hU hW⟩⟩
theorem preS_of {H : Heap} {locs : List Loc} (C : Cx E nL p s m args c cc own) (hP : va_P (eD E) classes (wd E σ) H) (hS : va_S (AA E s.heap.size) s.heap H locs) (hv : vs E = As) : PreS s H (va_Pc (vs E) (PreW E σ H.size)) As :=
  ⟨preW_blind, fun U hU hW => ⟨by rw [hv], preW_call C.2.2.2.2.2 hP hS hU hW⟩⟩
theorem aSub {s H : Heap} (h : s.size ≤ H.size) : ∀ q, q < H.size → AA E H.size q → AA E s.size q := fun q _ x => aUp h q x
theorem j_callVI {g : Hp → Option (Int32 × Hp)} {Y : Int32 → Hp → Option ρ} (As : List Value) (con : ConI y cy maxL ret rm vs g) (C : Cx E nL p s m args c cc own) (M : Mi y cy maxL (some ret) As.length) (V : Mv y) (hl : Cond.methodLink own idx y ∈ lw_all) (hq : q < NC) (he : ct E q (σ q) = .inr (ci, fs)) (hc : classes[ci]? = some (y.cls, T0, N0)) (hv : vs E = .ref (ea E q) :: As) (hst : st0 = As.reverse ++ .ref (ea E q) :: st) (hR : Rm rm maxL R st k n) (d : decode cc pc = .ok (.invokevirtual idx, 3))
    (kk : ∀ (r : Int32) (σ1 : Hp), J E nL p l e R s m args below meth c Q (Y r σ1) (pc + 3) L (.int r :: st) σ1 (k + rm.cells) (n + rm.slots)) : J E nL p l e R s m args below meth c Q (bd (g σ) Y) pc L st0 σ k n := by
  intro o ho ls H locs hl' hP hS
  obtain ⟨r0, σ1, hg, hY⟩ := bd_some ho
  refine va_calli (va_runV (As := As) (rest := st) ⟨C.1, C.2.1, C.2.2.1, C.2.2.2.1, C.2.2.2.2.1⟩ (con l E σ _ H.size hg) (cw_of C M V hl hR) (preV_of (σ' := σ) C hP hS hq he hc hv) rfl rfl hl'.1 hst (lv_room hR.2.2.2.2) d ⟨hR.2.2.1, hR.2.2.2.1⟩) hS (aSub hS.1) (aUp hS.1) (fun r u t H1 locs1 ht hvm hw hB hz hk1 hS1 => ?_)
  subst hw
  exact kk _ σ1 o hY ls H1 locs1 hl' (by rw [← ht]; exact hB) hS1
theorem j_callVV {g : Hp → Option (Unit × Hp)} {Y : Unit → Hp → Option ρ} (As : List Value) (con : ConV y cy maxL rm vs g) (C : Cx E nL p s m args c cc own) (M : Mi y cy maxL none As.length) (V : Mv y) (hl : Cond.methodLink own idx y ∈ lw_all) (hq : q < NC) (he : ct E q (σ q) = .inr (ci, fs)) (hc : classes[ci]? = some (y.cls, T0, N0)) (hv : vs E = .ref (ea E q) :: As) (hst : st0 = As.reverse ++ .ref (ea E q) :: st) (hR : Rm rm maxL R st k n) (d : decode cc pc = .ok (.invokevirtual idx, 3))
    (kk : ∀ (σ1 : Hp), J E nL p l e R s m args below meth c Q (Y () σ1) (pc + 3) L st σ1 (k + rm.cells) (n + rm.slots)) : J E nL p l e R s m args below meth c Q (bd (g σ) Y) pc L st0 σ k n := by
  intro o ho ls H locs hl' hP hS
  obtain ⟨r0, σ1, hg, hY⟩ := bd_some ho
  refine va_callv (va_runV (As := As) (rest := st) ⟨C.1, C.2.1, C.2.2.1, C.2.2.2.1, C.2.2.2.2.1⟩ (con l E σ _ H.size hg) (cw_of C M V hl hR) (preV_of (σ' := σ) C hP hS hq he hc hv) rfl rfl hl'.1 hst (lv_room hR.2.2.2.2) d ⟨hR.2.2.1, hR.2.2.2.1⟩) hS (aSub hS.1) (aUp hS.1) (fun u t H1 locs1 ht hvm hw hB hz hk1 hS1 => ?_)
  exact kk σ1 o hY ls H1 locs1 hl' (by rw [← ht]; exact hB) hS1
theorem j_callVQ {g : Hp → Option (Option Nat × Hp)} {Y : Option Nat → Hp → Option ρ} (As : List Value) (con : ConQ y cy maxL ret rm vs g) (C : Cx E nL p s m args c cc own) (M : Mi y cy maxL (some ret) As.length) (V : Mv y) (hl : Cond.methodLink own idx y ∈ lw_all) (hq : q < NC) (he : ct E q (σ q) = .inr (ci, fs)) (hc : classes[ci]? = some (y.cls, T0, N0)) (hv : vs E = .ref (ea E q) :: As) (hst : st0 = As.reverse ++ .ref (ea E q) :: st) (hR : Rm rm maxL R st k n) (d : decode cc pc = .ok (.invokevirtual idx, 3))
    (k0 : ∀ (σ1 : Hp), J E nL p l e R s m args below meth c Q (Y none σ1) (pc + 3) L (.null :: st) σ1 (k + rm.cells) (n + rm.slots)) (k1 : ∀ (b : Nat) (σ1 : Hp), J E nL p l e R s m args below meth c Q (Y (some b) σ1) (pc + 3) L (.ref (ea E b) :: st) σ1 (k + rm.cells) (n + rm.slots)) : J E nL p l e R s m args below meth c Q (bd (g σ) Y) pc L st0 σ k n := by
  intro o ho ls H locs hl' hP hS
  obtain ⟨r0, σ1, hg, hY⟩ := bd_some ho
  refine va_callq (va_runV (As := As) (rest := st) ⟨C.1, C.2.1, C.2.2.1, C.2.2.2.1, C.2.2.2.2.1⟩ (con l E σ _ H.size hg) (cw_of C M V hl hR) (preV_of (σ' := σ) C hP hS hq he hc hv) rfl rfl hl'.1 hst (lv_room hR.2.2.2.2) d ⟨hR.2.2.1, hR.2.2.2.1⟩) hS (aSub hS.1) (aUp hS.1) (fun r u t H1 locs1 ht hvm hw hB hz hk1 hS1 => ?_)
  subst hw
  cases r0 with
  | none => exact k0 σ1 o hY ls H1 locs1 hl' (by rw [← ht]; exact hB) hS1
  | some b => exact k1 b σ1 o hY ls H1 locs1 hl' (by rw [← ht]; exact hB) hS1
theorem j_callSI {g : Hp → Option (Int32 × Hp)} {Y : Int32 → Hp → Option ρ} (As : List Value) (con : ConI y cy maxL ret rm vs g) (C : Cx E nL p s m args c cc own) (M : Mi y cy maxL (some ret) As.length) (V : Cond.static y ∈ lw_all) (hl : Cond.methodLink own idx y ∈ lw_all) (hv : vs E = As) (hst : st0 = As.reverse ++ st) (hR : Rm rm maxL R st k n) (d : decode cc pc = .ok (.invokestatic idx, 3))
    (kk : ∀ (r : Int32) (σ1 : Hp), J E nL p l e R s m args below meth c Q (Y r σ1) (pc + 3) L (.int r :: st) σ1 (k + rm.cells) (n + rm.slots)) : J E nL p l e R s m args below meth c Q (bd (g σ) Y) pc L st0 σ k n := by
  intro o ho ls H locs hl' hP hS
  obtain ⟨r0, σ1, hg, hY⟩ := bd_some ho
  refine va_calli (va_runS (As := As) (rest := st) ⟨C.1, C.2.1, C.2.2.1, C.2.2.2.1, C.2.2.2.2.1⟩ (con l E σ _ H.size hg) ⟨cb_of C M hl hR, C.2.2.2.2.1 _ V⟩ (preS_of C hP hS hv) rfl rfl hl'.1 hst (lv_room hR.2.2.2.2) d ⟨hR.2.2.1, hR.2.2.2.1⟩) hS (aSub hS.1) (aUp hS.1) (fun r u t H1 locs1 ht hvm hw hB hz hk1 hS1 => ?_)
  subst hw
  exact kk _ σ1 o hY ls H1 locs1 hl' (by rw [← ht]; exact hB) hS1
theorem j_callSV {g : Hp → Option (Unit × Hp)} {Y : Unit → Hp → Option ρ} (As : List Value) (con : ConV y cy maxL rm vs g) (C : Cx E nL p s m args c cc own) (M : Mi y cy maxL none As.length) (V : Cond.static y ∈ lw_all) (hl : Cond.methodLink own idx y ∈ lw_all) (hv : vs E = As) (hst : st0 = As.reverse ++ st) (hR : Rm rm maxL R st k n) (d : decode cc pc = .ok (.invokestatic idx, 3))
    (kk : ∀ (σ1 : Hp), J E nL p l e R s m args below meth c Q (Y () σ1) (pc + 3) L st σ1 (k + rm.cells) (n + rm.slots)) : J E nL p l e R s m args below meth c Q (bd (g σ) Y) pc L st0 σ k n := by
  intro o ho ls H locs hl' hP hS
  obtain ⟨r0, σ1, hg, hY⟩ := bd_some ho
  refine va_callv (va_runS (As := As) (rest := st) ⟨C.1, C.2.1, C.2.2.1, C.2.2.2.1, C.2.2.2.2.1⟩ (con l E σ _ H.size hg) ⟨cb_of C M hl hR, C.2.2.2.2.1 _ V⟩ (preS_of C hP hS hv) rfl rfl hl'.1 hst (lv_room hR.2.2.2.2) d ⟨hR.2.2.1, hR.2.2.2.1⟩) hS (aSub hS.1) (aUp hS.1) (fun u t H1 locs1 ht hvm hw hB hz hk1 hS1 => ?_)
  exact kk σ1 o hY ls H1 locs1 hl' (by rw [← ht]; exact hB) hS1
theorem j_callNI {g : Hp → Option (Int32 × Hp)} {Y : Int32 → Hp → Option ρ} {host : String} (As : List Value) (con : ConI y cy maxL ret rm vs g) (C : Cx E nL p s m args c cc own) (M : Mi y cy maxL (some ret) As.length) (V : Cond.static y ∈ lw_all) (hl : (own, idx, y, host) ∈ nestL) (hv : vs E = As) (hst : st0 = As.reverse ++ st) (hR : Rm rm maxL R st k n) (d : decode cc pc = .ok (.invokestatic idx, 3))
    (kk : ∀ (r : Int32) (σ1 : Hp), J E nL p l e R s m args below meth c Q (Y r σ1) (pc + 3) L (.int r :: st) σ1 (k + rm.cells) (n + rm.slots)) : J E nL p l e R s m args below meth c Q (bd (g σ) Y) pc L st0 σ k n := by
  intro o ho ls H locs hl' hP hS
  obtain ⟨r0, σ1, hg, hY⟩ := bd_some ho
  refine va_calli (va_runSN (As := As) (rest := st) ⟨C.1, C.2.1, C.2.2.1, C.2.2.2.1, C.2.2.2.2.1⟩ (con l E σ _ H.size hg) ⟨cn_of C M hl hR, C.2.2.2.2.1 _ V, trivial⟩ (preS_of C hP hS hv) rfl rfl hl'.1 hst (lv_room hR.2.2.2.2) d ⟨hR.2.2.1, hR.2.2.2.1⟩) hS (aSub hS.1) (aUp hS.1) (fun r u t H1 locs1 ht hvm hw hB hz hk1 hS1 => ?_)
  subst hw
  exact kk _ σ1 o hY ls H1 locs1 hl' (by rw [← ht]; exact hB) hS1
end JC
section JX
variable {E : En} {nL : Nat} {p : Program} {l : Launch} {e : Env} {R : Room} {s : State} {m : MethodId} {args : Array Value} {below : List Frame} {meth : Method} {c : Code} {pc : Nat} {L : List (Nat × Value)} {st st0 : List Value} {σ : Hp} {k n : Nat} {cc : ByteArray} {own : String} {mc ms : Nat} {β : Type} {Qc : (β ⊕ Nat) × Hp → Array Value → State → Outcome → State → Prop}
variable {y : MethodName} {cy : ByteArray} {maxL : Nat} {ret : FieldType} {rm : Room} {vs : En → List Value} {idx : Nat} {q ci N0 : Nat} {T0 : u_T} {fs : List Value}
theorem out_of {H1 : Heap} {locs1 : List Loc} {E' : String} {ce : Cell} {q9 : Addr} {ls : Array Slot} {x : Nat} {σ1 : Hp} {k' n' : Nat} (ht : ∀ x ∈ c.exceptionTable.toList, False) (hlocks : meth.locks = false) (hE : E' = exN x) (hB : va_P (eD E) classes (wd E σ1) H1) (hS1 : va_S (AA E s.heap.size) s.heap H1 locs1) (hcell : H1[q9]? = some ce) (hv : ce.vm = .none) (hcl : s.vm.findClass E' = some ce.cls) (hk : k' ≤ mc) (hn : n' ≤ ms) : vx_W p l e R s m args below meth c H1 locs1 k' n' (XG E below args s mc ms Qc (.inr x, σ1)) (F0 m pc ls st) q9 :=
  vx_out (fun x hx => (ht x hx).elim) hlocks hcell hv hcl (fun t h1 _ => ⟨(), trivial, ⟨⟨x, rfl, hE⟩, by show va_P _ _ _ t.heap; rw [h1]; exact hB⟩, hS1.F h1⟩) hS1.2.2 hk hn
theorem j_callXVI {g : Hp → Option ((Int32 ⊕ Nat) × Hp)} {Y : Int32 → Hp → Option ((β ⊕ Nat) × Hp)} (As : List Value) (con : CoXI y cy maxL ret rm vs g) (C : Cx E nL p s m args c cc own) (hT : l.stackTraces = false) (ht : ∀ x ∈ c.exceptionTable.toList, False) (hlocks : meth.locks = false) (M : Mi y cy maxL (some ret) As.length) (V : Mv y) (hl : Cond.methodLink own idx y ∈ lw_all) (hq : q < NC) (he : ct E q (σ q) = .inr (ci, fs)) (hc : classes[ci]? = some (y.cls, T0, N0)) (hv : vs E = .ref (ea E q) :: As) (hst : st0 = As.reverse ++ .ref (ea E q) :: st) (hR : Rm rm maxL R st k n) (hk : k + rm.cells ≤ mc) (hn : n + rm.slots ≤ ms) (d : decode cc pc = .ok (.invokevirtual idx, 3))
    (kk : ∀ (r : Int32) (σ1 : Hp), J E nL p l e R s m args below meth c (XG E below args s mc ms Qc) (Y r σ1) (pc + 3) L (.int r :: st) σ1 (k + rm.cells) (n + rm.slots)) : J E nL p l e R s m args below meth c (XG E below args s mc ms Qc) (bx (g σ) Y) pc L st0 σ k n := by
  intro o ho ls H locs hl' hP hS
  obtain ⟨o', hg, hY⟩ := bx_some ho
  refine vx_calli (vx_runV (As := As) (rest := st) ⟨C.1, C.2.1, C.2.2.1, C.2.2.2.1, C.2.2.2.2.1⟩ (con l hT E σ _ H.size hg) (cw_of C M V hl hR) (preV_of (σ' := σ) C hP hS hq he hc hv) rfl rfl hl'.1 hst (lv_room hR.2.2.2.2) d ⟨hR.2.2.1, hR.2.2.2.1⟩) hS (aSub hS.1) (aUp hS.1) (aSub hS.1) (fun E' ce q9 u t H1 locs1 h1 hvm hw hB hz hk1 hS1 hce hcv hcl => ?_) (fun r u t H1 locs1 h1 hvm hw hB hz hk1 hS1 => ?_)
  · obtain ⟨⟨x, hx, hE⟩, hB⟩ := hB
    rcases hY with ⟨a, ha, -⟩ | ⟨x', hx', rfl⟩
    · rw [hx] at ha; cases ha
    · rw [hx] at hx'; cases hx'
      exact out_of ht hlocks hE (by rw [← h1]; exact hB) hS1 hce hcv hcl hk hn
  · rcases hY with ⟨a, ha, hY⟩ | ⟨x', hx', -⟩
    · rw [hw] at ha; cases ha
      exact kk _ o'.2 o hY ls H1 locs1 hl' (by rw [← h1]; exact hB) hS1
    · rw [hw] at hx'; cases hx'
theorem j_callXVV {g : Hp → Option ((Unit ⊕ Nat) × Hp)} {Y : Unit → Hp → Option ((β ⊕ Nat) × Hp)} (As : List Value) (con : CoXV y cy maxL rm vs g) (C : Cx E nL p s m args c cc own) (hT : l.stackTraces = false) (ht : ∀ x ∈ c.exceptionTable.toList, False) (hlocks : meth.locks = false) (M : Mi y cy maxL none As.length) (V : Mv y) (hl : Cond.methodLink own idx y ∈ lw_all) (hq : q < NC) (he : ct E q (σ q) = .inr (ci, fs)) (hc : classes[ci]? = some (y.cls, T0, N0)) (hv : vs E = .ref (ea E q) :: As) (hst : st0 = As.reverse ++ .ref (ea E q) :: st) (hR : Rm rm maxL R st k n) (hk : k + rm.cells ≤ mc) (hn : n + rm.slots ≤ ms) (d : decode cc pc = .ok (.invokevirtual idx, 3))
    (kk : ∀ (σ1 : Hp), J E nL p l e R s m args below meth c (XG E below args s mc ms Qc) (Y () σ1) (pc + 3) L st σ1 (k + rm.cells) (n + rm.slots)) : J E nL p l e R s m args below meth c (XG E below args s mc ms Qc) (bx (g σ) Y) pc L st0 σ k n := by
  intro o ho ls H locs hl' hP hS
  obtain ⟨o', hg, hY⟩ := bx_some ho
  refine vx_callv (vx_runV (As := As) (rest := st) ⟨C.1, C.2.1, C.2.2.1, C.2.2.2.1, C.2.2.2.2.1⟩ (con l hT E σ _ H.size hg) (cw_of C M V hl hR) (preV_of (σ' := σ) C hP hS hq he hc hv) rfl rfl hl'.1 hst (lv_room hR.2.2.2.2) d ⟨hR.2.2.1, hR.2.2.2.1⟩) hS (aSub hS.1) (aUp hS.1) (aSub hS.1) (fun E' ce q9 u t H1 locs1 h1 hvm hw hB hz hk1 hS1 hce hcv hcl => ?_) (fun u t H1 locs1 h1 hvm hw hB hz hk1 hS1 => ?_)
  · obtain ⟨⟨x, hx, hE⟩, hB⟩ := hB
    rcases hY with ⟨a, ha, -⟩ | ⟨x', hx', rfl⟩
    · rw [hx] at ha; cases ha
    · rw [hx] at hx'; cases hx'
      exact out_of ht hlocks hE (by rw [← h1]; exact hB) hS1 hce hcv hcl hk hn
  · rcases hY with ⟨a, ha, hY⟩ | ⟨x', hx', -⟩
    · exact kk o'.2 o hY ls H1 locs1 hl' (by rw [← h1]; exact hB) hS1
    · rw [hw] at hx'; cases hx'
theorem j_callXSV {g : Hp → Option ((Unit ⊕ Nat) × Hp)} {Y : Unit → Hp → Option ((β ⊕ Nat) × Hp)} (As : List Value) (con : CoXV y cy maxL rm vs g) (C : Cx E nL p s m args c cc own) (hT : l.stackTraces = false) (ht : ∀ x ∈ c.exceptionTable.toList, False) (hlocks : meth.locks = false) (M : Mi y cy maxL none As.length) (V : Cond.static y ∈ lw_all) (hl : Cond.methodLink own idx y ∈ lw_all) (hv : vs E = As) (hst : st0 = As.reverse ++ st) (hR : Rm rm maxL R st k n) (hk : k + rm.cells ≤ mc) (hn : n + rm.slots ≤ ms) (d : decode cc pc = .ok (.invokestatic idx, 3))
    (kk : ∀ (σ1 : Hp), J E nL p l e R s m args below meth c (XG E below args s mc ms Qc) (Y () σ1) (pc + 3) L st σ1 (k + rm.cells) (n + rm.slots)) : J E nL p l e R s m args below meth c (XG E below args s mc ms Qc) (bx (g σ) Y) pc L st0 σ k n := by
  intro o ho ls H locs hl' hP hS
  obtain ⟨o', hg, hY⟩ := bx_some ho
  refine vx_callv (vx_runS (As := As) (rest := st) ⟨C.1, C.2.1, C.2.2.1, C.2.2.2.1, C.2.2.2.2.1⟩ (con l hT E σ _ H.size hg) ⟨cb_of C M hl hR, C.2.2.2.2.1 _ V⟩ (preS_of C hP hS hv) rfl rfl hl'.1 hst (lv_room hR.2.2.2.2) d ⟨hR.2.2.1, hR.2.2.2.1⟩) hS (aSub hS.1) (aUp hS.1) (aSub hS.1) (fun E' ce q9 u t H1 locs1 h1 hvm hw hB hz hk1 hS1 hce hcv hcl => ?_) (fun u t H1 locs1 h1 hvm hw hB hz hk1 hS1 => ?_)
  · obtain ⟨⟨x, hx, hE⟩, hB⟩ := hB
    rcases hY with ⟨a, ha, -⟩ | ⟨x', hx', rfl⟩
    · rw [hx] at ha; cases ha
    · rw [hx] at hx'; cases hx'
      exact out_of ht hlocks hE (by rw [← h1]; exact hB) hS1 hce hcv hcl hk hn
  · rcases hY with ⟨a, ha, hY⟩ | ⟨x', hx', -⟩
    · exact kk o'.2 o hY ls H1 locs1 hl' (by rw [← h1]; exact hB) hS1
    · rw [hw] at hx'; cases hx'
/-- 'throw new E()' -/
theorem j_throw {ik ic x : Nat} (C : Cx E nL p s m args c cc own) (hT : l.stackTraces = false) (ht : ∀ x ∈ c.exceptionTable.toList, False) (hlocks : meth.locks = false) (h : ThL own ik ic x)
    (d0 : decode cc pc = .ok (.new ik, 3)) (d3 : decode cc (pc + 3) = .ok (.dup, 1)) (d4 : decode cc (pc + 4) = .ok (.invokespecial ic, 3)) (d7 : decode cc (pc + 7) = .ok (.athrow, 1)) (hR : 5 < R.frames ∧ (st.map fun v => v.category).sum + 81 ≤ R.locals ∧ k + 1 ≤ R.cells ∧ n + 6 ≤ R.slots) (hk : k + 1 ≤ mc) (hn : n + 6 ≤ ms) : J E nL p l e R s m args below meth c (XG E below args s mc ms Qc) (some (.inr x, σ)) pc L st σ k n := by
  intro o ho ls H locs hl hP hS
  cases ho
  have hX := C.2.2.2.2.2
  refine vx_throw0 C.1 C.2.1 hT C.2.2.2.1 h.1.1 (by decide +kernel) (C.2.2.2.2.1 _ h.1.2.1) (C.2.2.2.2.1 _ h.1.2.2) (fun w hw => (h.2.1 w hw).elim (C.2.2.2.2.1 w) (face_use hX.2.2.2.1)) h.2.2 hX.2.2.2.2.up.2.2.1 hX.2.2.2.2.up.2.2.2 hS (hl.1.trans C.2.2.1.symm) d0 d3 d4 d7 (fun x hx => (ht x hx).elim) hR.1 hR.2.1 hR.2.2.1 hR.2.2.2 hlocks (fun t hvm hz hq => ?_) hS.2.2 hk hn
  refine ⟨(), trivial, ⟨⟨x, rfl, rfl⟩, ?_⟩, ⟨Nat.le_trans hS.1 hz, fun q h1 h2 => (hq q (Nat.lt_of_lt_of_le h1 hS.1)).trans (hS.2.1 q h1 h2)⟩⟩
  exact hP.kept (fun k q hk => hq q.1 (hP k q hk).lt)
end JX
