/-! rows for the law's own body: the script's cells, widening -/
section JB
variable {ρ : Type} {E : En} {nL : Nat} {p : Program} {l : Launch} {e : Env} {R : Room} {s : State} {m : MethodId} {args : Array Value} {below : List Frame} {meth : Method} {c : Code} {Q : ρ → State → Prop} {X Y Z : Option ρ} {pc : Nat} {L : List (Nat × Value)} {st st0 : List Value} {σ : Hp} {k n : Nat} {cc : ByteArray} {own : String}
/-- the script, apart from the world -/
def Sc (E : En) (s : State) (b Ls : Nat) (xs : Nat → Int32) : Prop := va_X b Ls xs s s.heap ∧ b < s.heap.size ∧ ¬ AA E s.heap.size b
theorem j_sld {b Ls : Nat} {xs : Nat → Int32} {i : Int32} (C : Cx E nL p s m args c cc own) (hX : Sc E s b Ls xs) (d : decode cc pc = .ok (.iaload, 1)) (kk : J E nL p l e R s m args below meth c Q X (pc + 1) L (.int (xs i.toNatClampNeg) :: st) σ k n) : J E nL p l e R s m args below meth c Q (gd (vib i Ls) X) pc L (.int i :: .ref b :: st) σ k n :=
  j_gd fun h o ho ls H locs hl hP hS => va_sld C.1 C.2.1 hX.1 hX.2.1 hX.2.2 hS (vib_in h) d (kk o ho ls H locs hl hP hS)
theorem j_slen {b Ls : Nat} {xs : Nat → Int32} (C : Cx E nL p s m args c cc own) (hX : Sc E s b Ls xs) (d : decode cc pc = .ok (.arraylength, 1)) (kk : J E nL p l e R s m args below meth c Q X (pc + 1) L (.int (Int32.ofNat Ls) :: st) σ k n) : J E nL p l e R s m args below meth c Q X pc L (.ref b :: st) σ k n :=
  fun o ho ls H locs hl hP hS => va_slen C.1 C.2.1 hX.1 hX.2.1 hX.2.2 hS d (kk o ho ls H locs hl hP hS)
theorem j_widen {k' n' : Nat} (h1 : k ≤ k') (h2 : n ≤ n') (kk : J E nL p l e R s m args below meth c Q X pc L st σ k' n') : J E nL p l e R s m args below meth c Q X pc L st σ k n :=
  fun o ho ls H locs hl hP hS => W.widen h1 h2 (kk o ho ls H locs hl hP hS)
end JB
