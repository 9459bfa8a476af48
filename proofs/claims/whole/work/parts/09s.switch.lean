/-! switches -/
section JS
variable {ρ : Type} {E : En} {nL : Nat} {p : Program} {l : Launch} {e : Env} {R : Room} {s : State} {m : MethodId} {args : Array Value} {below : List Frame} {meth : Method} {c : Code} {Q : ρ → State → Prop} {X : Option ρ} {pc : Nat} {L : List (Nat × Value)} {st : List Value} {σ : Hp} {k n : Nat} {cc : ByteArray} {own : String}
theorem j_tin {dflt lo hi : Int} {offs : Array Int} {len : Nat} {x v : Int32} {off : Int} (tgt : Nat) (C : Cx E nL p s m args c cc own) (d : decode cc pc = .ok (.tableswitch dflt lo hi offs, len)) (hx : x = v) (h1 : ¬ v.toInt < lo) (h2 : ¬ hi < v.toInt) (ho : offs[(v.toInt - lo).toNat]? = some off) (ht : (pc : Int) + off = (tgt : Int)) (kk : J E nL p l e R s m args below meth c Q X tgt L st σ k n) : J E nL p l e R s m args below meth c Q X pc L (.int x :: st) σ k n := by
  subst hx
  exact fun o ho' ls H locs hl hP hS => lv_tableIn C.1 C.2.1 d h1 h2 ho ht (kk o ho' ls H locs hl hP hS)
theorem j_tout {dflt lo hi : Int} {offs : Array Int} {len : Nat} {x : Int32} (tgt : Nat) (C : Cx E nL p s m args c cc own) (d : decode cc pc = .ok (.tableswitch dflt lo hi offs, len)) (h : x.toInt < lo ∨ hi < x.toInt) (ht : (pc : Int) + dflt = (tgt : Int)) (kk : J E nL p l e R s m args below meth c Q X tgt L st σ k n) : J E nL p l e R s m args below meth c Q X pc L (.int x :: st) σ k n :=
  fun o ho' ls H locs hl hP hS => lv_tableOut C.1 C.2.1 d h ht (kk o ho' ls H locs hl hP hS)
theorem j_lin {dflt : Int} {ps : Array (Int × Int)} {len : Nat} {x v : Int32} {off : Int} (tgt : Nat) (C : Cx E nL p s m args c cc own) (d : decode cc pc = .ok (.lookupswitch dflt ps, len)) (hx : x = v) (hp : (ps.toList.zip (ps.toList.drop 1)).all (fun (a, next) => a.1 < next.1) = true) (ho : Op.lookupswitch.offset ps.toList dflt v.toInt = off) (ht : (pc : Int) + off = (tgt : Int)) (kk : J E nL p l e R s m args below meth c Q X tgt L st σ k n) : J E nL p l e R s m args below meth c Q X pc L (.int x :: st) σ k n := by
  subst hx
  exact fun o ho' ls H locs hl hP hS => lv_lookup C.1 C.2.1 d hp ho ht (kk o ho' ls H locs hl hP hS)
theorem j_lout {dflt : Int} {ps : Array (Int × Int)} {len : Nat} {x : Int32} {off : Int} (tgt : Nat) (C : Cx E nL p s m args c cc own) (d : decode cc pc = .ok (.lookupswitch dflt ps, len)) (hp : (ps.toList.zip (ps.toList.drop 1)).all (fun (a, next) => a.1 < next.1) = true) (ho : Op.lookupswitch.offset ps.toList dflt x.toInt = off) (ht : (pc : Int) + off = (tgt : Int)) (kk : J E nL p l e R s m args below meth c Q X tgt L st σ k n) : J E nL p l e R s m args below meth c Q X pc L (.int x :: st) σ k n :=
  fun o ho' ls H locs hl hP hS => lv_lookup C.1 C.2.1 d hp ho ht (kk o ho' ls H locs hl hP hS)
end JS
