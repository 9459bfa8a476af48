/-! THE PURE PART. Floats: no NaN comes. -/
section FL
theorem n32_ok {r : UInt32} (h : r.toNat % 2147483648 ≤ 2139095040) : n32 r = true := by
  unfold n32
  apply decide_eq_true
  rw [UInt32.le_iff_toNat_le, UInt32.toNat_and]
  show r.toNat &&& (2 ^ 31 - 1) ≤ 2139095040
  rw [Nat.and_two_pow_sub_one_eq_mod]
  exact h
theorem n64_ok {r : UInt64} (h : r.toNat % 9223372036854775808 ≤ 9218868437227405312) : n64 r = true := by
  unfold n64
  apply decide_eq_true
  rw [UInt64.le_iff_toNat_le, UInt64.toNat_and]
  show r.toNat &&& (2 ^ 63 - 1) ≤ 9218868437227405312
  rw [Nat.and_two_pow_sub_one_eq_mod]
  exact h
/-- a number of the format, or an infinity, with the sign s -/
def OkD (f : FP.Core.Fmt) (s : Bool) (d : FP.Core.Datum) : Prop := d = .inf s ∨ ∃ c q, d = .fin s c q ∧ c < 2 ^ f.p ∧ q ≤ f.qmax
theorem okD_bound (f : FP.Core.Fmt) (s : Bool) (c : Nat) (q : Int) (h : c < 2 ^ f.p) : OkD f s (FP.Core.bound f s c q) := by
  unfold FP.Core.bound
  by_cases z : q ≤ f.qmax
  · rw [if_pos z]
    exact Or.inr ⟨c, q, rfl, h, z⟩
  · rw [if_neg z]
    exact Or.inl rfl
theorem okD_ratio (f : FP.Core.Fmt) (hf : f.tails < 2 ^ f.p) (hq : f.qmin ≤ f.qmax) (s : Bool) (n d : Nat) (e : Int) : OkD f s (FP.Core.roundRatio f s n d e) := by
  unfold FP.Core.roundRatio
  by_cases z : n = 0
  · rw [if_pos z]
    exact Or.inr ⟨0, _, rfl, Nat.lt_of_le_of_lt (Nat.zero_le _) hf, hq⟩
  · rw [if_neg z]
    unfold FP.Core.roundAt FP.Core.settle
    split
    · rename_i h
      exact okD_bound f s _ _ h
    · exact okD_bound f s _ _ hf
theorem hf32 : FP.Core.b32.tails < 2 ^ FP.Core.b32.p := by decide
theorem hq32 : FP.Core.b32.qmin ≤ FP.Core.b32.qmax := by decide
theorem hf64 : FP.Core.b64.tails < 2 ^ FP.Core.b64.p := by decide
theorem hq64 : FP.Core.b64.qmin ≤ FP.Core.b64.qmax := by decide
theorem enc32 {s : Bool} {d : FP.Core.Datum} (h : OkD FP.Core.b32 s d) : FP.Core.encode FP.Core.b32 d < 4294967296 ∧ FP.Core.encode FP.Core.b32 d % 2147483648 ≤ 2139095040 ∧ (s = false → FP.Core.encode FP.Core.b32 d ≤ 2139095040) := by
  have t : FP.Core.b32.tails = 8388608 := by decide
  have x : FP.Core.b32.exps = 256 := by decide
  have qm : FP.Core.b32.qmin = -149 := by decide
  have qx : FP.Core.b32.qmax = 104 := by decide
  have p : 2 ^ FP.Core.b32.p = 16777216 := by decide
  rcases h with rfl | ⟨c, q, rfl, h1, h2⟩
  · cases s
    · decide
    · decide
  · rw [p] at h1
    rw [qx] at h2
    have enc : FP.Core.encode FP.Core.b32 (.fin s c q) = if c < FP.Core.b32.tails then FP.Core.assemble FP.Core.b32 s 0 c else FP.Core.assemble FP.Core.b32 s ((q - FP.Core.b32.qmin).toNat + 1) (c - FP.Core.b32.tails) := rfl
    rw [enc, t, qm]
    unfold FP.Core.assemble
    rw [x, t]
    have e1 : (q - -149).toNat ≤ 253 := by omega
    generalize (q - -149).toNat = k at e1
    by_cases z : c < 8388608
    · rw [if_pos z]
      cases s
      · refine ⟨?_, ?_, fun _ => ?_⟩
        all_goals
          simp only [Bool.toNat_false]
          omega
      · refine ⟨?_, ?_, fun q => by cases q⟩
        all_goals
          simp only [Bool.toNat_true]
          omega
    · rw [if_neg z]
      cases s
      · refine ⟨?_, ?_, fun _ => ?_⟩
        all_goals
          simp only [Bool.toNat_false]
          omega
      · refine ⟨?_, ?_, fun q => by cases q⟩
        all_goals
          simp only [Bool.toNat_true]
          omega
theorem enc64 {s : Bool} {d : FP.Core.Datum} (h : OkD FP.Core.b64 s d) : FP.Core.encode FP.Core.b64 d < 18446744073709551616 ∧ FP.Core.encode FP.Core.b64 d % 9223372036854775808 ≤ 9218868437227405312 ∧ (s = false → FP.Core.encode FP.Core.b64 d ≤ 9218868437227405312) := by
  have t : FP.Core.b64.tails = 4503599627370496 := by decide
  have x : FP.Core.b64.exps = 2048 := by decide
  have qm : FP.Core.b64.qmin = -1074 := by decide
  have qx : FP.Core.b64.qmax = 971 := by decide
  have p : 2 ^ FP.Core.b64.p = 9007199254740992 := by decide
  rcases h with rfl | ⟨c, q, rfl, h1, h2⟩
  · cases s
    · decide
    · decide
  · rw [p] at h1
    rw [qx] at h2
    have enc : FP.Core.encode FP.Core.b64 (.fin s c q) = if c < FP.Core.b64.tails then FP.Core.assemble FP.Core.b64 s 0 c else FP.Core.assemble FP.Core.b64 s ((q - FP.Core.b64.qmin).toNat + 1) (c - FP.Core.b64.tails) := rfl
    rw [enc, t, qm]
    unfold FP.Core.assemble
    rw [x, t]
    have e1 : (q - -1074).toNat ≤ 2045 := by omega
    generalize (q - -1074).toNat = k at e1
    by_cases z : c < 4503599627370496
    · rw [if_pos z]
      cases s
      · refine ⟨?_, ?_, fun _ => ?_⟩
        all_goals
          simp only [Bool.toNat_false]
          omega
      · refine ⟨?_, ?_, fun q => by cases q⟩
        all_goals
          simp only [Bool.toNat_true]
          omega
    · rw [if_neg z]
      cases s
      · refine ⟨?_, ?_, fun _ => ?_⟩
        all_goals
          simp only [Bool.toNat_false]
          omega
      · refine ⟨?_, ?_, fun q => by cases q⟩
        all_goals
          simp only [Bool.toNat_true]
          omega
/-- no NaN; and no sign either -/
def NN (x : UInt32) : Prop := x.toNat % 2147483648 ≤ 2139095040
def NP (x : UInt32) : Prop := x.toNat ≤ 2139095040
def NPD (x : UInt64) : Prop := x.toNat ≤ 9218868437227405312
theorem NP.nn {x : UInt32} (h : NP x) : NN x := by
  unfold NP at h
  unfold NN
  omega
theorem NN.ok {x : UInt32} (h : NN x) : n32 x = true := n32_ok h
theorem NP.ok {x : UInt32} (h : NP x) : n32 x = true := n32_ok h.nn
theorem NPD.ok {x : UInt64} (h : NPD x) : n64 x = true := n64_ok (by unfold NPD at h; omega)
theorem dec_nn {x : UInt32} (h : NN x) : ∃ s, FP.Core.decode FP.Core.b32 x.toNat = .inf s ∨ ∃ c q, FP.Core.decode FP.Core.b32 x.toNat = .fin s c q := by
  unfold FP.Core.decode
  split
  · rename_i e
    rw [if_pos]
    · exact ⟨_, Or.inl rfl⟩
    · have t : FP.Core.b32.tails = 8388608 := by decide
      have xx : FP.Core.b32.exps = 256 := by decide
      unfold FP.Core.fieldE at e
      unfold FP.Core.fieldT
      rw [t, xx] at e
      rw [t]
      unfold NN at h
      omega
  · split
    · exact ⟨_, Or.inr ⟨_, _, rfl⟩⟩
    · exact ⟨_, Or.inr ⟨_, _, rfl⟩⟩
theorem dec_np {x : UInt32} (h : NP x) : FP.Core.decode FP.Core.b32 x.toNat = .inf false ∨ ∃ c q, FP.Core.decode FP.Core.b32 x.toNat = .fin false c q := by
  have fs : FP.Core.fieldS FP.Core.b32 x.toNat = false := by
    have t : FP.Core.b32.tails = 8388608 := by decide
    have xx : FP.Core.b32.exps = 256 := by decide
    unfold FP.Core.fieldS
    rw [t, xx]
    unfold NP at h
    have : x.toNat / 8388608 / 256 % 2 = 0 := by omega
    rw [this]
    rfl
  unfold FP.Core.decode
  rw [fs]
  split
  · rename_i e
    rw [if_pos]
    · exact Or.inl rfl
    · have t : FP.Core.b32.tails = 8388608 := by decide
      have xx : FP.Core.b32.exps = 256 := by decide
      unfold FP.Core.fieldE at e
      unfold FP.Core.fieldT
      rw [t, xx] at e
      rw [t]
      unfold NP at h
      omega
  · split
    · exact Or.inr ⟨_, _, rfl⟩
    · exact Or.inr ⟨_, _, rfl⟩
theorem dec_npd {x : UInt64} (h : NPD x) : FP.Core.decode FP.Core.b64 x.toNat = .inf false ∨ ∃ c q, FP.Core.decode FP.Core.b64 x.toNat = .fin false c q := by
  have fs : FP.Core.fieldS FP.Core.b64 x.toNat = false := by
    have t : FP.Core.b64.tails = 4503599627370496 := by decide
    have xx : FP.Core.b64.exps = 2048 := by decide
    unfold FP.Core.fieldS
    rw [t, xx]
    unfold NPD at h
    have : x.toNat / 4503599627370496 / 2048 % 2 = 0 := by omega
    rw [this]
    rfl
  unfold FP.Core.decode
  rw [fs]
  split
  · rename_i e
    rw [if_pos]
    · exact Or.inl rfl
    · have t : FP.Core.b64.tails = 4503599627370496 := by decide
      have xx : FP.Core.b64.exps = 2048 := by decide
      unfold FP.Core.fieldE at e
      unfold FP.Core.fieldT
      rw [t, xx] at e
      rw [t]
      unfold NPD at h
      omega
  · split
    · exact Or.inr ⟨_, _, rfl⟩
    · exact Or.inr ⟨_, _, rfl⟩
/-- a finite one without a sign -/
def NF (x : UInt32) : Prop := x.toNat < 2139095040
theorem dec_nf {x : UInt32} (h : NF x) : ∃ c q, FP.Core.decode FP.Core.b32 x.toNat = .fin false c q := by
  rcases dec_np (x := x) (by unfold NF at h; unfold NP; omega) with e | e
  · exfalso
    unfold FP.Core.decode at e
    have t : FP.Core.b32.tails = 8388608 := by decide
    have xx : FP.Core.b32.exps = 256 := by decide
    unfold NF at h
    split at e
    · rename_i z
      unfold FP.Core.fieldE at z
      rw [t, xx] at z
      omega
    · split at e
      · cases e
      · cases e
  · exact e
theorem toNat32 {n : Nat} (h : n < 4294967296) : (UInt32.ofNat n).toNat = n := by
  rw [UInt32.toNat_ofNat']
  exact Nat.mod_eq_of_lt h
theorem toNat64 {n : Nat} (h : n < 18446744073709551616) : (UInt64.ofNat n).toNat = n := by
  rw [UInt64.toNat_ofNat']
  exact Nat.mod_eq_of_lt h
theorem okD_round {f : FP.Core.Fmt} (hf : f.tails < 2 ^ f.p) (hq : f.qmin ≤ f.qmax) {s : Bool} {d : FP.Core.Datum} (h : d = .inf s ∨ ∃ c q, d = .fin s c q) : OkD f s (FP.Core.round f d) := by
  rcases h with rfl | ⟨c, q, rfl⟩
  · exact Or.inl rfl
  · exact okD_ratio f hf hq s c 1 q
theorem np_of {d : FP.Core.Datum} (h : OkD FP.Core.b32 false d) : NP (UInt32.ofNat (FP.Core.encode FP.Core.b32 d)) := by
  obtain ⟨h1, h2, h3⟩ := enc32 h
  unfold NP
  rw [toNat32 h1]
  exact h3 rfl
theorem nn_of {s : Bool} {d : FP.Core.Datum} (h : OkD FP.Core.b32 s d) : NN (UInt32.ofNat (FP.Core.encode FP.Core.b32 d)) := by
  obtain ⟨h1, h2, h3⟩ := enc32 h
  unfold NN
  rw [toNat32 h1]
  exact h2
theorem npd_of {d : FP.Core.Datum} (h : OkD FP.Core.b64 false d) : NPD (UInt64.ofNat (FP.Core.encode FP.Core.b64 d)) := by
  obtain ⟨h1, h2, h3⟩ := enc64 h
  unfold NPD
  rw [toNat64 h1]
  exact h3 rfl
theorem sum_np {c d : Nat} {q r : Int} : FP.Core.sumSign false false (FP.Core.sumUnits false c q false d r (min q r)) = false := by
  unfold FP.Core.sumSign
  split
  · rfl
  · apply decide_eq_false
    unfold FP.Core.sumUnits FP.Core.signed
    simp only [Bool.false_eq_true, if_false]
    omega
theorem fadd_np {x y : UInt32} (hx : NP x) (hy : NP y) : NP (FP.fadd x y) := by
  refine np_of (okD_round hf32 hq32 ?_)
  rcases dec_np hx with e1 | ⟨c, q, e1⟩
  · rcases dec_np hy with e2 | ⟨d, r, e2⟩
    · rw [e1, e2]
      exact Or.inl rfl
    · rw [e1, e2]
      exact Or.inl rfl
  · rcases dec_np hy with e2 | ⟨d, r, e2⟩
    · rw [e1, e2]
      exact Or.inl rfl
    · rw [e1, e2]
      right
      refine ⟨(FP.Core.sumUnits false c q false d r (min q r)).natAbs, min q r, ?_⟩
      show FP.Core.Datum.fin (FP.Core.sumSign false false (FP.Core.sumUnits false c q false d r (min q r))) _ _ = _
      rw [sum_np]
theorem fsub_nn {x y : UInt32} (hx : NF x) (hy : NP y) : NN (FP.fsub x y) := by
  obtain ⟨c, q, e1⟩ := dec_nf hx
  rcases dec_np hy with e2 | ⟨d, r, e2⟩
  · exact nn_of (s := true) (okD_round hf32 hq32 (by rw [e1, e2]; exact Or.inl rfl))
  · exact nn_of (okD_round hf32 hq32 (by rw [e1, e2]; exact Or.inr ⟨_, _, rfl⟩))
theorem fmul_np {x : UInt32} (hx : NN x) : NP (FP.fmul x x) := by
  refine np_of (okD_round hf32 hq32 ?_)
  obtain ⟨s, e | ⟨c, q, e⟩⟩ := dec_nn hx
  · rw [e]
    left
    show FP.Core.Datum.inf (s != s) = _
    rw [bne_self_eq_false]
  · rw [e]
    right
    refine ⟨c * c, q + q, ?_⟩
    show FP.Core.Datum.fin (s != s) _ _ = _
    rw [bne_self_eq_false]
theorem five32 : ∃ c q, c ≠ 0 ∧ FP.Core.decode FP.Core.b32 (1084227584 : UInt32).toNat = .fin false c q := ⟨10485760, -21, by decide, by decide⟩
theorem fdiv5_np {x : UInt32} (hx : NP x) : NP (FP.fdiv x (1084227584 : UInt32)) := by
  obtain ⟨d, r, d0, e2⟩ := five32
  refine np_of ?_
  rw [e2]
  rcases dec_np hx with e1 | ⟨c, q, e1⟩
  · rw [e1]
    exact Or.inl rfl
  · rw [e1]
    show OkD FP.Core.b32 false (if d = 0 then (if c = 0 then .nan else .inf (false != false)) else FP.Core.roundRatio FP.Core.b32 (false != false) c d (q - r))
    rw [if_neg d0]
    exact okD_ratio _ hf32 hq32 _ _ _ _
theorem f2d_np {x : UInt32} (hx : NP x) : NPD (FP.f2d x) := by
  have nn : FP.Core.fIsNaN x = false := by
    unfold FP.Core.fIsNaN FP.Core.isNaN
    apply decide_eq_false
    rcases dec_np hx with e1 | ⟨c, q, e1⟩
    · rw [e1]
      exact FP.Core.Datum.noConfusion
    · rw [e1]
      exact FP.Core.Datum.noConfusion
  unfold FP.f2d
  rw [nn]
  show NPD (UInt64.ofNat (FP.Core.convert FP.Core.b32 FP.Core.b64 x.toNat))
  exact npd_of (okD_round hf64 hq64 (dec_np hx))
theorem five64 : ∃ c q, c ≠ 0 ∧ FP.Core.decode FP.Core.b64 (4617315517961601024 : UInt64).toNat = .fin false c q := ⟨5629499534213120, -50, by decide, by decide⟩
theorem ddiv5_np {x : UInt64} (hx : NPD x) : NPD (FP.ddiv x (4617315517961601024 : UInt64)) := by
  obtain ⟨d, r, d0, e2⟩ := five64
  refine npd_of ?_
  rw [e2]
  rcases dec_npd hx with e1 | ⟨c, q, e1⟩
  · rw [e1]
    exact Or.inl rfl
  · rw [e1]
    show OkD FP.Core.b64 false (if d = 0 then (if c = 0 then .nan else .inf (false != false)) else FP.Core.roundRatio FP.Core.b64 (false != false) c d (q - r))
    rw [if_neg d0]
    exact okD_ratio _ hf64 hq64 _ _ _ _
theorem cmp_self {α : Type} [Ord α] [Std.ReflOrd α] (x : α) : compare x x = .eq := Std.ReflOrd.compare_self
theorem dcmp_np {x : UInt64} (hx : NPD x) : FP.dcmp x x = some .eq := by
  show FP.Core.order (FP.Core.decode FP.Core.b64 x.toNat) (FP.Core.decode FP.Core.b64 x.toNat) = _
  rcases dec_npd hx with e1 | ⟨c, q, e1⟩
  · rw [e1]
    decide
  · rw [e1]
    show some (compare (FP.Core.signed false (FP.Core.inUnits c q (min q q))) (FP.Core.signed false (FP.Core.inUnits c q (min q q)))) = _
    rw [cmp_self]
theorem zero_np : NP FP.fconst0 := by
  unfold NP
  decide
theorem fill24 : ∀ u, u < 25 → (FP.fdiv (FP.i2f (Int32.ofNat u)) (1103101952 : UInt32)).toNat < 2139095040 := by decide +kernel
theorem fill120 : ∀ u, u < 121 → (FP.fdiv (FP.i2f (Int32.ofNat u)) (1123024896 : UInt32)).toNat ≤ 2139095040 := by decide +kernel
end FL
