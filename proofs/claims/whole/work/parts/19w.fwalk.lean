/-! the methods with floats: plain programs and walks -/
theorem cf5_237 : Cond.constantFloat RX5 237 (1123024896 : UInt32) ∈ lw_all := mem_all 914 (by decide +kernel) (by decide +kernel)
theorem cf5_242 : Cond.constantFloat RX5 242 (1084227584 : UInt32) ∈ lw_all := mem_all 927 (by decide +kernel) (by decide +kernel)
theorem cf5_243 : Cond.constantDouble RX5 243 (4617315517961601024 : UInt64) ∈ lw_all := mem_all 928 (by decide +kernel) (by decide +kernel)
theorem cf5_245 : Cond.constantFloat RX5 245 (1103101952 : UInt32) ∈ lw_all := mem_all 926 (by decide +kernel) (by decide +kernel)
theorem cf6_219 : Cond.constantFloat RX6 219 (1123024896 : UInt32) ∈ lw_all := mem_all 1442 (by decide +kernel) (by decide +kernel)
theorem cf6_220 : Cond.constantFloat RX6 220 (1103101952 : UInt32) ∈ lw_all := mem_all 1447 (by decide +kernel) (by decide +kernel)
theorem cf6_221 : Cond.constantFloat RX6 221 (1084227584 : UInt32) ∈ lw_all := mem_all 1448 (by decide +kernel) (by decide +kernel)
theorem cf6_222 : Cond.constantDouble RX6 222 (4617315517961601024 : UInt64) ∈ lw_all := mem_all 1449 (by decide +kernel) (by decide +kernel)
def f5_columnFill (N : Nat) (x1 : Int32) (x2 : Int32) (σ : Hp) : Option (UInt32 × Hp) :=
  bd (f3_usedCells N 56 x1 x2 σ) (fun r6 σ6 => gd (n32 (FP.fdiv (FP.i2f r6) (1103101952 : UInt32))) (some (FP.fdiv (FP.i2f r6) (1103101952 : UInt32), σ6)))
abbrev rm5_columnFill : Room := { frames := 3, cells := 0, slots := 0, locals := 66 }
def f5_fill_B8 (N : Nat) (x1 : Int32) (K8 : Int32 → Hp → Option ((UInt32 ⊕ Nat) × Hp)) (r8 : Int32 → Int32 → Hp → Option ((UInt32 ⊕ Nat) × Hp)) (x2 : Int32) (x3 : Int32) (σ : Hp) : Option ((UInt32 ⊕ Nat) × Hp) :=
  if (5 : Int32) ≤ x3 then K8 x2 σ else bd (f3_usedCells N 56 x1 x3 σ) (fun r20 σ20 => r8 (x2 + r20) (x3 + 1) σ20)
def f5_fill_L8 (N : Nat) (x1 : Int32) (K8 : Int32 → Hp → Option ((UInt32 ⊕ Nat) × Hp)) (n : Nat) : Int32 → Int32 → Hp → Option ((UInt32 ⊕ Nat) × Hp) :=
  it (fun _ _ _ => none) (f5_fill_B8 N x1 K8) n
def f5_fill (N : Nat) (x1 : Int32) (σ : Hp) : Option ((UInt32 ⊕ Nat) × Hp) :=
  bx (f5_needPage N x1 σ) (fun _ σ1 => f5_fill_L8 N x1 (fun x2_8 σL8 => gd (n32 (FP.fdiv (FP.i2f x2_8) (1123024896 : UInt32))) (some (.inl (FP.fdiv (FP.i2f x2_8) (1123024896 : UInt32)), σL8))) N 0 0 σ1)
abbrev rm5_fill : Room := { frames := 7, cells := 1, slots := 6, locals := 101 }
def f5_unevenness_B8 (N : Nat) (x1 : Int32) (K8 : UInt32 → Hp → Option ((UInt64 ⊕ Nat) × Hp)) (r8 : UInt32 → Int32 → Hp → Option ((UInt64 ⊕ Nat) × Hp)) (f2 : UInt32) (x3 : Int32) (σ : Hp) : Option ((UInt64 ⊕ Nat) × Hp) :=
  if (5 : Int32) ≤ x3 then K8 f2 σ else bd (f5_columnFill N x1 x3 σ) (fun r17 σ17 => gd (n32 (FP.fadd f2 r17)) (r8 (FP.fadd f2 r17) (x3 + 1) σ17))
def f5_unevenness_L8 (N : Nat) (x1 : Int32) (K8 : UInt32 → Hp → Option ((UInt64 ⊕ Nat) × Hp)) (n : Nat) : UInt32 → Int32 → Hp → Option ((UInt64 ⊕ Nat) × Hp) :=
  it (fun _ _ _ => none) (f5_unevenness_B8 N x1 K8) n
def f5_unevenness_B39 (N : Nat) (x1 : Int32) (K39 : UInt32 → Hp → Option ((UInt64 ⊕ Nat) × Hp)) (r39 : UInt32 → UInt32 → Int32 → Hp → Option ((UInt64 ⊕ Nat) × Hp)) (f3 : UInt32) (f4 : UInt32) (x5 : Int32) (σ : Hp) : Option ((UInt64 ⊕ Nat) × Hp) :=
  if (5 : Int32) ≤ x5 then K39 f4 σ else bd (f5_columnFill N x1 x5 σ) (fun r49 σ49 => gd (n32 (FP.fsub r49 f3)) (gd (n32 (FP.fmul (FP.fsub r49 f3) (FP.fsub r49 f3))) (gd (n32 (FP.fadd f4 (FP.fmul (FP.fsub r49 f3) (FP.fsub r49 f3)))) (r39 f3 (FP.fadd f4 (FP.fmul (FP.fsub r49 f3) (FP.fsub r49 f3))) (x5 + 1) σ49))))
def f5_unevenness_L39 (N : Nat) (x1 : Int32) (K39 : UInt32 → Hp → Option ((UInt64 ⊕ Nat) × Hp)) (n : Nat) : UInt32 → UInt32 → Int32 → Hp → Option ((UInt64 ⊕ Nat) × Hp) :=
  it (fun _ _ _ _ => none) (f5_unevenness_B39 N x1 K39) n
def f5_unevenness (N : Nat) (x1 : Int32) (σ : Hp) : Option ((UInt64 ⊕ Nat) × Hp) :=
  bx (f5_needPage N x1 σ) (fun _ σ1 => f5_unevenness_L8 N x1 (fun f2_8 σL8 => gd (n32 (FP.fdiv f2_8 (1084227584 : UInt32))) (f5_unevenness_L39 N x1 (fun f4_39 σL39 => gd (n64 (FP.f2d f4_39)) (gd (n64 (FP.ddiv (FP.f2d f4_39) (4617315517961601024 : UInt64))) (some (.inl (FP.ddiv (FP.f2d f4_39) (4617315517961601024 : UInt64)), σL39)))) N (FP.fdiv f2_8 (1084227584 : UInt32)) (FP.fconst0) 0 σL8)) N (FP.fconst0) 0 σ1)
abbrev rm5_unevenness : Room := { frames := 7, cells := 1, slots := 6, locals := 101 }
def f6_fill_B24 (N : Nat) (x1 : Int32) (K24 : Int32 → Hp → Option (UInt32 × Hp)) (r24 : Int32 → Int32 → Hp → Option (UInt32 × Hp)) (x2 : Int32) (x3 : Int32) (σ : Hp) : Option (UInt32 × Hp) :=
  if (5 : Int32) ≤ x3 then K24 x2 σ else bd (f6_filledIn N x1 x3 σ) (fun r33 σ33 => r24 (x2 + r33) (x3 + 1) σ33)
def f6_fill_L24 (N : Nat) (x1 : Int32) (K24 : Int32 → Hp → Option (UInt32 × Hp)) (n : Nat) : Int32 → Int32 → Hp → Option (UInt32 × Hp) :=
  it (fun _ _ _ => none) (f6_fill_B24 N x1 K24) n
def f6_fill (N : Nat) (x1 : Int32) (σ : Hp) : Option (UInt32 × Hp) :=
  bd (f6_asks N σ) (fun _ σ1 => bd (f6_in N x1 0 3 σ1) (fun r7 σ7 => if r7 = 0 then bd (f6_fails N 1 σ7) (fun r15 σ15 => some (FP.i2f r15, σ15)) else f6_fill_L24 N x1 (fun x2_24 σL24 => gd (n32 (FP.fdiv (FP.i2f x2_24) (1123024896 : UInt32))) (some (FP.fdiv (FP.i2f x2_24) (1123024896 : UInt32), σL24))) N 0 0 σ7))
abbrev rm6_fill : Room := { frames := 9, cells := 0, slots := 0, locals := 228 }
def f6_unevenness_B24 (N : Nat) (x1 : Int32) (K24 : UInt32 → Hp → Option (UInt64 × Hp)) (r24 : UInt32 → Int32 → Hp → Option (UInt64 × Hp)) (f2 : UInt32) (x3 : Int32) (σ : Hp) : Option (UInt64 × Hp) :=
  if (5 : Int32) ≤ x3 then K24 f2 σ else bd (f6_filledIn N x1 x3 σ) (fun r33 σ33 => gd (n32 (FP.fdiv (FP.i2f r33) (1103101952 : UInt32))) (gd (n32 (FP.fadd f2 (FP.fdiv (FP.i2f r33) (1103101952 : UInt32)))) (r24 (FP.fadd f2 (FP.fdiv (FP.i2f r33) (1103101952 : UInt32))) (x3 + 1) σ33)))
def f6_unevenness_L24 (N : Nat) (x1 : Int32) (K24 : UInt32 → Hp → Option (UInt64 × Hp)) (n : Nat) : UInt32 → Int32 → Hp → Option (UInt64 × Hp) :=
  it (fun _ _ _ => none) (f6_unevenness_B24 N x1 K24) n
def f6_unevenness_B59 (N : Nat) (x1 : Int32) (K59 : UInt32 → Hp → Option (UInt64 × Hp)) (r59 : UInt32 → UInt32 → Int32 → Hp → Option (UInt64 × Hp)) (f3 : UInt32) (f4 : UInt32) (x5 : Int32) (σ : Hp) : Option (UInt64 × Hp) :=
  if (5 : Int32) ≤ x5 then K59 f4 σ else bd (f6_filledIn N x1 x5 σ) (fun r69 σ69 => gd (n32 (FP.fdiv (FP.i2f r69) (1103101952 : UInt32))) (gd (n32 (FP.fsub (FP.fdiv (FP.i2f r69) (1103101952 : UInt32)) f3)) (gd (n32 (FP.fmul (FP.fsub (FP.fdiv (FP.i2f r69) (1103101952 : UInt32)) f3) (FP.fsub (FP.fdiv (FP.i2f r69) (1103101952 : UInt32)) f3))) (gd (n32 (FP.fadd f4 (FP.fmul (FP.fsub (FP.fdiv (FP.i2f r69) (1103101952 : UInt32)) f3) (FP.fsub (FP.fdiv (FP.i2f r69) (1103101952 : UInt32)) f3)))) (r59 f3 (FP.fadd f4 (FP.fmul (FP.fsub (FP.fdiv (FP.i2f r69) (1103101952 : UInt32)) f3) (FP.fsub (FP.fdiv (FP.i2f r69) (1103101952 : UInt32)) f3))) (x5 + 1) σ69)))))
def f6_unevenness_L59 (N : Nat) (x1 : Int32) (K59 : UInt32 → Hp → Option (UInt64 × Hp)) (n : Nat) : UInt32 → UInt32 → Int32 → Hp → Option (UInt64 × Hp) :=
  it (fun _ _ _ _ => none) (f6_unevenness_B59 N x1 K59) n
def f6_unevenness (N : Nat) (x1 : Int32) (σ : Hp) : Option (UInt64 × Hp) :=
  bd (f6_asks N σ) (fun _ σ1 => bd (f6_in N x1 0 3 σ1) (fun r7 σ7 => if r7 = 0 then bd (f6_fails N 1 σ7) (fun r15 σ15 => some (FP.i2d r15, σ15)) else f6_unevenness_L24 N x1 (fun f2_24 σL24 => gd (n32 (FP.fdiv f2_24 (1084227584 : UInt32))) (f6_unevenness_L59 N x1 (fun f4_59 σL59 => gd (n64 (FP.f2d f4_59)) (gd (n64 (FP.ddiv (FP.f2d f4_59) (4617315517961601024 : UInt64))) (some (FP.ddiv (FP.f2d f4_59) (4617315517961601024 : UInt64), σL59)))) N (FP.fdiv f2_24 (1084227584 : UInt32)) (FP.fconst0) 0 σL24)) N (FP.fconst0) 0 σ7))
abbrev rm6_unevenness : Room := { frames := 9, cells := 0, slots := 0, locals := 228 }
def fL_fill (N : Nat) (x1 : Int32) (σ : Hp) : Option (Int32 × Hp) :=
  bh (f5_fill N x1 σ) (fun r4 σ4 => gd (n64 (FP.f2d r4)) (some (0, (sr σ4 101 (dw (σ4 101) (FP.f2d r4)))))) (fun x4 σ4 => if x4 = 1 then some (1, σ4) else none)
abbrev rmL_fill : Room := { frames := 8, cells := 1, slots := 6, locals := 124 }
theorem miL_fill : MiW yL_fill cL_fill 4 [(0, 9, 12, 13)] 3 := ⟨mem_all 905 (by decide +kernel) (by decide +kernel), mem_all 76 (by decide +kernel) (by decide +kernel), by decide +kernel⟩
def fL_unevenness (N : Nat) (x1 : Int32) (σ : Hp) : Option (Int32 × Hp) :=
  bh (f5_unevenness N x1 σ) (fun r4 σ4 => some (0, (sr σ4 101 (dw (σ4 101) r4)))) (fun x4 σ4 => if x4 = 1 then some (1, σ4) else none)
abbrev rmL_unevenness : Room := { frames := 8, cells := 1, slots := 6, locals := 127 }
theorem miL_unevenness : MiW yL_unevenness cL_unevenness 4 [(0, 8, 11, 13)] 3 := ⟨mem_all 917 (by decide +kernel) (by decide +kernel), mem_all 76 (by decide +kernel) (by decide +kernel), by decide +kernel⟩
def fL_case19 {ρ : Type} (N : Nat) (xs : Nat → Int32) (Ls : Nat) (x5 : Int32) (K : Hp → Option ρ) (σ : Hp) : Option ρ :=
  gd (vib (x5 + 1) Ls) (bd (fL_fill N (xs (x5 + 1).toNatClampNeg) σ) (fun r1622 σ1622 => gd (vib (x5 + 1) Ls) (bd (f6_fill N (xs (x5 + 1).toNatClampNeg) σ1622) (fun r1634 σ1634 => bd (f6_thrown N σ1634) (fun r1640 σ1640 => if r1640 = r1622 then if r1622 = 0 then gd (n64 (FP.f2d r1634)) (if (Op.cmpValue (FP.dcmp (mk64 (σ1640 101 0) (σ1640 101 1)) (FP.f2d r1634)) .l) = 0 then K σ1640 else if (Op.cmpValue (FP.dcmp (mk64 (σ1640 101 0) (σ1640 101 1)) (mk64 (σ1640 101 0) (σ1640 101 1))) .l) = 0 then none else if (Op.cmpValue (FP.fcmp r1634 r1634) .l) = 0 then none else K σ1640) else K σ1640 else none)))))
def fL_case20 {ρ : Type} (N : Nat) (xs : Nat → Int32) (Ls : Nat) (x5 : Int32) (K : Hp → Option ρ) (σ : Hp) : Option ρ :=
  gd (vib (x5 + 1) Ls) (bd (fL_unevenness N (xs (x5 + 1).toNatClampNeg) σ) (fun r1700 σ1700 => gd (vib (x5 + 1) Ls) (bd (f6_unevenness N (xs (x5 + 1).toNatClampNeg) σ1700) (fun r1712 σ1712 => bd (f6_thrown N σ1712) (fun r1718 σ1718 => if r1718 = r1700 then if r1700 = 0 then if (Op.cmpValue (FP.dcmp (mk64 (σ1718 101 0) (σ1718 101 1)) r1712) .l) = 0 then K σ1718 else if (Op.cmpValue (FP.dcmp (mk64 (σ1718 101 0) (σ1718 101 1)) (mk64 (σ1718 101 0) (σ1718 101 1))) .l) = 0 then none else if (Op.cmpValue (FP.dcmp r1712 r1712) .l) = 0 then none else K σ1718 else K σ1718 else none)))))
set_option maxHeartbeats 4000000 in
set_option maxRecDepth 100000 in
theorem con5_columnFill (N : Nat) (x1 : Int32) (x2 : Int32) : ConF yX5_columnFill cX5_columnFill 3 rm5_columnFill (fun E => [.ref (ea E 0), .int x1, .int x2]) (f5_columnFill N x1 x2) := by
  refine conF_of (L := fun E => [(0, .ref (ea E 0)), (1, .int x1), (2, .int x2)]) (by decide) (fun _ => Nat.le_of_ble_eq_true rfl) (fun _ => rfl) ?_
  intro l E σ p e s m args below meth c C hr hlocks
  unfold f5_columnFill
  refine j_aload_n 0 C dX5_columnFill_0 rfl rfl ?_
  refine j_get 1 C fl5_12 (by decide) (ct_0 E _) rfl dX5_columnFill_1 ?_
  refine j_iload_n 1 C dX5_columnFill_4 rfl rfl ?_
  refine j_iload_n 2 C dX5_columnFill_5 rfl rfl ?_
  refine j_callVI [.int x1, .int x2] (con3_usedCells N 56 x1 x2 (Or.inl rfl)) C mi3_usedCells mv3_usedCells lk5_234 (P_lt (Or.inl rfl)) (ct_P E (Or.inl rfl) _) rfl rfl rfl ⟨Nat.le_of_ble_eq_true rfl, Nat.le_of_ble_eq_true rfl, Nat.le_of_ble_eq_true rfl, Nat.le_of_ble_eq_true rfl, Nat.le_of_ble_eq_true rfl⟩ dX5_columnFill_6 (fun r6 σ6 => ?_)
  refine j_i2f C dX5_columnFill_9 ?_
  refine j_ldcf C cf5_245 dX5_columnFill_10 ?_
  refine j_fdiv C dX5_columnFill_12 ?_
  exact j_fret C hr hlocks dX5_columnFill_13 (Nat.le_of_ble_eq_true rfl) (Nat.le_of_ble_eq_true rfl)
set_option maxHeartbeats 4000000 in
set_option maxRecDepth 100000 in
theorem con5_fill (N : Nat) (x1 : Int32) : CoXF yX5_fill cX5_fill 4 rm5_fill (fun E => [.ref (ea E 0), .int x1]) (f5_fill N x1) := by
  refine coXF_of (L := fun E => [(0, .ref (ea E 0)), (1, .int x1)]) (by decide) (fun _ => Nat.le_of_ble_eq_true rfl) (fun _ => rfl) ?_
  intro l E σ p e s m args below meth c C hr hlocks hT ht
  have wL8 : ∀ (K8 : Int32 → Hp → Option ((UInt32 ⊕ Nat) × Hp)), (∀ (x2 : Int32) (σ : Hp), J E 4 p l e rm5_fill s m args below meth c (XF E below args s rm5_fill.cells rm5_fill.slots) (K8 x2 σ) 31 [(2, .int x2)] [] σ 1 6) → ∀ (n8 : Nat) (x2 : Int32) (x3 : Int32) (σ : Hp), J E 4 p l e rm5_fill s m args below meth c (XF E below args s rm5_fill.cells rm5_fill.slots) (f5_fill_L8 N x1 K8 n8 x2 x3 σ) 8 [(0, .ref (ea E 0)), (1, .int x1), (2, .int x2), (3, .int x3)] [] σ 1 6 := by
    intro K8 HK8 n8
    induction n8 with
    | zero => intro x2 x3 σ; exact j_none
    | succ n8 ih8 =>
      intro x2 x3 σ
      show J E 4 p l e rm5_fill s m args below meth c (XF E below args s rm5_fill.cells rm5_fill.slots) (f5_fill_B8 N x1 K8 (f5_fill_L8 N x1 K8 n8) x2 x3 σ) 8 [(0, .ref (ea E 0)), (1, .int x1), (2, .int x2), (3, .int x3)] [] σ 1 6
      unfold f5_fill_B8
      refine j_iload_n 3 C dX5_fill_8 rfl rfl ?_
      refine j_iconst (v := 5) 5 C dX5_fill_9 (by decide) ?_
      refine j_ige 31 C dX5_fill_10 (by decide) ?_ ?_
      · exact j_sub [2] rfl (HK8 x2 σ)
      · refine j_iload_n 2 C dX5_fill_13 rfl rfl ?_
        refine j_aload_n 0 C dX5_fill_14 rfl rfl ?_
        refine j_get 1 C fl5_12 (by decide) (ct_0 E _) rfl dX5_fill_15 ?_
        refine j_iload_n 1 C dX5_fill_18 rfl rfl ?_
        refine j_iload_n 3 C dX5_fill_19 rfl rfl ?_
        refine j_callVI [.int x1, .int x3] (con3_usedCells N 56 x1 x3 (Or.inl rfl)) C mi3_usedCells mv3_usedCells lk5_234 (P_lt (Or.inl rfl)) (ct_P E (Or.inl rfl) _) rfl rfl rfl ⟨Nat.le_of_ble_eq_true rfl, Nat.le_of_ble_eq_true rfl, Nat.le_of_ble_eq_true rfl, Nat.le_of_ble_eq_true rfl, Nat.le_of_ble_eq_true rfl⟩ dX5_fill_20 (fun r20 σ20 => ?_)
        refine j_iadd C dX5_fill_23 ?_
        refine j_istore_n [(2, .int (x2 + r20)), (0, .ref (ea E 0)), (1, .int x1), (3, .int x3)] C dX5_fill_24 rfl (by decide) rfl ?_
        refine j_iinc 3 1 [(3, .int (x3 + 1)), (2, .int (x2 + r20)), (0, .ref (ea E 0)), (1, .int x1)] C dX5_fill_25 rfl rfl (by decide) rfl ?_
        refine j_goto 8 C dX5_fill_28 (by decide) ?_
        exact j_sub [2, 3, 1, 0] rfl (ih8 (x2 + r20) (x3 + 1) σ20)
  unfold f5_fill
  refine j_iload_n 1 C dX5_fill_0 rfl rfl ?_
  refine j_callXSV [.int x1] (con5_needPage N x1) C hT ht hlocks mi5_needPage ms5_needPage lk5_228 rfl rfl ⟨Nat.le_of_ble_eq_true rfl, Nat.le_of_ble_eq_true rfl, Nat.le_of_ble_eq_true rfl, Nat.le_of_ble_eq_true rfl, Nat.le_of_ble_eq_true rfl⟩ (Nat.le_of_ble_eq_true rfl) (Nat.le_of_ble_eq_true rfl) dX5_fill_1 (fun σ1 => ?_)
  refine j_iconst (v := 0) 0 C dX5_fill_4 (by decide) ?_
  refine j_istore_n [(2, .int 0), (0, .ref (ea E 0)), (1, .int x1)] C dX5_fill_5 rfl (by decide) rfl ?_
  refine j_iconst (v := 0) 0 C dX5_fill_6 (by decide) ?_
  refine j_istore_n [(3, .int 0), (2, .int 0), (0, .ref (ea E 0)), (1, .int x1)] C dX5_fill_7 rfl (by decide) rfl ?_
  refine j_sub [2, 3, 1, 0] rfl (wL8 _ (fun x2_8 σL8 => ?_) N 0 0 σ1)
  refine j_iload_n 0 C dX5_fill_31 rfl rfl ?_
  refine j_i2f C dX5_fill_32 ?_
  refine j_ldcf C cf5_237 dX5_fill_33 ?_
  refine j_fdiv C dX5_fill_35 ?_
  exact j_xfret C hr hlocks dX5_fill_36 (Nat.le_of_ble_eq_true rfl) (Nat.le_of_ble_eq_true rfl)
set_option maxHeartbeats 4000000 in
set_option maxRecDepth 100000 in
theorem con5_unevenness (N : Nat) (x1 : Int32) : CoXD yX5_unevenness cX5_unevenness 7 rm5_unevenness (fun E => [.ref (ea E 0), .int x1]) (f5_unevenness N x1) := by
  refine coXD_of (L := fun E => [(0, .ref (ea E 0)), (1, .int x1)]) (by decide) (fun _ => Nat.le_of_ble_eq_true rfl) (fun _ => rfl) ?_
  intro l E σ p e s m args below meth c C hr hlocks hT ht
  have wL39 : ∀ (K39 : UInt32 → Hp → Option ((UInt64 ⊕ Nat) × Hp)), (∀ (f4 : UInt32) (σ : Hp), J E 7 p l e rm5_unevenness s m args below meth c (XD E below args s rm5_unevenness.cells rm5_unevenness.slots) (K39 f4 σ) 72 [(4, .float f4)] [] σ 1 6) → ∀ (n39 : Nat) (f3 : UInt32) (f4 : UInt32) (x5 : Int32) (σ : Hp), J E 7 p l e rm5_unevenness s m args below meth c (XD E below args s rm5_unevenness.cells rm5_unevenness.slots) (f5_unevenness_L39 N x1 K39 n39 f3 f4 x5 σ) 39 [(0, .ref (ea E 0)), (1, .int x1), (3, .float f3), (4, .float f4), (5, .int x5)] [] σ 1 6 := by
    intro K39 HK39 n39
    induction n39 with
    | zero => intro f3 f4 x5 σ; exact j_none
    | succ n39 ih39 =>
      intro f3 f4 x5 σ
      show J E 7 p l e rm5_unevenness s m args below meth c (XD E below args s rm5_unevenness.cells rm5_unevenness.slots) (f5_unevenness_B39 N x1 K39 (f5_unevenness_L39 N x1 K39 n39) f3 f4 x5 σ) 39 [(0, .ref (ea E 0)), (1, .int x1), (3, .float f3), (4, .float f4), (5, .int x5)] [] σ 1 6
      unfold f5_unevenness_B39
      refine j_iload 4 C dX5_unevenness_39 rfl ?_
      refine j_iconst (v := 5) 5 C dX5_unevenness_41 (by decide) ?_
      refine j_ige 72 C dX5_unevenness_42 (by decide) ?_ ?_
      · exact j_sub [3] rfl (HK39 f4 σ)
      · refine j_aload_n 0 C dX5_unevenness_45 rfl rfl ?_
        refine j_iload_n 1 C dX5_unevenness_46 rfl rfl ?_
        refine j_iload 4 C dX5_unevenness_47 rfl ?_
        refine j_callVF [.int x1, .int x5] (con5_columnFill N x1 x5) C mi5_columnFill mv5_columnFill lk5_238 (by decide) (ct_0 E _) rfl rfl rfl ⟨Nat.le_of_ble_eq_true rfl, Nat.le_of_ble_eq_true rfl, Nat.le_of_ble_eq_true rfl, Nat.le_of_ble_eq_true rfl, Nat.le_of_ble_eq_true rfl⟩ dX5_unevenness_49 (fun r49 σ49 => ?_)
        refine j_fload_n 2 C dX5_unevenness_52 rfl rfl ?_
        refine j_fsub C dX5_unevenness_53 ?_
        refine j_fstore [(6, .float (FP.fsub r49 f3)), (0, .ref (ea E 0)), (1, .int x1), (3, .float f3), (4, .float f4), (5, .int x5)] C dX5_unevenness_54 (by decide) rfl ?_
        refine j_fload 4 C dX5_unevenness_56 rfl ?_
        refine j_fload 0 C dX5_unevenness_58 rfl ?_
        refine j_fload 0 C dX5_unevenness_60 rfl ?_
        refine j_fmul C dX5_unevenness_62 ?_
        refine j_fadd C dX5_unevenness_63 ?_
        refine j_fstore [(4, .float (FP.fadd f4 (FP.fmul (FP.fsub r49 f3) (FP.fsub r49 f3)))), (6, .float (FP.fsub r49 f3)), (0, .ref (ea E 0)), (1, .int x1), (3, .float f3), (5, .int x5)] C dX5_unevenness_64 (by decide) rfl ?_
        refine j_iinc 5 1 [(5, .int (x5 + 1)), (4, .float (FP.fadd f4 (FP.fmul (FP.fsub r49 f3) (FP.fsub r49 f3)))), (6, .float (FP.fsub r49 f3)), (0, .ref (ea E 0)), (1, .int x1), (3, .float f3)] C dX5_unevenness_66 rfl rfl (by decide) rfl ?_
        refine j_goto 39 C dX5_unevenness_69 (by decide) ?_
        exact j_sub [3, 4, 5, 1, 0] rfl (ih39 f3 (FP.fadd f4 (FP.fmul (FP.fsub r49 f3) (FP.fsub r49 f3))) (x5 + 1) σ49)
  have wL8 : ∀ (K8 : UInt32 → Hp → Option ((UInt64 ⊕ Nat) × Hp)), (∀ (f2 : UInt32) (σ : Hp), J E 7 p l e rm5_unevenness s m args below meth c (XD E below args s rm5_unevenness.cells rm5_unevenness.slots) (K8 f2 σ) 28 [(0, .ref (ea E 0)), (1, .int x1), (2, .float f2)] [] σ 1 6) → ∀ (n8 : Nat) (f2 : UInt32) (x3 : Int32) (σ : Hp), J E 7 p l e rm5_unevenness s m args below meth c (XD E below args s rm5_unevenness.cells rm5_unevenness.slots) (f5_unevenness_L8 N x1 K8 n8 f2 x3 σ) 8 [(0, .ref (ea E 0)), (1, .int x1), (2, .float f2), (3, .int x3)] [] σ 1 6 := by
    intro K8 HK8 n8
    induction n8 with
    | zero => intro f2 x3 σ; exact j_none
    | succ n8 ih8 =>
      intro f2 x3 σ
      show J E 7 p l e rm5_unevenness s m args below meth c (XD E below args s rm5_unevenness.cells rm5_unevenness.slots) (f5_unevenness_B8 N x1 K8 (f5_unevenness_L8 N x1 K8 n8) f2 x3 σ) 8 [(0, .ref (ea E 0)), (1, .int x1), (2, .float f2), (3, .int x3)] [] σ 1 6
      unfold f5_unevenness_B8
      refine j_iload_n 3 C dX5_unevenness_8 rfl rfl ?_
      refine j_iconst (v := 5) 5 C dX5_unevenness_9 (by decide) ?_
      refine j_ige 28 C dX5_unevenness_10 (by decide) ?_ ?_
      · exact j_sub [0, 1, 2] rfl (HK8 f2 σ)
      · refine j_fload_n 2 C dX5_unevenness_13 rfl rfl ?_
        refine j_aload_n 0 C dX5_unevenness_14 rfl rfl ?_
        refine j_iload_n 1 C dX5_unevenness_15 rfl rfl ?_
        refine j_iload_n 3 C dX5_unevenness_16 rfl rfl ?_
        refine j_callVF [.int x1, .int x3] (con5_columnFill N x1 x3) C mi5_columnFill mv5_columnFill lk5_238 (by decide) (ct_0 E _) rfl rfl rfl ⟨Nat.le_of_ble_eq_true rfl, Nat.le_of_ble_eq_true rfl, Nat.le_of_ble_eq_true rfl, Nat.le_of_ble_eq_true rfl, Nat.le_of_ble_eq_true rfl⟩ dX5_unevenness_17 (fun r17 σ17 => ?_)
        refine j_fadd C dX5_unevenness_20 ?_
        refine j_fstore_n [(2, .float (FP.fadd f2 r17)), (0, .ref (ea E 0)), (1, .int x1), (3, .int x3)] C dX5_unevenness_21 rfl (by decide) rfl ?_
        refine j_iinc 3 1 [(3, .int (x3 + 1)), (2, .float (FP.fadd f2 r17)), (0, .ref (ea E 0)), (1, .int x1)] C dX5_unevenness_22 rfl rfl (by decide) rfl ?_
        refine j_goto 8 C dX5_unevenness_25 (by decide) ?_
        exact j_sub [2, 3, 1, 0] rfl (ih8 (FP.fadd f2 r17) (x3 + 1) σ17)
  unfold f5_unevenness
  refine j_iload_n 1 C dX5_unevenness_0 rfl rfl ?_
  refine j_callXSV [.int x1] (con5_needPage N x1) C hT ht hlocks mi5_needPage ms5_needPage lk5_228 rfl rfl ⟨Nat.le_of_ble_eq_true rfl, Nat.le_of_ble_eq_true rfl, Nat.le_of_ble_eq_true rfl, Nat.le_of_ble_eq_true rfl, Nat.le_of_ble_eq_true rfl⟩ (Nat.le_of_ble_eq_true rfl) (Nat.le_of_ble_eq_true rfl) dX5_unevenness_1 (fun σ1 => ?_)
  refine j_fconst0 C dX5_unevenness_4 ?_
  refine j_fstore_n [(2, .float (FP.fconst0)), (0, .ref (ea E 0)), (1, .int x1)] C dX5_unevenness_5 rfl (by decide) rfl ?_
  refine j_iconst (v := 0) 0 C dX5_unevenness_6 (by decide) ?_
  refine j_istore_n [(3, .int 0), (2, .float (FP.fconst0)), (0, .ref (ea E 0)), (1, .int x1)] C dX5_unevenness_7 rfl (by decide) rfl ?_
  refine j_sub [2, 3, 1, 0] rfl (wL8 _ (fun f2_8 σL8 => ?_) N (FP.fconst0) 0 σ1)
  refine j_fload_n 2 C dX5_unevenness_28 rfl rfl ?_
  refine j_ldcf C cf5_242 dX5_unevenness_29 ?_
  refine j_fdiv C dX5_unevenness_31 ?_
  refine j_fstore_n [(3, .float (FP.fdiv f2_8 (1084227584 : UInt32))), (0, .ref (ea E 0)), (1, .int x1), (2, .float f2_8)] C dX5_unevenness_32 rfl (by decide) rfl ?_
  refine j_fconst0 C dX5_unevenness_33 ?_
  refine j_fstore [(4, .float (FP.fconst0)), (3, .float (FP.fdiv f2_8 (1084227584 : UInt32))), (0, .ref (ea E 0)), (1, .int x1), (2, .float f2_8)] C dX5_unevenness_34 (by decide) rfl ?_
  refine j_iconst (v := 0) 0 C dX5_unevenness_36 (by decide) ?_
  refine j_istore [(5, .int 0), (4, .float (FP.fconst0)), (3, .float (FP.fdiv f2_8 (1084227584 : UInt32))), (0, .ref (ea E 0)), (1, .int x1), (2, .float f2_8)] C dX5_unevenness_37 (by decide) rfl ?_
  refine j_sub [3, 4, 2, 1, 0] rfl (wL39 _ (fun f4_39 σL39 => ?_) N (FP.fdiv f2_8 (1084227584 : UInt32)) (FP.fconst0) 0 σL8)
  refine j_fload 0 C dX5_unevenness_72 rfl ?_
  refine j_f2d C dX5_unevenness_74 ?_
  refine j_ldc2d C cf5_243 dX5_unevenness_75 ?_
  refine j_ddiv C dX5_unevenness_78 ?_
  exact j_xdret C hr hlocks dX5_unevenness_79 (Nat.le_of_ble_eq_true rfl) (Nat.le_of_ble_eq_true rfl)
set_option maxHeartbeats 4000000 in
set_option maxRecDepth 100000 in
theorem con6_fill (N : Nat) (x1 : Int32) : ConF yX6_fill cX6_fill 4 rm6_fill (fun E => [.ref (ea E 84), .int x1]) (f6_fill N x1) := by
  refine conF_of (L := fun E => [(0, .ref (ea E 84)), (1, .int x1)]) (by decide) (fun _ => Nat.le_of_ble_eq_true rfl) (fun _ => rfl) ?_
  intro l E σ p e s m args below meth c C hr hlocks
  have wL24 : ∀ (K24 : Int32 → Hp → Option (UInt32 × Hp)), (∀ (x2 : Int32) (σ : Hp), J E 4 p l e rm6_fill s m args below meth c (QF E below args s rm6_fill.cells rm6_fill.slots) (K24 x2 σ) 44 [(2, .int x2)] [] σ 0 0) → ∀ (n24 : Nat) (x2 : Int32) (x3 : Int32) (σ : Hp), J E 4 p l e rm6_fill s m args below meth c (QF E below args s rm6_fill.cells rm6_fill.slots) (f6_fill_L24 N x1 K24 n24 x2 x3 σ) 24 [(0, .ref (ea E 84)), (1, .int x1), (2, .int x2), (3, .int x3)] [] σ 0 0 := by
    intro K24 HK24 n24
    induction n24 with
    | zero => intro x2 x3 σ; exact j_none
    | succ n24 ih24 =>
      intro x2 x3 σ
      show J E 4 p l e rm6_fill s m args below meth c (QF E below args s rm6_fill.cells rm6_fill.slots) (f6_fill_B24 N x1 K24 (f6_fill_L24 N x1 K24 n24) x2 x3 σ) 24 [(0, .ref (ea E 84)), (1, .int x1), (2, .int x2), (3, .int x3)] [] σ 0 0
      unfold f6_fill_B24
      refine j_iload_n 3 C dX6_fill_24 rfl rfl ?_
      refine j_iconst (v := 5) 5 C dX6_fill_25 (by decide) ?_
      refine j_ige 44 C dX6_fill_26 (by decide) ?_ ?_
      · exact j_sub [2] rfl (HK24 x2 σ)
      · refine j_iload_n 2 C dX6_fill_29 rfl rfl ?_
        refine j_aload_n 0 C dX6_fill_30 rfl rfl ?_
        refine j_iload_n 1 C dX6_fill_31 rfl rfl ?_
        refine j_iload_n 3 C dX6_fill_32 rfl rfl ?_
        refine j_callVI [.int x1, .int x3] (con6_filledIn N x1 x3) C mi6_filledIn mv6_filledIn lk6_216 (by decide) (ct_84 E _) rfl rfl rfl ⟨Nat.le_of_ble_eq_true rfl, Nat.le_of_ble_eq_true rfl, Nat.le_of_ble_eq_true rfl, Nat.le_of_ble_eq_true rfl, Nat.le_of_ble_eq_true rfl⟩ dX6_fill_33 (fun r33 σ33 => ?_)
        refine j_iadd C dX6_fill_36 ?_
        refine j_istore_n [(2, .int (x2 + r33)), (0, .ref (ea E 84)), (1, .int x1), (3, .int x3)] C dX6_fill_37 rfl (by decide) rfl ?_
        refine j_iinc 3 1 [(3, .int (x3 + 1)), (2, .int (x2 + r33)), (0, .ref (ea E 84)), (1, .int x1)] C dX6_fill_38 rfl rfl (by decide) rfl ?_
        refine j_goto 24 C dX6_fill_41 (by decide) ?_
        exact j_sub [2, 3, 1, 0] rfl (ih24 (x2 + r33) (x3 + 1) σ33)
  unfold f6_fill
  refine j_aload_n 0 C dX6_fill_0 rfl rfl ?_
  refine j_callVV [] (con6_asks N) C mi6_asks mv6_asks lk6_198 (by decide) (ct_84 E _) rfl rfl rfl ⟨Nat.le_of_ble_eq_true rfl, Nat.le_of_ble_eq_true rfl, Nat.le_of_ble_eq_true rfl, Nat.le_of_ble_eq_true rfl, Nat.le_of_ble_eq_true rfl⟩ dX6_fill_1 (fun σ1 => ?_)
  refine j_iload_n 1 C dX6_fill_4 rfl rfl ?_
  refine j_iconst (v := 0) 0 C dX6_fill_5 (by decide) ?_
  refine j_iconst (v := 3) 3 C dX6_fill_6 (by decide) ?_
  refine j_callSI [.int x1, .int 0, .int 3] (con6_in N x1 0 3) C mi6_in ms6_in lk6_88 rfl rfl ⟨Nat.le_of_ble_eq_true rfl, Nat.le_of_ble_eq_true rfl, Nat.le_of_ble_eq_true rfl, Nat.le_of_ble_eq_true rfl, Nat.le_of_ble_eq_true rfl⟩ dX6_fill_7 (fun r7 σ7 => ?_)
  refine j_zne 20 C dX6_fill_10 (by decide) ?_ ?_
  · refine j_iconst (v := 0) 0 C dX6_fill_20 (by decide) ?_
    refine j_istore_n [(2, .int 0), (0, .ref (ea E 84)), (1, .int x1)] C dX6_fill_21 rfl (by decide) rfl ?_
    refine j_iconst (v := 0) 0 C dX6_fill_22 (by decide) ?_
    refine j_istore_n [(3, .int 0), (2, .int 0), (0, .ref (ea E 84)), (1, .int x1)] C dX6_fill_23 rfl (by decide) rfl ?_
    refine j_sub [2, 3, 1, 0] rfl (wL24 _ (fun x2_24 σL24 => ?_) N 0 0 σ7)
    refine j_iload_n 0 C dX6_fill_44 rfl rfl ?_
    refine j_i2f C dX6_fill_45 ?_
    refine j_ldcf C cf6_219 dX6_fill_46 ?_
    refine j_fdiv C dX6_fill_48 ?_
    exact j_fret C hr hlocks dX6_fill_49 (Nat.le_of_ble_eq_true rfl) (Nat.le_of_ble_eq_true rfl)
  · refine j_aload_n 0 C dX6_fill_13 rfl rfl ?_
    refine j_iconst (v := 1) 1 C dX6_fill_14 (by decide) ?_
    refine j_callVI [.int 1] (con6_fails N 1) C mi6_fails mv6_fails lk6_99 (by decide) (ct_84 E _) rfl rfl rfl ⟨Nat.le_of_ble_eq_true rfl, Nat.le_of_ble_eq_true rfl, Nat.le_of_ble_eq_true rfl, Nat.le_of_ble_eq_true rfl, Nat.le_of_ble_eq_true rfl⟩ dX6_fill_15 (fun r15 σ15 => ?_)
    refine j_i2f C dX6_fill_18 ?_
    exact j_fret C hr hlocks dX6_fill_19 (Nat.le_of_ble_eq_true rfl) (Nat.le_of_ble_eq_true rfl)
set_option maxHeartbeats 4000000 in
set_option maxRecDepth 100000 in
theorem con6_unevenness (N : Nat) (x1 : Int32) : ConD yX6_unevenness cX6_unevenness 7 rm6_unevenness (fun E => [.ref (ea E 84), .int x1]) (f6_unevenness N x1) := by
  refine conD_of (L := fun E => [(0, .ref (ea E 84)), (1, .int x1)]) (by decide) (fun _ => Nat.le_of_ble_eq_true rfl) (fun _ => rfl) ?_
  intro l E σ p e s m args below meth c C hr hlocks
  have wL59 : ∀ (K59 : UInt32 → Hp → Option (UInt64 × Hp)), (∀ (f4 : UInt32) (σ : Hp), J E 7 p l e rm6_unevenness s m args below meth c (QD E below args s rm6_unevenness.cells rm6_unevenness.slots) (K59 f4 σ) 96 [(4, .float f4)] [] σ 0 0) → ∀ (n59 : Nat) (f3 : UInt32) (f4 : UInt32) (x5 : Int32) (σ : Hp), J E 7 p l e rm6_unevenness s m args below meth c (QD E below args s rm6_unevenness.cells rm6_unevenness.slots) (f6_unevenness_L59 N x1 K59 n59 f3 f4 x5 σ) 59 [(0, .ref (ea E 84)), (1, .int x1), (3, .float f3), (4, .float f4), (5, .int x5)] [] σ 0 0 := by
    intro K59 HK59 n59
    induction n59 with
    | zero => intro f3 f4 x5 σ; exact j_none
    | succ n59 ih59 =>
      intro f3 f4 x5 σ
      show J E 7 p l e rm6_unevenness s m args below meth c (QD E below args s rm6_unevenness.cells rm6_unevenness.slots) (f6_unevenness_B59 N x1 K59 (f6_unevenness_L59 N x1 K59 n59) f3 f4 x5 σ) 59 [(0, .ref (ea E 84)), (1, .int x1), (3, .float f3), (4, .float f4), (5, .int x5)] [] σ 0 0
      unfold f6_unevenness_B59
      refine j_iload 4 C dX6_unevenness_59 rfl ?_
      refine j_iconst (v := 5) 5 C dX6_unevenness_61 (by decide) ?_
      refine j_ige 96 C dX6_unevenness_62 (by decide) ?_ ?_
      · exact j_sub [3] rfl (HK59 f4 σ)
      · refine j_aload_n 0 C dX6_unevenness_65 rfl rfl ?_
        refine j_iload_n 1 C dX6_unevenness_66 rfl rfl ?_
        refine j_iload 4 C dX6_unevenness_67 rfl ?_
        refine j_callVI [.int x1, .int x5] (con6_filledIn N x1 x5) C mi6_filledIn mv6_filledIn lk6_216 (by decide) (ct_84 E _) rfl rfl rfl ⟨Nat.le_of_ble_eq_true rfl, Nat.le_of_ble_eq_true rfl, Nat.le_of_ble_eq_true rfl, Nat.le_of_ble_eq_true rfl, Nat.le_of_ble_eq_true rfl⟩ dX6_unevenness_69 (fun r69 σ69 => ?_)
        refine j_i2f C dX6_unevenness_72 ?_
        refine j_ldcf C cf6_220 dX6_unevenness_73 ?_
        refine j_fdiv C dX6_unevenness_75 ?_
        refine j_fload_n 2 C dX6_unevenness_76 rfl rfl ?_
        refine j_fsub C dX6_unevenness_77 ?_
        refine j_fstore [(6, .float (FP.fsub (FP.fdiv (FP.i2f r69) (1103101952 : UInt32)) f3)), (0, .ref (ea E 84)), (1, .int x1), (3, .float f3), (4, .float f4), (5, .int x5)] C dX6_unevenness_78 (by decide) rfl ?_
        refine j_fload 4 C dX6_unevenness_80 rfl ?_
        refine j_fload 0 C dX6_unevenness_82 rfl ?_
        refine j_fload 0 C dX6_unevenness_84 rfl ?_
        refine j_fmul C dX6_unevenness_86 ?_
        refine j_fadd C dX6_unevenness_87 ?_
        refine j_fstore [(4, .float (FP.fadd f4 (FP.fmul (FP.fsub (FP.fdiv (FP.i2f r69) (1103101952 : UInt32)) f3) (FP.fsub (FP.fdiv (FP.i2f r69) (1103101952 : UInt32)) f3)))), (6, .float (FP.fsub (FP.fdiv (FP.i2f r69) (1103101952 : UInt32)) f3)), (0, .ref (ea E 84)), (1, .int x1), (3, .float f3), (5, .int x5)] C dX6_unevenness_88 (by decide) rfl ?_
        refine j_iinc 5 1 [(5, .int (x5 + 1)), (4, .float (FP.fadd f4 (FP.fmul (FP.fsub (FP.fdiv (FP.i2f r69) (1103101952 : UInt32)) f3) (FP.fsub (FP.fdiv (FP.i2f r69) (1103101952 : UInt32)) f3)))), (6, .float (FP.fsub (FP.fdiv (FP.i2f r69) (1103101952 : UInt32)) f3)), (0, .ref (ea E 84)), (1, .int x1), (3, .float f3)] C dX6_unevenness_90 rfl rfl (by decide) rfl ?_
        refine j_goto 59 C dX6_unevenness_93 (by decide) ?_
        exact j_sub [3, 4, 5, 1, 0] rfl (ih59 f3 (FP.fadd f4 (FP.fmul (FP.fsub (FP.fdiv (FP.i2f r69) (1103101952 : UInt32)) f3) (FP.fsub (FP.fdiv (FP.i2f r69) (1103101952 : UInt32)) f3))) (x5 + 1) σ69)
  have wL24 : ∀ (K24 : UInt32 → Hp → Option (UInt64 × Hp)), (∀ (f2 : UInt32) (σ : Hp), J E 7 p l e rm6_unevenness s m args below meth c (QD E below args s rm6_unevenness.cells rm6_unevenness.slots) (K24 f2 σ) 48 [(0, .ref (ea E 84)), (1, .int x1), (2, .float f2)] [] σ 0 0) → ∀ (n24 : Nat) (f2 : UInt32) (x3 : Int32) (σ : Hp), J E 7 p l e rm6_unevenness s m args below meth c (QD E below args s rm6_unevenness.cells rm6_unevenness.slots) (f6_unevenness_L24 N x1 K24 n24 f2 x3 σ) 24 [(0, .ref (ea E 84)), (1, .int x1), (2, .float f2), (3, .int x3)] [] σ 0 0 := by
    intro K24 HK24 n24
    induction n24 with
    | zero => intro f2 x3 σ; exact j_none
    | succ n24 ih24 =>
      intro f2 x3 σ
      show J E 7 p l e rm6_unevenness s m args below meth c (QD E below args s rm6_unevenness.cells rm6_unevenness.slots) (f6_unevenness_B24 N x1 K24 (f6_unevenness_L24 N x1 K24 n24) f2 x3 σ) 24 [(0, .ref (ea E 84)), (1, .int x1), (2, .float f2), (3, .int x3)] [] σ 0 0
      unfold f6_unevenness_B24
      refine j_iload_n 3 C dX6_unevenness_24 rfl rfl ?_
      refine j_iconst (v := 5) 5 C dX6_unevenness_25 (by decide) ?_
      refine j_ige 48 C dX6_unevenness_26 (by decide) ?_ ?_
      · exact j_sub [0, 1, 2] rfl (HK24 f2 σ)
      · refine j_fload_n 2 C dX6_unevenness_29 rfl rfl ?_
        refine j_aload_n 0 C dX6_unevenness_30 rfl rfl ?_
        refine j_iload_n 1 C dX6_unevenness_31 rfl rfl ?_
        refine j_iload_n 3 C dX6_unevenness_32 rfl rfl ?_
        refine j_callVI [.int x1, .int x3] (con6_filledIn N x1 x3) C mi6_filledIn mv6_filledIn lk6_216 (by decide) (ct_84 E _) rfl rfl rfl ⟨Nat.le_of_ble_eq_true rfl, Nat.le_of_ble_eq_true rfl, Nat.le_of_ble_eq_true rfl, Nat.le_of_ble_eq_true rfl, Nat.le_of_ble_eq_true rfl⟩ dX6_unevenness_33 (fun r33 σ33 => ?_)
        refine j_i2f C dX6_unevenness_36 ?_
        refine j_ldcf C cf6_220 dX6_unevenness_37 ?_
        refine j_fdiv C dX6_unevenness_39 ?_
        refine j_fadd C dX6_unevenness_40 ?_
        refine j_fstore_n [(2, .float (FP.fadd f2 (FP.fdiv (FP.i2f r33) (1103101952 : UInt32)))), (0, .ref (ea E 84)), (1, .int x1), (3, .int x3)] C dX6_unevenness_41 rfl (by decide) rfl ?_
        refine j_iinc 3 1 [(3, .int (x3 + 1)), (2, .float (FP.fadd f2 (FP.fdiv (FP.i2f r33) (1103101952 : UInt32)))), (0, .ref (ea E 84)), (1, .int x1)] C dX6_unevenness_42 rfl rfl (by decide) rfl ?_
        refine j_goto 24 C dX6_unevenness_45 (by decide) ?_
        exact j_sub [2, 3, 1, 0] rfl (ih24 (FP.fadd f2 (FP.fdiv (FP.i2f r33) (1103101952 : UInt32))) (x3 + 1) σ33)
  unfold f6_unevenness
  refine j_aload_n 0 C dX6_unevenness_0 rfl rfl ?_
  refine j_callVV [] (con6_asks N) C mi6_asks mv6_asks lk6_198 (by decide) (ct_84 E _) rfl rfl rfl ⟨Nat.le_of_ble_eq_true rfl, Nat.le_of_ble_eq_true rfl, Nat.le_of_ble_eq_true rfl, Nat.le_of_ble_eq_true rfl, Nat.le_of_ble_eq_true rfl⟩ dX6_unevenness_1 (fun σ1 => ?_)
  refine j_iload_n 1 C dX6_unevenness_4 rfl rfl ?_
  refine j_iconst (v := 0) 0 C dX6_unevenness_5 (by decide) ?_
  refine j_iconst (v := 3) 3 C dX6_unevenness_6 (by decide) ?_
  refine j_callSI [.int x1, .int 0, .int 3] (con6_in N x1 0 3) C mi6_in ms6_in lk6_88 rfl rfl ⟨Nat.le_of_ble_eq_true rfl, Nat.le_of_ble_eq_true rfl, Nat.le_of_ble_eq_true rfl, Nat.le_of_ble_eq_true rfl, Nat.le_of_ble_eq_true rfl⟩ dX6_unevenness_7 (fun r7 σ7 => ?_)
  refine j_zne 20 C dX6_unevenness_10 (by decide) ?_ ?_
  · refine j_fconst0 C dX6_unevenness_20 ?_
    refine j_fstore_n [(2, .float (FP.fconst0)), (0, .ref (ea E 84)), (1, .int x1)] C dX6_unevenness_21 rfl (by decide) rfl ?_
    refine j_iconst (v := 0) 0 C dX6_unevenness_22 (by decide) ?_
    refine j_istore_n [(3, .int 0), (2, .float (FP.fconst0)), (0, .ref (ea E 84)), (1, .int x1)] C dX6_unevenness_23 rfl (by decide) rfl ?_
    refine j_sub [2, 3, 1, 0] rfl (wL24 _ (fun f2_24 σL24 => ?_) N (FP.fconst0) 0 σ7)
    refine j_fload_n 2 C dX6_unevenness_48 rfl rfl ?_
    refine j_ldcf C cf6_221 dX6_unevenness_49 ?_
    refine j_fdiv C dX6_unevenness_51 ?_
    refine j_fstore_n [(3, .float (FP.fdiv f2_24 (1084227584 : UInt32))), (0, .ref (ea E 84)), (1, .int x1), (2, .float f2_24)] C dX6_unevenness_52 rfl (by decide) rfl ?_
    refine j_fconst0 C dX6_unevenness_53 ?_
    refine j_fstore [(4, .float (FP.fconst0)), (3, .float (FP.fdiv f2_24 (1084227584 : UInt32))), (0, .ref (ea E 84)), (1, .int x1), (2, .float f2_24)] C dX6_unevenness_54 (by decide) rfl ?_
    refine j_iconst (v := 0) 0 C dX6_unevenness_56 (by decide) ?_
    refine j_istore [(5, .int 0), (4, .float (FP.fconst0)), (3, .float (FP.fdiv f2_24 (1084227584 : UInt32))), (0, .ref (ea E 84)), (1, .int x1), (2, .float f2_24)] C dX6_unevenness_57 (by decide) rfl ?_
    refine j_sub [3, 4, 2, 1, 0] rfl (wL59 _ (fun f4_59 σL59 => ?_) N (FP.fdiv f2_24 (1084227584 : UInt32)) (FP.fconst0) 0 σL24)
    refine j_fload 0 C dX6_unevenness_96 rfl ?_
    refine j_f2d C dX6_unevenness_98 ?_
    refine j_ldc2d C cf6_222 dX6_unevenness_99 ?_
    refine j_ddiv C dX6_unevenness_102 ?_
    exact j_dret C hr hlocks dX6_unevenness_103 (Nat.le_of_ble_eq_true rfl) (Nat.le_of_ble_eq_true rfl)
  · refine j_aload_n 0 C dX6_unevenness_13 rfl rfl ?_
    refine j_iconst (v := 1) 1 C dX6_unevenness_14 (by decide) ?_
    refine j_callVI [.int 1] (con6_fails N 1) C mi6_fails mv6_fails lk6_99 (by decide) (ct_84 E _) rfl rfl rfl ⟨Nat.le_of_ble_eq_true rfl, Nat.le_of_ble_eq_true rfl, Nat.le_of_ble_eq_true rfl, Nat.le_of_ble_eq_true rfl, Nat.le_of_ble_eq_true rfl⟩ dX6_unevenness_15 (fun r15 σ15 => ?_)
    refine j_i2d C dX6_unevenness_18 ?_
    exact j_dret C hr hlocks dX6_unevenness_19 (Nat.le_of_ble_eq_true rfl) (Nat.le_of_ble_eq_true rfl)
set_option maxHeartbeats 4000000 in
set_option maxRecDepth 100000 in
theorem conL_fill (N : Nat) (x1 : Int32) : CoWI yL_fill cL_fill 4 [(0, 9, 12, 13)] rmL_fill (fun E => [.ref (ea E 0), .int x1, .ref (ea E 101)]) (fL_fill N x1) := by
  refine coWI_of (L := fun E => [(0, .ref (ea E 0)), (1, .int x1), (2, .ref (ea E 101))]) (by decide) (fun _ => Nat.le_of_ble_eq_true rfl) (fun _ => rfl) ?_
  intro l E σ p e s m args below meth c C hr hlocks hT htab
  unfold fL_fill
  refine j_aload_n 2 C dL_fill_0 rfl rfl ?_
  refine j_iconst (v := 0) 0 C dL_fill_1 (by decide) ?_
  refine j_aload_n 0 C dL_fill_2 rfl rfl ?_
  refine j_iload_n 1 C dL_fill_3 rfl rfl ?_
  refine j_callHVF [.int x1] (con5_fill N x1) C hT mi5_fill mv5_fill lkL_82 (by decide) (ct_0 E _) rfl rfl rfl ⟨Nat.le_of_ble_eq_true rfl, Nat.le_of_ble_eq_true rfl, Nat.le_of_ble_eq_true rfl, Nat.le_of_ble_eq_true rfl, Nat.le_of_ble_eq_true rfl⟩ dL_fill_4 (fun x4 σ4 => ?_) (fun r4 σ4 => ?_)
  · refine jx_ite (fun hx => ?_) (fun hx => ?_)
    · subst hx
      refine j_catch C htab [] ⟨0, 9, 12, 13⟩ [] rfl nil_all (by decide) (by decide) lcL_13 (by decide +kernel) (fun q0 => ?_)
      refine j_astore_n [(3, .ref q0), (0, .ref (ea E 0)), (1, .int x1), (2, .ref (ea E 101))] C dL_fill_12 rfl (by decide) rfl ?_
      refine j_iconst (v := 1) 1 C dL_fill_13 (by decide) ?_
      exact j_iret C hr hlocks rfl dL_fill_14 (Nat.le_of_ble_eq_true rfl) (Nat.le_of_ble_eq_true rfl)
    exact jx_none
  · refine j_f2d C dL_fill_7 ?_
    refine j_dast C dL_fill_8 ?_
    refine j_goto 15 C dL_fill_9 (by decide) ?_
    refine j_iconst (v := 0) 0 C dL_fill_15 (by decide) ?_
    exact j_iret C hr hlocks rfl dL_fill_16 (Nat.le_of_ble_eq_true rfl) (Nat.le_of_ble_eq_true rfl)
set_option maxHeartbeats 4000000 in
set_option maxRecDepth 100000 in
theorem conL_unevenness (N : Nat) (x1 : Int32) : CoWI yL_unevenness cL_unevenness 4 [(0, 8, 11, 13)] rmL_unevenness (fun E => [.ref (ea E 0), .int x1, .ref (ea E 101)]) (fL_unevenness N x1) := by
  refine coWI_of (L := fun E => [(0, .ref (ea E 0)), (1, .int x1), (2, .ref (ea E 101))]) (by decide) (fun _ => Nat.le_of_ble_eq_true rfl) (fun _ => rfl) ?_
  intro l E σ p e s m args below meth c C hr hlocks hT htab
  unfold fL_unevenness
  refine j_aload_n 2 C dL_unevenness_0 rfl rfl ?_
  refine j_iconst (v := 0) 0 C dL_unevenness_1 (by decide) ?_
  refine j_aload_n 0 C dL_unevenness_2 rfl rfl ?_
  refine j_iload_n 1 C dL_unevenness_3 rfl rfl ?_
  refine j_callHVD [.int x1] (con5_unevenness N x1) C hT mi5_unevenness mv5_unevenness lkL_86 (by decide) (ct_0 E _) rfl rfl rfl ⟨Nat.le_of_ble_eq_true rfl, Nat.le_of_ble_eq_true rfl, Nat.le_of_ble_eq_true rfl, Nat.le_of_ble_eq_true rfl, Nat.le_of_ble_eq_true rfl⟩ dL_unevenness_4 (fun x4 σ4 => ?_) (fun r4 σ4 => ?_)
  · refine jx_ite (fun hx => ?_) (fun hx => ?_)
    · subst hx
      refine j_catch C htab [] ⟨0, 8, 11, 13⟩ [] rfl nil_all (by decide) (by decide) lcL_13 (by decide +kernel) (fun q0 => ?_)
      refine j_astore_n [(3, .ref q0), (0, .ref (ea E 0)), (1, .int x1), (2, .ref (ea E 101))] C dL_unevenness_11 rfl (by decide) rfl ?_
      refine j_iconst (v := 1) 1 C dL_unevenness_12 (by decide) ?_
      exact j_iret C hr hlocks rfl dL_unevenness_13 (Nat.le_of_ble_eq_true rfl) (Nat.le_of_ble_eq_true rfl)
    exact jx_none
  · refine j_dast C dL_unevenness_7 ?_
    refine j_goto 14 C dL_unevenness_8 (by decide) ?_
    refine j_iconst (v := 0) 0 C dL_unevenness_14 (by decide) ?_
    exact j_iret C hr hlocks rfl dL_unevenness_15 (Nat.le_of_ble_eq_true rfl) (Nat.le_of_ble_eq_true rfl)
set_option maxHeartbeats 4000000 in
set_option maxRecDepth 100000 in
theorem wcase19 {ρ : Type} {E : En} {p : Program} {l : Launch} {e : Env} {s : State} {m : MethodId} {args : Array Value} {below : List Frame} {meth : Method} {c : Code} {Q : ρ → State → Prop} {b Ls k n : Nat} {xs : Nat → Int32} (N : Nat) (C : Cx E 9 p s m args c code RL) (hT : l.stackTraces = false) (hX : Sc E s b Ls xs) (hk : k + 3 ≤ 601024) (hn : n + 18 ≤ 7293034) (x5 : Int32) (K : Hp → Option ρ) (HK : ∀ σ, J E 9 p l e room_1 s m args below meth c Q (K σ) 2228 [(0, .ref b), (1, .ref (ea E 0)), (2, .ref (ea E 84)), (3, .ref (ea E 100)), (4, .ref (ea E 101)), (5, .int x5)] [] σ (k + 3) (n + 18)) (σ : Hp) : J E 9 p l e room_1 s m args below meth c Q (fL_case19 N xs Ls x5 K σ) 1613 [(0, .ref b), (1, .ref (ea E 0)), (2, .ref (ea E 84)), (3, .ref (ea E 100)), (4, .ref (ea E 101)), (5, .int x5)] [] σ k n := by
  unfold fL_case19
  refine j_aload_n 1 C dL_law_1613 rfl rfl ?_
  refine j_aload_n 0 C dL_law_1614 rfl rfl ?_
  refine j_iload 5 C dL_law_1615 rfl ?_
  refine j_iconst (v := 1) 1 C dL_law_1617 (by decide) ?_
  refine j_iadd C dL_law_1618 ?_
  refine j_sld C hX dL_law_1619 ?_
  refine j_aload 4 C dL_law_1620 rfl ?_
  refine j_callWI [.ref (ea E 0), .int (xs (x5 + 1).toNatClampNeg), .ref (ea E 101)] (conL_fill N (xs (x5 + 1).toNatClampNeg)) C hT miL_fill msL_fill lkL_189 rfl rfl ⟨Nat.le_of_ble_eq_true rfl, Nat.le_of_ble_eq_true rfl, (by show k + 1 ≤ 601024; omega), (by show n + 6 ≤ 7293034; omega), Nat.le_of_ble_eq_true rfl⟩ dL_law_1622 (fun r1622 σ1622 => ?_)
  refine j_istore [(6, .int r1622), (0, .ref b), (1, .ref (ea E 0)), (2, .ref (ea E 84)), (3, .ref (ea E 100)), (4, .ref (ea E 101)), (5, .int x5)] C dL_law_1625 (by decide) rfl ?_
  refine j_aload_n 3 C dL_law_1627 rfl rfl ?_
  refine j_aload_n 1 C dL_law_1628 rfl rfl ?_
  refine j_iload 6 C dL_law_1629 rfl ?_
  refine j_iconst (v := 1) 1 C dL_law_1631 (by decide) ?_
  refine j_iadd C dL_law_1632 ?_
  refine j_sld C hX dL_law_1633 ?_
  refine j_callVF [.int (xs (x5 + 1).toNatClampNeg)] (con6_fill N (xs (x5 + 1).toNatClampNeg)) C mi6_fill mv6_fill lkL_192 (by decide) (ct_84 E _) rfl rfl rfl ⟨Nat.le_of_ble_eq_true rfl, Nat.le_of_ble_eq_true rfl, (by show k + 1 + 0 ≤ 601024; omega), (by show n + 6 + 0 ≤ 7293034; omega), Nat.le_of_ble_eq_true rfl⟩ dL_law_1634 (fun r1634 σ1634 => ?_)
  refine j_fstore [(7, .float r1634), (6, .int r1622), (0, .ref b), (1, .ref (ea E 0)), (2, .ref (ea E 84)), (3, .ref (ea E 100)), (4, .ref (ea E 101)), (5, .int x5)] C dL_law_1637 (by decide) rfl ?_
  refine j_aload_n 4 C dL_law_1639 rfl rfl ?_
  refine j_callVI [] (con6_thrown N) C mi6_thrown mv6_thrown lkL_126 (by decide) (ct_84 E _) rfl rfl rfl ⟨Nat.le_of_ble_eq_true rfl, Nat.le_of_ble_eq_true rfl, (by show k + 1 + 0 + 0 ≤ 601024; omega), (by show n + 6 + 0 + 0 ≤ 7293034; omega), Nat.le_of_ble_eq_true rfl⟩ dL_law_1640 (fun r1640 σ1640 => ?_)
  refine j_iload 1 C dL_law_1643 rfl ?_
  refine j_ieq 1650 C dL_law_1645 (by decide) ?_ ?_
  · refine j_iload 1 C dL_law_1650 rfl ?_
    refine j_zne 1688 C dL_law_1652 (by decide) ?_ ?_
    · refine j_goto 2228 C dL_law_1688 (by decide) ?_
      exact j_sub [2, 3, 4, 5, 6, 7] rfl (j_widen (by show k + 1 + 0 + 0 ≤ k + 3; omega) (by show n + 6 + 0 + 0 ≤ n + 18; omega) (HK σ1640))
    · refine j_aload 6 C dL_law_1655 rfl ?_
      refine j_iconst (v := 0) 0 C dL_law_1657 (by decide) ?_
      refine j_dald C dL_law_1658 ?_
      refine j_fload 0 C dL_law_1659 rfl ?_
      refine j_f2d C dL_law_1661 ?_
      refine j_dcmp C dL_law_1662 ?_
      refine j_zeq 1688 C dL_law_1663 (by decide) ?_ ?_
      · refine j_goto 2228 C dL_law_1688 (by decide) ?_
        exact j_sub [2, 3, 4, 5, 6, 7] rfl (j_widen (by show k + 1 + 0 + 0 ≤ k + 3; omega) (by show n + 6 + 0 + 0 ≤ n + 18; omega) (HK σ1640))
      · refine j_aload 6 C dL_law_1666 rfl ?_
        refine j_iconst (v := 0) 0 C dL_law_1668 (by decide) ?_
        refine j_dald C dL_law_1669 ?_
        refine j_aload 6 C dL_law_1670 rfl ?_
        refine j_iconst (v := 0) 0 C dL_law_1672 (by decide) ?_
        refine j_dald C dL_law_1673 ?_
        refine j_dcmp C dL_law_1674 ?_
        refine j_zeq 1686 C dL_law_1675 (by decide) ?_ ?_
        · exact j_none
        · refine j_fload 0 C dL_law_1678 rfl ?_
          refine j_fload 0 C dL_law_1680 rfl ?_
          refine j_fcmp C dL_law_1682 ?_
          refine j_zne 1688 C dL_law_1683 (by decide) ?_ ?_
          · refine j_goto 2228 C dL_law_1688 (by decide) ?_
            exact j_sub [2, 3, 4, 5, 6, 7] rfl (j_widen (by show k + 1 + 0 + 0 ≤ k + 3; omega) (by show n + 6 + 0 + 0 ≤ n + 18; omega) (HK σ1640))
          · exact j_none
  · exact j_none
set_option maxHeartbeats 4000000 in
set_option maxRecDepth 100000 in
theorem wcase20 {ρ : Type} {E : En} {p : Program} {l : Launch} {e : Env} {s : State} {m : MethodId} {args : Array Value} {below : List Frame} {meth : Method} {c : Code} {Q : ρ → State → Prop} {b Ls k n : Nat} {xs : Nat → Int32} (N : Nat) (C : Cx E 9 p s m args c code RL) (hT : l.stackTraces = false) (hX : Sc E s b Ls xs) (hk : k + 3 ≤ 601024) (hn : n + 18 ≤ 7293034) (x5 : Int32) (K : Hp → Option ρ) (HK : ∀ σ, J E 9 p l e room_1 s m args below meth c Q (K σ) 2228 [(0, .ref b), (1, .ref (ea E 0)), (2, .ref (ea E 84)), (3, .ref (ea E 100)), (4, .ref (ea E 101)), (5, .int x5)] [] σ (k + 3) (n + 18)) (σ : Hp) : J E 9 p l e room_1 s m args below meth c Q (fL_case20 N xs Ls x5 K σ) 1691 [(0, .ref b), (1, .ref (ea E 0)), (2, .ref (ea E 84)), (3, .ref (ea E 100)), (4, .ref (ea E 101)), (5, .int x5)] [] σ k n := by
  unfold fL_case20
  refine j_aload_n 1 C dL_law_1691 rfl rfl ?_
  refine j_aload_n 0 C dL_law_1692 rfl rfl ?_
  refine j_iload 5 C dL_law_1693 rfl ?_
  refine j_iconst (v := 1) 1 C dL_law_1695 (by decide) ?_
  refine j_iadd C dL_law_1696 ?_
  refine j_sld C hX dL_law_1697 ?_
  refine j_aload 4 C dL_law_1698 rfl ?_
  refine j_callWI [.ref (ea E 0), .int (xs (x5 + 1).toNatClampNeg), .ref (ea E 101)] (conL_unevenness N (xs (x5 + 1).toNatClampNeg)) C hT miL_unevenness msL_unevenness lkL_193 rfl rfl ⟨Nat.le_of_ble_eq_true rfl, Nat.le_of_ble_eq_true rfl, (by show k + 1 ≤ 601024; omega), (by show n + 6 ≤ 7293034; omega), Nat.le_of_ble_eq_true rfl⟩ dL_law_1700 (fun r1700 σ1700 => ?_)
  refine j_istore [(6, .int r1700), (0, .ref b), (1, .ref (ea E 0)), (2, .ref (ea E 84)), (3, .ref (ea E 100)), (4, .ref (ea E 101)), (5, .int x5)] C dL_law_1703 (by decide) rfl ?_
  refine j_aload_n 3 C dL_law_1705 rfl rfl ?_
  refine j_aload_n 1 C dL_law_1706 rfl rfl ?_
  refine j_iload 6 C dL_law_1707 rfl ?_
  refine j_iconst (v := 1) 1 C dL_law_1709 (by decide) ?_
  refine j_iadd C dL_law_1710 ?_
  refine j_sld C hX dL_law_1711 ?_
  refine j_callVD [.int (xs (x5 + 1).toNatClampNeg)] (con6_unevenness N (xs (x5 + 1).toNatClampNeg)) C mi6_unevenness mv6_unevenness lkL_195 (by decide) (ct_84 E _) rfl rfl rfl ⟨Nat.le_of_ble_eq_true rfl, Nat.le_of_ble_eq_true rfl, (by show k + 1 + 0 ≤ 601024; omega), (by show n + 6 + 0 ≤ 7293034; omega), Nat.le_of_ble_eq_true rfl⟩ dL_law_1712 (fun r1712 σ1712 => ?_)
  refine j_dstore [(7, .double r1712), (6, .int r1700), (0, .ref b), (1, .ref (ea E 0)), (2, .ref (ea E 84)), (3, .ref (ea E 100)), (4, .ref (ea E 101)), (5, .int x5)] C dL_law_1715 (by decide) rfl ?_
  refine j_aload_n 4 C dL_law_1717 rfl rfl ?_
  refine j_callVI [] (con6_thrown N) C mi6_thrown mv6_thrown lkL_126 (by decide) (ct_84 E _) rfl rfl rfl ⟨Nat.le_of_ble_eq_true rfl, Nat.le_of_ble_eq_true rfl, (by show k + 1 + 0 + 0 ≤ 601024; omega), (by show n + 6 + 0 + 0 ≤ 7293034; omega), Nat.le_of_ble_eq_true rfl⟩ dL_law_1718 (fun r1718 σ1718 => ?_)
  refine j_iload 1 C dL_law_1721 rfl ?_
  refine j_ieq 1728 C dL_law_1723 (by decide) ?_ ?_
  · refine j_iload 1 C dL_law_1728 rfl ?_
    refine j_zne 1765 C dL_law_1730 (by decide) ?_ ?_
    · refine j_goto 2228 C dL_law_1765 (by decide) ?_
      exact j_sub [2, 3, 4, 5, 6, 7] rfl (j_widen (by show k + 1 + 0 + 0 ≤ k + 3; omega) (by show n + 6 + 0 + 0 ≤ n + 18; omega) (HK σ1718))
    · refine j_aload 6 C dL_law_1733 rfl ?_
      refine j_iconst (v := 0) 0 C dL_law_1735 (by decide) ?_
      refine j_dald C dL_law_1736 ?_
      refine j_dload 0 C dL_law_1737 rfl ?_
      refine j_dcmp C dL_law_1739 ?_
      refine j_zeq 1765 C dL_law_1740 (by decide) ?_ ?_
      · refine j_goto 2228 C dL_law_1765 (by decide) ?_
        exact j_sub [2, 3, 4, 5, 6, 7] rfl (j_widen (by show k + 1 + 0 + 0 ≤ k + 3; omega) (by show n + 6 + 0 + 0 ≤ n + 18; omega) (HK σ1718))
      · refine j_aload 6 C dL_law_1743 rfl ?_
        refine j_iconst (v := 0) 0 C dL_law_1745 (by decide) ?_
        refine j_dald C dL_law_1746 ?_
        refine j_aload 6 C dL_law_1747 rfl ?_
        refine j_iconst (v := 0) 0 C dL_law_1749 (by decide) ?_
        refine j_dald C dL_law_1750 ?_
        refine j_dcmp C dL_law_1751 ?_
        refine j_zeq 1763 C dL_law_1752 (by decide) ?_ ?_
        · exact j_none
        · refine j_dload 0 C dL_law_1755 rfl ?_
          refine j_dload 0 C dL_law_1757 rfl ?_
          refine j_dcmp C dL_law_1759 ?_
          refine j_zne 1765 C dL_law_1760 (by decide) ?_ ?_
          · refine j_goto 2228 C dL_law_1765 (by decide) ?_
            exact j_sub [2, 3, 4, 5, 6, 7] rfl (j_widen (by show k + 1 + 0 + 0 ≤ k + 3; omega) (by show n + 6 + 0 + 0 ≤ n + 18; omega) (HK σ1718))
          · exact j_none
  · exact j_none
